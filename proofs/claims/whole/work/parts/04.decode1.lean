theorem dX9_lowerGreatest_85 : decode cX9_lowerGreatest 85 = .ok (.iinc 2 1, 3) := by decide +kernel
theorem dX9_lowerGreatest_88 : decode cX9_lowerGreatest 88 = .ok (.goto (-84), 3) := by decide +kernel
theorem dX9_lowerGreatest_91 : decode cX9_lowerGreatest 91 = .ok (.return_, 1) := by decide +kernel
theorem dX9_isCrossed_0 : decode cX9_isCrossed 0 = .ok (.iconst 0, 1) := by decide +kernel
theorem dX9_isCrossed_1 : decode cX9_isCrossed 1 = .ok (.istore_n 1, 1) := by decide +kernel
theorem dX9_isCrossed_2 : decode cX9_isCrossed 2 = .ok (.iload_n 1, 1) := by decide +kernel
theorem dX9_isCrossed_3 : decode cX9_isCrossed 3 = .ok (.aload_n 0, 1) := by decide +kernel
theorem dX9_isCrossed_4 : decode cX9_isCrossed 4 = .ok (.getfield 39, 3) := by decide +kernel
theorem dX9_isCrossed_7 : decode cX9_isCrossed 7 = .ok (.if_icmp .ge 26, 3) := by decide +kernel
theorem dX9_isCrossed_10 : decode cX9_isCrossed 10 = .ok (.aload_n 0, 1) := by decide +kernel
theorem dX9_isCrossed_11 : decode cX9_isCrossed 11 = .ok (.getfield 9, 3) := by decide +kernel
theorem dX9_isCrossed_14 : decode cX9_isCrossed 14 = .ok (.iload_n 1, 1) := by decide +kernel
theorem dX9_isCrossed_15 : decode cX9_isCrossed 15 = .ok (.iaload, 1) := by decide +kernel
theorem dX9_isCrossed_16 : decode cX9_isCrossed 16 = .ok (.aload_n 0, 1) := by decide +kernel
theorem dX9_isCrossed_17 : decode cX9_isCrossed 17 = .ok (.getfield 15, 3) := by decide +kernel
theorem dX9_isCrossed_20 : decode cX9_isCrossed 20 = .ok (.iload_n 1, 1) := by decide +kernel
theorem dX9_isCrossed_21 : decode cX9_isCrossed 21 = .ok (.iaload, 1) := by decide +kernel
theorem dX9_isCrossed_22 : decode cX9_isCrossed 22 = .ok (.if_icmp .le 5, 3) := by decide +kernel
theorem dX9_isCrossed_25 : decode cX9_isCrossed 25 = .ok (.iconst 1, 1) := by decide +kernel
theorem dX9_isCrossed_26 : decode cX9_isCrossed 26 = .ok (.ireturn, 1) := by decide +kernel
theorem dX9_isCrossed_27 : decode cX9_isCrossed 27 = .ok (.iinc 1 1, 3) := by decide +kernel
theorem dX9_isCrossed_30 : decode cX9_isCrossed 30 = .ok (.goto (-28), 3) := by decide +kernel
theorem dX9_isCrossed_33 : decode cX9_isCrossed 33 = .ok (.iconst 0, 1) := by decide +kernel
theorem dX9_isCrossed_34 : decode cX9_isCrossed 34 = .ok (.ireturn, 1) := by decide +kernel
theorem dX9_spoiledBit_0 : decode cX9_spoiledBit 0 = .ok (.aload_n 0, 1) := by decide +kernel
theorem dX9_spoiledBit_1 : decode cX9_spoiledBit 1 = .ok (.getfield 57, 3) := by decide +kernel
theorem dX9_spoiledBit_4 : decode cX9_spoiledBit 4 = .ok (.ifCond .eq 7, 3) := by decide +kernel
theorem dX9_spoiledBit_7 : decode cX9_spoiledBit 7 = .ok (.iconst 1, 1) := by decide +kernel
theorem dX9_spoiledBit_8 : decode cX9_spoiledBit 8 = .ok (.goto 4, 3) := by decide +kernel
theorem dX9_spoiledBit_11 : decode cX9_spoiledBit 11 = .ok (.iconst 0, 1) := by decide +kernel
theorem dX9_spoiledBit_12 : decode cX9_spoiledBit 12 = .ok (.ireturn, 1) := by decide +kernel
theorem dX9_isMoment_0 : decode cX9_isMoment 0 = .ok (.iload_n 1, 1) := by decide +kernel
theorem dX9_isMoment_1 : decode cX9_isMoment 1 = .ok (.ifCond .lt 15, 3) := by decide +kernel
theorem dX9_isMoment_4 : decode cX9_isMoment 4 = .ok (.iload_n 1, 1) := by decide +kernel
theorem dX9_isMoment_5 : decode cX9_isMoment 5 = .ok (.aload_n 0, 1) := by decide +kernel
theorem dX9_isMoment_6 : decode cX9_isMoment 6 = .ok (.getfield 39, 3) := by decide +kernel
theorem dX9_isMoment_9 : decode cX9_isMoment 9 = .ok (.if_icmp .ge 7, 3) := by decide +kernel
theorem dX9_isMoment_12 : decode cX9_isMoment 12 = .ok (.iconst 1, 1) := by decide +kernel
theorem dX9_isMoment_13 : decode cX9_isMoment 13 = .ok (.goto 4, 3) := by decide +kernel
theorem dX9_isMoment_16 : decode cX9_isMoment 16 = .ok (.iconst 0, 1) := by decide +kernel
theorem dX9_isMoment_17 : decode cX9_isMoment 17 = .ok (.ireturn, 1) := by decide +kernel
theorem dX9_isKnown_0 : decode cX9_isKnown 0 = .ok (.aload_n 0, 1) := by decide +kernel
theorem dX9_isKnown_1 : decode cX9_isKnown 1 = .ok (.getfield 57, 3) := by decide +kernel
theorem dX9_isKnown_4 : decode cX9_isKnown 4 = .ok (.ifCond .ne 15, 3) := by decide +kernel
theorem dX9_isKnown_7 : decode cX9_isKnown 7 = .ok (.aload_n 0, 1) := by decide +kernel
theorem dX9_isKnown_8 : decode cX9_isKnown 8 = .ok (.iload_n 1, 1) := by decide +kernel
theorem dX9_isKnown_9 : decode cX9_isKnown 9 = .ok (.invokevirtual 81, 3) := by decide +kernel
theorem dX9_isKnown_12 : decode cX9_isKnown 12 = .ok (.ifCond .eq 7, 3) := by decide +kernel
theorem dX9_isKnown_15 : decode cX9_isKnown 15 = .ok (.iconst 1, 1) := by decide +kernel
theorem dX9_isKnown_16 : decode cX9_isKnown 16 = .ok (.goto 4, 3) := by decide +kernel
theorem dX9_isKnown_19 : decode cX9_isKnown 19 = .ok (.iconst 0, 1) := by decide +kernel
theorem dX9_isKnown_20 : decode cX9_isKnown 20 = .ok (.ireturn, 1) := by decide +kernel
theorem dX9_leastOf_0 : decode cX9_leastOf 0 = .ok (.aload_n 0, 1) := by decide +kernel
theorem dX9_leastOf_1 : decode cX9_leastOf 1 = .ok (.iload_n 1, 1) := by decide +kernel
theorem dX9_leastOf_2 : decode cX9_leastOf 2 = .ok (.invokevirtual 85, 3) := by decide +kernel
theorem dX9_leastOf_5 : decode cX9_leastOf 5 = .ok (.ifCond .eq 12, 3) := by decide +kernel
theorem dX9_leastOf_8 : decode cX9_leastOf 8 = .ok (.aload_n 0, 1) := by decide +kernel
theorem dX9_leastOf_9 : decode cX9_leastOf 9 = .ok (.getfield 9, 3) := by decide +kernel
theorem dX9_leastOf_12 : decode cX9_leastOf 12 = .ok (.iload_n 1, 1) := by decide +kernel
theorem dX9_leastOf_13 : decode cX9_leastOf 13 = .ok (.iaload, 1) := by decide +kernel
theorem dX9_leastOf_14 : decode cX9_leastOf 14 = .ok (.goto 4, 3) := by decide +kernel
theorem dX9_leastOf_17 : decode cX9_leastOf 17 = .ok (.iconst (-1), 1) := by decide +kernel
theorem dX9_leastOf_18 : decode cX9_leastOf 18 = .ok (.ireturn, 1) := by decide +kernel
theorem dX9_greatestOf_0 : decode cX9_greatestOf 0 = .ok (.aload_n 0, 1) := by decide +kernel
theorem dX9_greatestOf_1 : decode cX9_greatestOf 1 = .ok (.iload_n 1, 1) := by decide +kernel
theorem dX9_greatestOf_2 : decode cX9_greatestOf 2 = .ok (.invokevirtual 85, 3) := by decide +kernel
theorem dX9_greatestOf_5 : decode cX9_greatestOf 5 = .ok (.ifCond .eq 12, 3) := by decide +kernel
theorem dX9_greatestOf_8 : decode cX9_greatestOf 8 = .ok (.aload_n 0, 1) := by decide +kernel
theorem dX9_greatestOf_9 : decode cX9_greatestOf 9 = .ok (.getfield 15, 3) := by decide +kernel
theorem dX9_greatestOf_12 : decode cX9_greatestOf 12 = .ok (.iload_n 1, 1) := by decide +kernel
theorem dX9_greatestOf_13 : decode cX9_greatestOf 13 = .ok (.iaload, 1) := by decide +kernel
theorem dX9_greatestOf_14 : decode cX9_greatestOf 14 = .ok (.goto 4, 3) := by decide +kernel
theorem dX9_greatestOf_17 : decode cX9_greatestOf 17 = .ok (.iconst (-1), 1) := by decide +kernel
theorem dX9_greatestOf_18 : decode cX9_greatestOf 18 = .ok (.ireturn, 1) := by decide +kernel
theorem dX9_leastBirth_0 : decode cX9_leastBirth 0 = .ok (.aload_n 0, 1) := by decide +kernel
theorem dX9_leastBirth_1 : decode cX9_leastBirth 1 = .ok (.iload_n 1, 1) := by decide +kernel
theorem dX9_leastBirth_2 : decode cX9_leastBirth 2 = .ok (.invokestatic 64, 3) := by decide +kernel
theorem dX9_leastBirth_5 : decode cX9_leastBirth 5 = .ok (.invokevirtual 88, 3) := by decide +kernel
theorem dX9_leastBirth_8 : decode cX9_leastBirth 8 = .ok (.ireturn, 1) := by decide +kernel
theorem dX9_greatestBirth_0 : decode cX9_greatestBirth 0 = .ok (.aload_n 0, 1) := by decide +kernel
theorem dX9_greatestBirth_1 : decode cX9_greatestBirth 1 = .ok (.iload_n 1, 1) := by decide +kernel
theorem dX9_greatestBirth_2 : decode cX9_greatestBirth 2 = .ok (.invokestatic 64, 3) := by decide +kernel
theorem dX9_greatestBirth_5 : decode cX9_greatestBirth 5 = .ok (.invokevirtual 91, 3) := by decide +kernel
theorem dX9_greatestBirth_8 : decode cX9_greatestBirth 8 = .ok (.ireturn, 1) := by decide +kernel
theorem dX9_leastDeath_0 : decode cX9_leastDeath 0 = .ok (.aload_n 0, 1) := by decide +kernel
theorem dX9_leastDeath_1 : decode cX9_leastDeath 1 = .ok (.iload_n 1, 1) := by decide +kernel
theorem dX9_leastDeath_2 : decode cX9_leastDeath 2 = .ok (.invokestatic 71, 3) := by decide +kernel
theorem dX9_leastDeath_5 : decode cX9_leastDeath 5 = .ok (.invokevirtual 88, 3) := by decide +kernel
theorem dX9_leastDeath_8 : decode cX9_leastDeath 8 = .ok (.ireturn, 1) := by decide +kernel
theorem dX9_greatestDeath_0 : decode cX9_greatestDeath 0 = .ok (.aload_n 0, 1) := by decide +kernel
theorem dX9_greatestDeath_1 : decode cX9_greatestDeath 1 = .ok (.iload_n 1, 1) := by decide +kernel
theorem dX9_greatestDeath_2 : decode cX9_greatestDeath 2 = .ok (.invokestatic 71, 3) := by decide +kernel
theorem dX9_greatestDeath_5 : decode cX9_greatestDeath 5 = .ok (.invokevirtual 91, 3) := by decide +kernel
theorem dX9_greatestDeath_8 : decode cX9_greatestDeath 8 = .ok (.ireturn, 1) := by decide +kernel
theorem dX9_diedBetween_0 : decode cX9_diedBetween 0 = .ok (.iconst 0, 1) := by decide +kernel
theorem dX9_diedBetween_1 : decode cX9_diedBetween 1 = .ok (.istore 4, 2) := by decide +kernel
theorem dX9_diedBetween_3 : decode cX9_diedBetween 3 = .ok (.iconst 0, 1) := by decide +kernel
theorem dX9_diedBetween_4 : decode cX9_diedBetween 4 = .ok (.istore 5, 2) := by decide +kernel
theorem dX9_diedBetween_6 : decode cX9_diedBetween 6 = .ok (.iload 5, 2) := by decide +kernel
theorem dX9_diedBetween_8 : decode cX9_diedBetween 8 = .ok (.iload_n 1, 1) := by decide +kernel
theorem dX9_diedBetween_9 : decode cX9_diedBetween 9 = .ok (.if_icmp .ge 45, 3) := by decide +kernel
theorem dX9_diedBetween_12 : decode cX9_diedBetween 12 = .ok (.aload_n 0, 1) := by decide +kernel
theorem dX9_diedBetween_13 : decode cX9_diedBetween 13 = .ok (.getfield 57, 3) := by decide +kernel
theorem dX9_diedBetween_16 : decode cX9_diedBetween 16 = .ok (.ifCond .ne 38, 3) := by decide +kernel
theorem dX9_diedBetween_19 : decode cX9_diedBetween 19 = .ok (.aload_n 0, 1) := by decide +kernel
theorem dX9_diedBetween_20 : decode cX9_diedBetween 20 = .ok (.iload 5, 2) := by decide +kernel
theorem dX9_diedBetween_22 : decode cX9_diedBetween 22 = .ok (.invokevirtual 94, 3) := by decide +kernel
theorem dX9_diedBetween_25 : decode cX9_diedBetween 25 = .ok (.iload_n 3, 1) := by decide +kernel
theorem dX9_diedBetween_26 : decode cX9_diedBetween 26 = .ok (.if_icmp .gt 22, 3) := by decide +kernel
theorem dX9_diedBetween_29 : decode cX9_diedBetween 29 = .ok (.aload_n 0, 1) := by decide +kernel
theorem dX9_diedBetween_30 : decode cX9_diedBetween 30 = .ok (.iload 5, 2) := by decide +kernel
theorem dX9_diedBetween_32 : decode cX9_diedBetween 32 = .ok (.invokevirtual 97, 3) := by decide +kernel
theorem dX9_diedBetween_35 : decode cX9_diedBetween 35 = .ok (.iload_n 2, 1) := by decide +kernel
theorem dX9_diedBetween_36 : decode cX9_diedBetween 36 = .ok (.if_icmp .lt 12, 3) := by decide +kernel
theorem dX9_diedBetween_39 : decode cX9_diedBetween 39 = .ok (.iload 4, 2) := by decide +kernel
theorem dX9_diedBetween_41 : decode cX9_diedBetween 41 = .ok (.iconst 1, 1) := by decide +kernel
theorem dX9_diedBetween_42 : decode cX9_diedBetween 42 = .ok (.iload 5, 2) := by decide +kernel
theorem dX9_diedBetween_44 : decode cX9_diedBetween 44 = .ok (.ishl, 1) := by decide +kernel
theorem dX9_diedBetween_45 : decode cX9_diedBetween 45 = .ok (.ior, 1) := by decide +kernel
theorem dX9_diedBetween_46 : decode cX9_diedBetween 46 = .ok (.istore 4, 2) := by decide +kernel
theorem dX9_diedBetween_48 : decode cX9_diedBetween 48 = .ok (.iinc 5 1, 3) := by decide +kernel
theorem dX9_diedBetween_51 : decode cX9_diedBetween 51 = .ok (.goto (-45), 3) := by decide +kernel
theorem dX9_diedBetween_54 : decode cX9_diedBetween 54 = .ok (.iload 4, 2) := by decide +kernel
theorem dX9_diedBetween_56 : decode cX9_diedBetween 56 = .ok (.ireturn, 1) := by decide +kernel
theorem dX10_init_0 : decode cX10_init 0 = .ok (.aload_n 0, 1) := by decide +kernel
theorem dX10_init_1 : decode cX10_init 1 = .ok (.invokespecial 1, 3) := by decide +kernel
theorem dX10_init_4 : decode cX10_init 4 = .ok (.aload_n 0, 1) := by decide +kernel
theorem dX10_init_5 : decode cX10_init 5 = .ok (.new 7, 3) := by decide +kernel
theorem dX10_init_8 : decode cX10_init 8 = .ok (.dup, 1) := by decide +kernel
theorem dX10_init_9 : decode cX10_init 9 = .ok (.invokespecial 9, 3) := by decide +kernel
theorem dX10_init_12 : decode cX10_init 12 = .ok (.putfield 10, 3) := by decide +kernel
theorem dX10_init_15 : decode cX10_init 15 = .ok (.aload_n 0, 1) := by decide +kernel
theorem dX10_init_16 : decode cX10_init 16 = .ok (.new 16, 3) := by decide +kernel
theorem dX10_init_19 : decode cX10_init 19 = .ok (.dup, 1) := by decide +kernel
theorem dX10_init_20 : decode cX10_init 20 = .ok (.invokespecial 18, 3) := by decide +kernel
theorem dX10_init_23 : decode cX10_init 23 = .ok (.putfield 19, 3) := by decide +kernel
theorem dX10_init_26 : decode cX10_init 26 = .ok (.aload_n 0, 1) := by decide +kernel
theorem dX10_init_27 : decode cX10_init 27 = .ok (.new 23, 3) := by decide +kernel
theorem dX10_init_30 : decode cX10_init 30 = .ok (.dup, 1) := by decide +kernel
theorem dX10_init_31 : decode cX10_init 31 = .ok (.invokespecial 25, 3) := by decide +kernel
theorem dX10_init_34 : decode cX10_init 34 = .ok (.putfield 26, 3) := by decide +kernel
theorem dX10_init_37 : decode cX10_init 37 = .ok (.aload_n 0, 1) := by decide +kernel
theorem dX10_init_38 : decode cX10_init 38 = .ok (.new 30, 3) := by decide +kernel
theorem dX10_init_41 : decode cX10_init 41 = .ok (.dup, 1) := by decide +kernel
theorem dX10_init_42 : decode cX10_init 42 = .ok (.invokespecial 32, 3) := by decide +kernel
theorem dX10_init_45 : decode cX10_init 45 = .ok (.putfield 33, 3) := by decide +kernel
theorem dX10_init_48 : decode cX10_init 48 = .ok (.aload_n 0, 1) := by decide +kernel
theorem dX10_init_49 : decode cX10_init 49 = .ok (.new 37, 3) := by decide +kernel
theorem dX10_init_52 : decode cX10_init 52 = .ok (.dup, 1) := by decide +kernel
theorem dX10_init_53 : decode cX10_init 53 = .ok (.invokespecial 39, 3) := by decide +kernel
theorem dX10_init_56 : decode cX10_init 56 = .ok (.putfield 40, 3) := by decide +kernel
theorem dX10_init_59 : decode cX10_init 59 = .ok (.aload_n 0, 1) := by decide +kernel
theorem dX10_init_60 : decode cX10_init 60 = .ok (.new 44, 3) := by decide +kernel
theorem dX10_init_63 : decode cX10_init 63 = .ok (.dup, 1) := by decide +kernel
theorem dX10_init_64 : decode cX10_init 64 = .ok (.invokespecial 46, 3) := by decide +kernel
theorem dX10_init_67 : decode cX10_init 67 = .ok (.putfield 47, 3) := by decide +kernel
theorem dX10_init_70 : decode cX10_init 70 = .ok (.aload_n 0, 1) := by decide +kernel
theorem dX10_init_71 : decode cX10_init 71 = .ok (.new 51, 3) := by decide +kernel
theorem dX10_init_74 : decode cX10_init 74 = .ok (.dup, 1) := by decide +kernel
theorem dX10_init_75 : decode cX10_init 75 = .ok (.invokespecial 53, 3) := by decide +kernel
theorem dX10_init_78 : decode cX10_init 78 = .ok (.putfield 54, 3) := by decide +kernel
theorem dX10_init_81 : decode cX10_init 81 = .ok (.aload_n 0, 1) := by decide +kernel
theorem dX10_init_82 : decode cX10_init 82 = .ok (.new 58, 3) := by decide +kernel
theorem dX10_init_85 : decode cX10_init 85 = .ok (.dup, 1) := by decide +kernel
theorem dX10_init_86 : decode cX10_init 86 = .ok (.invokespecial 60, 3) := by decide +kernel
theorem dX10_init_89 : decode cX10_init 89 = .ok (.putfield 61, 3) := by decide +kernel
theorem dX10_init_92 : decode cX10_init 92 = .ok (.aload_n 0, 1) := by decide +kernel
theorem dX10_init_93 : decode cX10_init 93 = .ok (.new 65, 3) := by decide +kernel
theorem dX10_init_96 : decode cX10_init 96 = .ok (.dup, 1) := by decide +kernel
theorem dX10_init_97 : decode cX10_init 97 = .ok (.invokespecial 67, 3) := by decide +kernel
theorem dX10_init_100 : decode cX10_init 100 = .ok (.putfield 68, 3) := by decide +kernel
theorem dX10_init_103 : decode cX10_init 103 = .ok (.return_, 1) := by decide +kernel
theorem dX10_told_0 : decode cX10_told 0 = .ok (.iload_n 1, 1) := by decide +kernel
theorem dX10_told_1 : decode cX10_told 1 = .ok (.tableswitch 187 0 11 #[63, 71, 79, 87, 95, 103, 111, 127, 143, 159, 167, 179], 63) := by decide +kernel
theorem dX10_told_64 : decode cX10_told 64 = .ok (.aload_n 0, 1) := by decide +kernel
theorem dX10_told_65 : decode cX10_told 65 = .ok (.getfield 10, 3) := by decide +kernel
theorem dX10_told_68 : decode cX10_told 68 = .ok (.invokevirtual 72, 3) := by decide +kernel
theorem dX10_told_71 : decode cX10_told 71 = .ok (.ireturn, 1) := by decide +kernel
theorem dX10_told_72 : decode cX10_told 72 = .ok (.aload_n 0, 1) := by decide +kernel
theorem dX10_told_73 : decode cX10_told 73 = .ok (.getfield 10, 3) := by decide +kernel
theorem dX10_told_76 : decode cX10_told 76 = .ok (.invokevirtual 76, 3) := by decide +kernel
theorem dX10_told_79 : decode cX10_told 79 = .ok (.ireturn, 1) := by decide +kernel
theorem dX10_told_80 : decode cX10_told 80 = .ok (.aload_n 0, 1) := by decide +kernel
theorem dX10_told_81 : decode cX10_told 81 = .ok (.getfield 10, 3) := by decide +kernel
theorem dX10_told_84 : decode cX10_told 84 = .ok (.invokevirtual 79, 3) := by decide +kernel
theorem dX10_told_87 : decode cX10_told 87 = .ok (.ireturn, 1) := by decide +kernel
theorem dX10_told_88 : decode cX10_told 88 = .ok (.aload_n 0, 1) := by decide +kernel
theorem dX10_told_89 : decode cX10_told 89 = .ok (.getfield 19, 3) := by decide +kernel
theorem dX10_told_92 : decode cX10_told 92 = .ok (.getfield 82, 3) := by decide +kernel
theorem dX10_told_95 : decode cX10_told 95 = .ok (.ireturn, 1) := by decide +kernel
theorem dX10_told_96 : decode cX10_told 96 = .ok (.aload_n 0, 1) := by decide +kernel
theorem dX10_told_97 : decode cX10_told 97 = .ok (.getfield 19, 3) := by decide +kernel
theorem dX10_told_100 : decode cX10_told 100 = .ok (.invokevirtual 86, 3) := by decide +kernel
theorem dX10_told_103 : decode cX10_told 103 = .ok (.ireturn, 1) := by decide +kernel
theorem dX10_told_104 : decode cX10_told 104 = .ok (.aload_n 0, 1) := by decide +kernel
theorem dX10_told_105 : decode cX10_told 105 = .ok (.getfield 26, 3) := by decide +kernel
theorem dX10_told_108 : decode cX10_told 108 = .ok (.invokevirtual 89, 3) := by decide +kernel
theorem dX10_told_111 : decode cX10_told 111 = .ok (.ireturn, 1) := by decide +kernel
theorem dX10_told_112 : decode cX10_told 112 = .ok (.aload_n 0, 1) := by decide +kernel
theorem dX10_told_113 : decode cX10_told 113 = .ok (.getfield 33, 3) := by decide +kernel
theorem dX10_told_116 : decode cX10_told 116 = .ok (.aload_n 0, 1) := by decide +kernel
theorem dX10_told_117 : decode cX10_told 117 = .ok (.getfield 10, 3) := by decide +kernel
theorem dX10_told_120 : decode cX10_told 120 = .ok (.aload_n 0, 1) := by decide +kernel
theorem dX10_told_121 : decode cX10_told 121 = .ok (.getfield 19, 3) := by decide +kernel
theorem dX10_told_124 : decode cX10_told 124 = .ok (.invokevirtual 92, 3) := by decide +kernel
theorem dX10_told_127 : decode cX10_told 127 = .ok (.ireturn, 1) := by decide +kernel
theorem dX10_told_128 : decode cX10_told 128 = .ok (.aload_n 0, 1) := by decide +kernel
theorem dX10_told_129 : decode cX10_told 129 = .ok (.getfield 33, 3) := by decide +kernel
theorem dX10_told_132 : decode cX10_told 132 = .ok (.aload_n 0, 1) := by decide +kernel
theorem dX10_told_133 : decode cX10_told 133 = .ok (.getfield 10, 3) := by decide +kernel
theorem dX10_told_136 : decode cX10_told 136 = .ok (.aload_n 0, 1) := by decide +kernel
theorem dX10_told_137 : decode cX10_told 137 = .ok (.getfield 19, 3) := by decide +kernel
theorem dX10_told_140 : decode cX10_told 140 = .ok (.invokevirtual 96, 3) := by decide +kernel
theorem dX10_told_143 : decode cX10_told 143 = .ok (.ireturn, 1) := by decide +kernel
theorem dX10_told_144 : decode cX10_told 144 = .ok (.aload_n 0, 1) := by decide +kernel
theorem dX10_told_145 : decode cX10_told 145 = .ok (.getfield 33, 3) := by decide +kernel
theorem dX10_told_148 : decode cX10_told 148 = .ok (.aload_n 0, 1) := by decide +kernel
theorem dX10_told_149 : decode cX10_told 149 = .ok (.getfield 10, 3) := by decide +kernel
theorem dX10_told_152 : decode cX10_told 152 = .ok (.aload_n 0, 1) := by decide +kernel
theorem dX10_told_153 : decode cX10_told 153 = .ok (.getfield 19, 3) := by decide +kernel
theorem dX10_told_156 : decode cX10_told 156 = .ok (.invokevirtual 99, 3) := by decide +kernel
theorem dX10_told_159 : decode cX10_told 159 = .ok (.ireturn, 1) := by decide +kernel
theorem dX10_told_160 : decode cX10_told 160 = .ok (.aload_n 0, 1) := by decide +kernel
theorem dX10_told_161 : decode cX10_told 161 = .ok (.getfield 47, 3) := by decide +kernel
theorem dX10_told_164 : decode cX10_told 164 = .ok (.getfield 102, 3) := by decide +kernel
theorem dX10_told_167 : decode cX10_told 167 = .ok (.ireturn, 1) := by decide +kernel
theorem dX10_told_168 : decode cX10_told 168 = .ok (.aload_n 0, 1) := by decide +kernel
theorem dX10_told_169 : decode cX10_told 169 = .ok (.getfield 47, 3) := by decide +kernel
theorem dX10_told_172 : decode cX10_told 172 = .ok (.aload_n 0, 1) := by decide +kernel
theorem dX10_told_173 : decode cX10_told 173 = .ok (.getfield 19, 3) := by decide +kernel
theorem dX10_told_176 : decode cX10_told 176 = .ok (.invokevirtual 105, 3) := by decide +kernel
theorem dX10_told_179 : decode cX10_told 179 = .ok (.ireturn, 1) := by decide +kernel
theorem dX10_told_180 : decode cX10_told 180 = .ok (.aload_n 0, 1) := by decide +kernel
theorem dX10_told_181 : decode cX10_told 181 = .ok (.getfield 54, 3) := by decide +kernel
theorem dX10_told_184 : decode cX10_told 184 = .ok (.getfield 109, 3) := by decide +kernel
theorem dX10_told_187 : decode cX10_told 187 = .ok (.ireturn, 1) := by decide +kernel
theorem dX10_told_188 : decode cX10_told 188 = .ok (.ldc 112, 2) := by decide +kernel
theorem dX10_told_190 : decode cX10_told 190 = .ok (.ireturn, 1) := by decide +kernel
theorem dX10_person_0 : decode cX10_person 0 = .ok (.aload_n 0, 1) := by decide +kernel
theorem dX10_person_1 : decode cX10_person 1 = .ok (.getfield 10, 3) := by decide +kernel
theorem dX10_person_4 : decode cX10_person 4 = .ok (.iload_n 1, 1) := by decide +kernel
theorem dX10_person_5 : decode cX10_person 5 = .ok (.invokevirtual 113, 3) := by decide +kernel
theorem dX10_person_8 : decode cX10_person 8 = .ok (.ifCond .ne 6, 3) := by decide +kernel
theorem dX10_person_11 : decode cX10_person 11 = .ok (.ldc 117, 2) := by decide +kernel
theorem dX10_person_13 : decode cX10_person 13 = .ok (.ireturn, 1) := by decide +kernel
theorem dX10_person_14 : decode cX10_person 14 = .ok (.iload_n 2, 1) := by decide +kernel
theorem dX10_person_15 : decode cX10_person 15 = .ok (.tableswitch 239 0 15 #[77, 87, 97, 107, 117, 126, 135, 152, 161, 171, 181, 192, 203, 212, 221, 230], 77) := by decide +kernel
theorem dX10_person_92 : decode cX10_person 92 = .ok (.aload_n 0, 1) := by decide +kernel
theorem dX10_person_93 : decode cX10_person 93 = .ok (.getfield 10, 3) := by decide +kernel
theorem dX10_person_96 : decode cX10_person 96 = .ok (.iload_n 1, 1) := by decide +kernel
theorem dX10_person_97 : decode cX10_person 97 = .ok (.iconst 0, 1) := by decide +kernel
theorem dX10_person_98 : decode cX10_person 98 = .ok (.invokevirtual 118, 3) := by decide +kernel
theorem dX10_person_101 : decode cX10_person 101 = .ok (.ireturn, 1) := by decide +kernel
theorem dX10_person_102 : decode cX10_person 102 = .ok (.aload_n 0, 1) := by decide +kernel
theorem dX10_person_103 : decode cX10_person 103 = .ok (.getfield 10, 3) := by decide +kernel
theorem dX10_person_106 : decode cX10_person 106 = .ok (.iload_n 1, 1) := by decide +kernel
theorem dX10_person_107 : decode cX10_person 107 = .ok (.iconst 1, 1) := by decide +kernel
theorem dX10_person_108 : decode cX10_person 108 = .ok (.invokevirtual 118, 3) := by decide +kernel
theorem dX10_person_111 : decode cX10_person 111 = .ok (.ireturn, 1) := by decide +kernel
theorem dX10_person_112 : decode cX10_person 112 = .ok (.aload_n 0, 1) := by decide +kernel
theorem dX10_person_113 : decode cX10_person 113 = .ok (.getfield 10, 3) := by decide +kernel
theorem dX10_person_116 : decode cX10_person 116 = .ok (.iload_n 1, 1) := by decide +kernel
theorem dX10_person_117 : decode cX10_person 117 = .ok (.iconst 2, 1) := by decide +kernel
theorem dX10_person_118 : decode cX10_person 118 = .ok (.invokevirtual 118, 3) := by decide +kernel
theorem dX10_person_121 : decode cX10_person 121 = .ok (.ireturn, 1) := by decide +kernel
theorem dX10_person_122 : decode cX10_person 122 = .ok (.aload_n 0, 1) := by decide +kernel
theorem dX10_person_123 : decode cX10_person 123 = .ok (.getfield 10, 3) := by decide +kernel
theorem dX10_person_126 : decode cX10_person 126 = .ok (.iload_n 1, 1) := by decide +kernel
theorem dX10_person_127 : decode cX10_person 127 = .ok (.iconst 3, 1) := by decide +kernel
theorem dX10_person_128 : decode cX10_person 128 = .ok (.invokevirtual 118, 3) := by decide +kernel
theorem dX10_person_131 : decode cX10_person 131 = .ok (.ireturn, 1) := by decide +kernel
theorem dX10_person_132 : decode cX10_person 132 = .ok (.aload_n 0, 1) := by decide +kernel
theorem dX10_person_133 : decode cX10_person 133 = .ok (.getfield 19, 3) := by decide +kernel
theorem dX10_person_136 : decode cX10_person 136 = .ok (.iload_n 1, 1) := by decide +kernel
theorem dX10_person_137 : decode cX10_person 137 = .ok (.invokevirtual 122, 3) := by decide +kernel
theorem dX10_person_140 : decode cX10_person 140 = .ok (.ireturn, 1) := by decide +kernel
theorem dX10_person_141 : decode cX10_person 141 = .ok (.aload_n 0, 1) := by decide +kernel
theorem dX10_person_142 : decode cX10_person 142 = .ok (.getfield 19, 3) := by decide +kernel
theorem dX10_person_145 : decode cX10_person 145 = .ok (.iload_n 1, 1) := by decide +kernel
theorem dX10_person_146 : decode cX10_person 146 = .ok (.invokevirtual 126, 3) := by decide +kernel
theorem dX10_person_149 : decode cX10_person 149 = .ok (.ireturn, 1) := by decide +kernel
theorem dX10_person_150 : decode cX10_person 150 = .ok (.aload_n 0, 1) := by decide +kernel
theorem dX10_person_151 : decode cX10_person 151 = .ok (.getfield 33, 3) := by decide +kernel
theorem dX10_person_154 : decode cX10_person 154 = .ok (.aload_n 0, 1) := by decide +kernel
theorem dX10_person_155 : decode cX10_person 155 = .ok (.getfield 10, 3) := by decide +kernel
theorem dX10_person_158 : decode cX10_person 158 = .ok (.aload_n 0, 1) := by decide +kernel
theorem dX10_person_159 : decode cX10_person 159 = .ok (.getfield 19, 3) := by decide +kernel
theorem dX10_person_162 : decode cX10_person 162 = .ok (.iload_n 1, 1) := by decide +kernel
theorem dX10_person_163 : decode cX10_person 163 = .ok (.invokevirtual 129, 3) := by decide +kernel
theorem dX10_person_166 : decode cX10_person 166 = .ok (.ireturn, 1) := by decide +kernel
theorem dX10_person_167 : decode cX10_person 167 = .ok (.aload_n 0, 1) := by decide +kernel
theorem dX10_person_168 : decode cX10_person 168 = .ok (.getfield 10, 3) := by decide +kernel
theorem dX10_person_171 : decode cX10_person 171 = .ok (.iload_n 1, 1) := by decide +kernel
theorem dX10_person_172 : decode cX10_person 172 = .ok (.invokevirtual 133, 3) := by decide +kernel
theorem dX10_person_175 : decode cX10_person 175 = .ok (.ireturn, 1) := by decide +kernel
theorem dX10_person_176 : decode cX10_person 176 = .ok (.aload_n 0, 1) := by decide +kernel
theorem dX10_person_177 : decode cX10_person 177 = .ok (.getfield 10, 3) := by decide +kernel
theorem dX10_person_180 : decode cX10_person 180 = .ok (.iload_n 1, 1) := by decide +kernel
theorem dX10_person_181 : decode cX10_person 181 = .ok (.iconst 4, 1) := by decide +kernel
theorem dX10_person_182 : decode cX10_person 182 = .ok (.invokevirtual 118, 3) := by decide +kernel
theorem dX10_person_185 : decode cX10_person 185 = .ok (.ireturn, 1) := by decide +kernel
theorem dX10_person_186 : decode cX10_person 186 = .ok (.aload_n 0, 1) := by decide +kernel
theorem dX10_person_187 : decode cX10_person 187 = .ok (.getfield 10, 3) := by decide +kernel
theorem dX10_person_190 : decode cX10_person 190 = .ok (.iload_n 1, 1) := by decide +kernel
theorem dX10_person_191 : decode cX10_person 191 = .ok (.iconst 5, 1) := by decide +kernel
theorem dX10_person_192 : decode cX10_person 192 = .ok (.invokevirtual 118, 3) := by decide +kernel
theorem dX10_person_195 : decode cX10_person 195 = .ok (.ireturn, 1) := by decide +kernel
theorem dX10_person_196 : decode cX10_person 196 = .ok (.aload_n 0, 1) := by decide +kernel
theorem dX10_person_197 : decode cX10_person 197 = .ok (.getfield 10, 3) := by decide +kernel
theorem dX10_person_200 : decode cX10_person 200 = .ok (.iload_n 1, 1) := by decide +kernel
theorem dX10_person_201 : decode cX10_person 201 = .ok (.bipush 6, 2) := by decide +kernel
theorem dX10_person_203 : decode cX10_person 203 = .ok (.invokevirtual 118, 3) := by decide +kernel
theorem dX10_person_206 : decode cX10_person 206 = .ok (.ireturn, 1) := by decide +kernel
theorem dX10_person_207 : decode cX10_person 207 = .ok (.aload_n 0, 1) := by decide +kernel
theorem dX10_person_208 : decode cX10_person 208 = .ok (.getfield 10, 3) := by decide +kernel
theorem dX10_person_211 : decode cX10_person 211 = .ok (.iload_n 1, 1) := by decide +kernel
theorem dX10_person_212 : decode cX10_person 212 = .ok (.bipush 7, 2) := by decide +kernel
theorem dX10_person_214 : decode cX10_person 214 = .ok (.invokevirtual 118, 3) := by decide +kernel
theorem dX10_person_217 : decode cX10_person 217 = .ok (.ireturn, 1) := by decide +kernel
theorem dX10_person_218 : decode cX10_person 218 = .ok (.aload_n 0, 1) := by decide +kernel
theorem dX10_person_219 : decode cX10_person 219 = .ok (.getfield 26, 3) := by decide +kernel
theorem dX10_person_222 : decode cX10_person 222 = .ok (.iload_n 1, 1) := by decide +kernel
theorem dX10_person_223 : decode cX10_person 223 = .ok (.invokevirtual 136, 3) := by decide +kernel
theorem dX10_person_226 : decode cX10_person 226 = .ok (.ireturn, 1) := by decide +kernel
theorem dX10_person_227 : decode cX10_person 227 = .ok (.aload_n 0, 1) := by decide +kernel
theorem dX10_person_228 : decode cX10_person 228 = .ok (.getfield 26, 3) := by decide +kernel
theorem dX10_person_231 : decode cX10_person 231 = .ok (.iload_n 1, 1) := by decide +kernel
theorem dX10_person_232 : decode cX10_person 232 = .ok (.invokevirtual 139, 3) := by decide +kernel
theorem dX10_person_235 : decode cX10_person 235 = .ok (.ireturn, 1) := by decide +kernel
theorem dX10_person_236 : decode cX10_person 236 = .ok (.aload_n 0, 1) := by decide +kernel
theorem dX10_person_237 : decode cX10_person 237 = .ok (.getfield 26, 3) := by decide +kernel
theorem dX10_person_240 : decode cX10_person 240 = .ok (.iload_n 1, 1) := by decide +kernel
theorem dX10_person_241 : decode cX10_person 241 = .ok (.invokevirtual 142, 3) := by decide +kernel
theorem dX10_person_244 : decode cX10_person 244 = .ok (.ireturn, 1) := by decide +kernel
theorem dX10_person_245 : decode cX10_person 245 = .ok (.aload_n 0, 1) := by decide +kernel
theorem dX10_person_246 : decode cX10_person 246 = .ok (.getfield 26, 3) := by decide +kernel
theorem dX10_person_249 : decode cX10_person 249 = .ok (.iload_n 1, 1) := by decide +kernel
theorem dX10_person_250 : decode cX10_person 250 = .ok (.invokevirtual 145, 3) := by decide +kernel
theorem dX10_person_253 : decode cX10_person 253 = .ok (.ireturn, 1) := by decide +kernel
theorem dX10_person_254 : decode cX10_person 254 = .ok (.ldc 112, 2) := by decide +kernel
theorem dX10_person_256 : decode cX10_person 256 = .ok (.ireturn, 1) := by decide +kernel
theorem dX10_quarter_0 : decode cX10_quarter 0 = .ok (.aload_n 0, 1) := by decide +kernel
theorem dX10_quarter_1 : decode cX10_quarter 1 = .ok (.getfield 10, 3) := by decide +kernel
theorem dX10_quarter_4 : decode cX10_quarter 4 = .ok (.iload_n 1, 1) := by decide +kernel
theorem dX10_quarter_5 : decode cX10_quarter 5 = .ok (.invokevirtual 113, 3) := by decide +kernel
theorem dX10_quarter_8 : decode cX10_quarter 8 = .ok (.ifCond .ne 6, 3) := by decide +kernel
theorem dX10_quarter_11 : decode cX10_quarter 11 = .ok (.ldc 117, 2) := by decide +kernel
theorem dX10_quarter_13 : decode cX10_quarter 13 = .ok (.ireturn, 1) := by decide +kernel
theorem dX10_quarter_14 : decode cX10_quarter 14 = .ok (.iload_n 3, 1) := by decide +kernel
theorem dX10_quarter_15 : decode cX10_quarter 15 = .ok (.ifCond .ne 13, 3) := by decide +kernel
theorem dX10_quarter_18 : decode cX10_quarter 18 = .ok (.aload_n 0, 1) := by decide +kernel
theorem dX10_quarter_19 : decode cX10_quarter 19 = .ok (.getfield 19, 3) := by decide +kernel
theorem dX10_quarter_22 : decode cX10_quarter 22 = .ok (.iload_n 1, 1) := by decide +kernel
theorem dX10_quarter_23 : decode cX10_quarter 23 = .ok (.iload_n 2, 1) := by decide +kernel
theorem dX10_quarter_24 : decode cX10_quarter 24 = .ok (.invokevirtual 148, 3) := by decide +kernel
theorem dX10_quarter_27 : decode cX10_quarter 27 = .ok (.ireturn, 1) := by decide +kernel
theorem dX10_quarter_28 : decode cX10_quarter 28 = .ok (.iload_n 3, 1) := by decide +kernel
theorem dX10_quarter_29 : decode cX10_quarter 29 = .ok (.iconst 1, 1) := by decide +kernel
theorem dX10_quarter_30 : decode cX10_quarter 30 = .ok (.if_icmp .ne 13, 3) := by decide +kernel
theorem dX10_quarter_33 : decode cX10_quarter 33 = .ok (.aload_n 0, 1) := by decide +kernel
theorem dX10_quarter_34 : decode cX10_quarter 34 = .ok (.getfield 19, 3) := by decide +kernel
theorem dX10_quarter_37 : decode cX10_quarter 37 = .ok (.iload_n 1, 1) := by decide +kernel
theorem dX10_quarter_38 : decode cX10_quarter 38 = .ok (.iload_n 2, 1) := by decide +kernel
theorem dX10_quarter_39 : decode cX10_quarter 39 = .ok (.invokevirtual 151, 3) := by decide +kernel
theorem dX10_quarter_42 : decode cX10_quarter 42 = .ok (.ireturn, 1) := by decide +kernel
theorem dX10_quarter_43 : decode cX10_quarter 43 = .ok (.ldc 112, 2) := by decide +kernel
theorem dX10_quarter_45 : decode cX10_quarter 45 = .ok (.ireturn, 1) := by decide +kernel
theorem dX10_kin_0 : decode cX10_kin 0 = .ok (.aload_n 0, 1) := by decide +kernel
theorem dX10_kin_1 : decode cX10_kin 1 = .ok (.getfield 10, 3) := by decide +kernel
theorem dX10_kin_4 : decode cX10_kin 4 = .ok (.iload_n 1, 1) := by decide +kernel
theorem dX10_kin_5 : decode cX10_kin 5 = .ok (.invokevirtual 113, 3) := by decide +kernel
theorem dX10_kin_8 : decode cX10_kin 8 = .ok (.ifCond .eq 14, 3) := by decide +kernel
theorem dX10_kin_11 : decode cX10_kin 11 = .ok (.aload_n 0, 1) := by decide +kernel
theorem dX10_kin_12 : decode cX10_kin 12 = .ok (.getfield 10, 3) := by decide +kernel
theorem dX10_kin_15 : decode cX10_kin 15 = .ok (.iload_n 2, 1) := by decide +kernel
theorem dX10_kin_16 : decode cX10_kin 16 = .ok (.invokevirtual 113, 3) := by decide +kernel
theorem dX10_kin_19 : decode cX10_kin 19 = .ok (.ifCond .ne 6, 3) := by decide +kernel
theorem dX10_kin_22 : decode cX10_kin 22 = .ok (.ldc 117, 2) := by decide +kernel
theorem dX10_kin_24 : decode cX10_kin 24 = .ok (.ireturn, 1) := by decide +kernel
theorem dX10_kin_25 : decode cX10_kin 25 = .ok (.iload_n 3, 1) := by decide +kernel
theorem dX10_kin_26 : decode cX10_kin 26 = .ok (.ifCond .lt 8, 3) := by decide +kernel
theorem dX10_kin_29 : decode cX10_kin 29 = .ok (.iload_n 3, 1) := by decide +kernel
theorem dX10_kin_30 : decode cX10_kin 30 = .ok (.iconst 1, 1) := by decide +kernel
theorem dX10_kin_31 : decode cX10_kin 31 = .ok (.if_icmp .le 6, 3) := by decide +kernel
theorem dX10_kin_34 : decode cX10_kin 34 = .ok (.ldc 112, 2) := by decide +kernel
theorem dX10_kin_36 : decode cX10_kin 36 = .ok (.ireturn, 1) := by decide +kernel
theorem dX10_kin_37 : decode cX10_kin 37 = .ok (.aload_n 0, 1) := by decide +kernel
theorem dX10_kin_38 : decode cX10_kin 38 = .ok (.getfield 40, 3) := by decide +kernel
theorem dX10_kin_41 : decode cX10_kin 41 = .ok (.aload_n 0, 1) := by decide +kernel
theorem dX10_kin_42 : decode cX10_kin 42 = .ok (.getfield 10, 3) := by decide +kernel
theorem dX10_kin_45 : decode cX10_kin 45 = .ok (.iload_n 1, 1) := by decide +kernel
theorem dX10_kin_46 : decode cX10_kin 46 = .ok (.iload_n 2, 1) := by decide +kernel
theorem dX10_kin_47 : decode cX10_kin 47 = .ok (.invokevirtual 154, 3) := by decide +kernel
theorem dX10_kin_50 : decode cX10_kin 50 = .ok (.iload_n 3, 1) := by decide +kernel
theorem dX10_kin_51 : decode cX10_kin 51 = .ok (.ifCond .ne 13, 3) := by decide +kernel
theorem dX10_kin_54 : decode cX10_kin 54 = .ok (.aload_n 0, 1) := by decide +kernel
theorem dX10_kin_55 : decode cX10_kin 55 = .ok (.getfield 40, 3) := by decide +kernel
theorem dX10_kin_58 : decode cX10_kin 58 = .ok (.getfield 158, 3) := by decide +kernel
theorem dX10_kin_61 : decode cX10_kin 61 = .ok (.goto 10, 3) := by decide +kernel
theorem dX10_kin_64 : decode cX10_kin 64 = .ok (.aload_n 0, 1) := by decide +kernel
theorem dX10_kin_65 : decode cX10_kin 65 = .ok (.getfield 40, 3) := by decide +kernel
theorem dX10_kin_68 : decode cX10_kin 68 = .ok (.getfield 161, 3) := by decide +kernel
theorem dX10_kin_71 : decode cX10_kin 71 = .ok (.ireturn, 1) := by decide +kernel
theorem dX10_would_0 : decode cX10_would 0 = .ok (.aload_n 0, 1) := by decide +kernel
theorem dX10_would_1 : decode cX10_would 1 = .ok (.getfield 10, 3) := by decide +kernel
theorem dX10_would_4 : decode cX10_would 4 = .ok (.iload_n 1, 1) := by decide +kernel
theorem dX10_would_5 : decode cX10_would 5 = .ok (.invokevirtual 113, 3) := by decide +kernel
theorem dX10_would_8 : decode cX10_would 8 = .ok (.ifCond .eq 19, 3) := by decide +kernel
theorem dX10_would_11 : decode cX10_would 11 = .ok (.aload_n 0, 1) := by decide +kernel
theorem dX10_would_12 : decode cX10_would 12 = .ok (.getfield 10, 3) := by decide +kernel
theorem dX10_would_15 : decode cX10_would 15 = .ok (.iload_n 2, 1) := by decide +kernel
theorem dX10_would_16 : decode cX10_would 16 = .ok (.invokevirtual 113, 3) := by decide +kernel
theorem dX10_would_19 : decode cX10_would 19 = .ok (.ifCond .eq 8, 3) := by decide +kernel
theorem dX10_would_22 : decode cX10_would 22 = .ok (.iload_n 1, 1) := by decide +kernel
theorem dX10_would_23 : decode cX10_would 23 = .ok (.iload_n 2, 1) := by decide +kernel
theorem dX10_would_24 : decode cX10_would 24 = .ok (.if_icmp .ne 6, 3) := by decide +kernel
theorem dX10_would_27 : decode cX10_would 27 = .ok (.ldc 117, 2) := by decide +kernel
theorem dX10_would_29 : decode cX10_would 29 = .ok (.ireturn, 1) := by decide +kernel
theorem dX10_would_30 : decode cX10_would 30 = .ok (.aload_n 0, 1) := by decide +kernel
theorem dX10_would_31 : decode cX10_would 31 = .ok (.getfield 10, 3) := by decide +kernel
theorem dX10_would_34 : decode cX10_would 34 = .ok (.iload_n 1, 1) := by decide +kernel
theorem dX10_would_35 : decode cX10_would 35 = .ok (.invokevirtual 164, 3) := by decide +kernel
theorem dX10_would_38 : decode cX10_would 38 = .ok (.ifCond .eq 14, 3) := by decide +kernel
theorem dX10_would_41 : decode cX10_would 41 = .ok (.aload_n 0, 1) := by decide +kernel
theorem dX10_would_42 : decode cX10_would 42 = .ok (.getfield 10, 3) := by decide +kernel
theorem dX10_would_45 : decode cX10_would 45 = .ok (.iload_n 2, 1) := by decide +kernel
theorem dX10_would_46 : decode cX10_would 46 = .ok (.invokevirtual 167, 3) := by decide +kernel
theorem dX10_would_49 : decode cX10_would 49 = .ok (.ifCond .ne 6, 3) := by decide +kernel
theorem dX10_would_52 : decode cX10_would 52 = .ok (.ldc 170, 2) := by decide +kernel
theorem dX10_would_54 : decode cX10_would 54 = .ok (.ireturn, 1) := by decide +kernel
theorem dX10_would_55 : decode cX10_would 55 = .ok (.aload_n 0, 1) := by decide +kernel
theorem dX10_would_56 : decode cX10_would 56 = .ok (.getfield 19, 3) := by decide +kernel
theorem dX10_would_59 : decode cX10_would 59 = .ok (.aload_n 0, 1) := by decide +kernel
theorem dX10_would_60 : decode cX10_would 60 = .ok (.getfield 10, 3) := by decide +kernel
theorem dX10_would_63 : decode cX10_would 63 = .ok (.iload_n 1, 1) := by decide +kernel
theorem dX10_would_64 : decode cX10_would 64 = .ok (.iload_n 2, 1) := by decide +kernel
theorem dX10_would_65 : decode cX10_would 65 = .ok (.invokevirtual 171, 3) := by decide +kernel
theorem dX10_would_68 : decode cX10_would 68 = .ok (.ireturn, 1) := by decide +kernel
theorem dX10_dated_0 : decode cX10_dated 0 = .ok (.iload_n 1, 1) := by decide +kernel
theorem dX10_dated_1 : decode cX10_dated 1 = .ok (.iload_n 2, 1) := by decide +kernel
theorem dX10_dated_2 : decode cX10_dated 2 = .ok (.invokestatic 175, 3) := by decide +kernel
theorem dX10_dated_5 : decode cX10_dated 5 = .ok (.ifCond .ne 6, 3) := by decide +kernel
theorem dX10_dated_8 : decode cX10_dated 8 = .ok (.ldc 112, 2) := by decide +kernel
theorem dX10_dated_10 : decode cX10_dated 10 = .ok (.ireturn, 1) := by decide +kernel
theorem dX10_dated_11 : decode cX10_dated 11 = .ok (.aload_n 0, 1) := by decide +kernel
theorem dX10_dated_12 : decode cX10_dated 12 = .ok (.getfield 26, 3) := by decide +kernel
theorem dX10_dated_15 : decode cX10_dated 15 = .ok (.aload_n 0, 1) := by decide +kernel
theorem dX10_dated_16 : decode cX10_dated 16 = .ok (.getfield 10, 3) := by decide +kernel
theorem dX10_dated_19 : decode cX10_dated 19 = .ok (.invokevirtual 72, 3) := by decide +kernel
theorem dX10_dated_22 : decode cX10_dated 22 = .ok (.iload_n 1, 1) := by decide +kernel
theorem dX10_dated_23 : decode cX10_dated 23 = .ok (.iload_n 2, 1) := by decide +kernel
theorem dX10_dated_24 : decode cX10_dated 24 = .ok (.invokevirtual 179, 3) := by decide +kernel
theorem dX10_dated_27 : decode cX10_dated 27 = .ok (.ireturn, 1) := by decide +kernel
theorem dX10_signAt_0 : decode cX10_signAt 0 = .ok (.aload_n 0, 1) := by decide +kernel
theorem dX10_signAt_1 : decode cX10_signAt 1 = .ok (.getfield 10, 3) := by decide +kernel
theorem dX10_signAt_4 : decode cX10_signAt 4 = .ok (.iload_n 1, 1) := by decide +kernel
theorem dX10_signAt_5 : decode cX10_signAt 5 = .ok (.invokevirtual 183, 3) := by decide +kernel
theorem dX10_signAt_8 : decode cX10_signAt 8 = .ok (.ireturn, 1) := by decide +kernel
theorem dX10_put_0 : decode cX10_put 0 = .ok (.aload_n 0, 1) := by decide +kernel
theorem dX10_put_1 : decode cX10_put 1 = .ok (.getfield 10, 3) := by decide +kernel
theorem dX10_put_4 : decode cX10_put 4 = .ok (.iload_n 3, 1) := by decide +kernel
theorem dX10_put_5 : decode cX10_put 5 = .ok (.invokevirtual 186, 3) := by decide +kernel
theorem dX10_put_8 : decode cX10_put 8 = .ok (.ifCond .eq 15, 3) := by decide +kernel
theorem dX10_put_11 : decode cX10_put 11 = .ok (.aload_n 0, 1) := by decide +kernel
theorem dX10_put_12 : decode cX10_put 12 = .ok (.getfield 10, 3) := by decide +kernel
theorem dX10_put_15 : decode cX10_put 15 = .ok (.iload 4, 2) := by decide +kernel
theorem dX10_put_17 : decode cX10_put 17 = .ok (.invokevirtual 186, 3) := by decide +kernel
theorem dX10_put_20 : decode cX10_put 20 = .ok (.ifCond .ne 6, 3) := by decide +kernel
theorem dX10_put_23 : decode cX10_put 23 = .ok (.ldc 117, 2) := by decide +kernel
theorem dX10_put_25 : decode cX10_put 25 = .ok (.ireturn, 1) := by decide +kernel
theorem dX10_put_26 : decode cX10_put 26 = .ok (.iload_n 1, 1) := by decide +kernel
theorem dX10_put_27 : decode cX10_put 27 = .ok (.ifCond .lt 15, 3) := by decide +kernel
theorem dX10_put_30 : decode cX10_put 30 = .ok (.iload_n 1, 1) := by decide +kernel
theorem dX10_put_31 : decode cX10_put 31 = .ok (.iconst 1, 1) := by decide +kernel
theorem dX10_put_32 : decode cX10_put 32 = .ok (.if_icmp .gt 10, 3) := by decide +kernel
theorem dX10_put_35 : decode cX10_put 35 = .ok (.iload_n 2, 1) := by decide +kernel
theorem dX10_put_36 : decode cX10_put 36 = .ok (.invokestatic 189, 3) := by decide +kernel
theorem dX10_put_39 : decode cX10_put 39 = .ok (.ifCond .ne 6, 3) := by decide +kernel
theorem dX10_put_42 : decode cX10_put 42 = .ok (.ldc 112, 2) := by decide +kernel
theorem dX10_put_44 : decode cX10_put 44 = .ok (.ireturn, 1) := by decide +kernel
theorem dX10_put_45 : decode cX10_put 45 = .ok (.iload_n 3, 1) := by decide +kernel
theorem dX10_put_46 : decode cX10_put 46 = .ok (.iconst (-1), 1) := by decide +kernel
theorem dX10_put_47 : decode cX10_put 47 = .ok (.if_icmp .eq 14, 3) := by decide +kernel
theorem dX10_put_50 : decode cX10_put 50 = .ok (.aload_n 0, 1) := by decide +kernel
theorem dX10_put_51 : decode cX10_put 51 = .ok (.getfield 10, 3) := by decide +kernel
theorem dX10_put_54 : decode cX10_put 54 = .ok (.iload_n 3, 1) := by decide +kernel
theorem dX10_put_55 : decode cX10_put 55 = .ok (.invokevirtual 164, 3) := by decide +kernel
theorem dX10_put_58 : decode cX10_put 58 = .ok (.ifCond .eq 21, 3) := by decide +kernel
theorem dX10_put_61 : decode cX10_put 61 = .ok (.iload 4, 2) := by decide +kernel
theorem dX10_put_63 : decode cX10_put 63 = .ok (.iconst (-1), 1) := by decide +kernel
theorem dX10_put_64 : decode cX10_put 64 = .ok (.if_icmp .eq 18, 3) := by decide +kernel
theorem dX10_put_67 : decode cX10_put 67 = .ok (.aload_n 0, 1) := by decide +kernel
theorem dX10_put_68 : decode cX10_put 68 = .ok (.getfield 10, 3) := by decide +kernel
theorem dX10_put_71 : decode cX10_put 71 = .ok (.iload 4, 2) := by decide +kernel
theorem dX10_put_73 : decode cX10_put 73 = .ok (.invokevirtual 167, 3) := by decide +kernel
theorem dX10_put_76 : decode cX10_put 76 = .ok (.ifCond .ne 6, 3) := by decide +kernel
theorem dX10_put_79 : decode cX10_put 79 = .ok (.ldc 170, 2) := by decide +kernel
theorem dX10_put_81 : decode cX10_put 81 = .ok (.ireturn, 1) := by decide +kernel
theorem dX10_put_82 : decode cX10_put 82 = .ok (.aload_n 0, 1) := by decide +kernel
theorem dX10_put_83 : decode cX10_put 83 = .ok (.getfield 10, 3) := by decide +kernel
theorem dX10_put_86 : decode cX10_put 86 = .ok (.invokevirtual 192, 3) := by decide +kernel
theorem dX10_put_89 : decode cX10_put 89 = .ok (.ifCond .ne 6, 3) := by decide +kernel
theorem dX10_put_92 : decode cX10_put 92 = .ok (.ldc 196, 2) := by decide +kernel
theorem dX10_put_94 : decode cX10_put 94 = .ok (.ireturn, 1) := by decide +kernel
theorem dX10_put_95 : decode cX10_put 95 = .ok (.aload_n 0, 1) := by decide +kernel
theorem dX10_put_96 : decode cX10_put 96 = .ok (.getfield 54, 3) := by decide +kernel
theorem dX10_put_99 : decode cX10_put 99 = .ok (.aload_n 0, 1) := by decide +kernel
theorem dX10_put_100 : decode cX10_put 100 = .ok (.getfield 10, 3) := by decide +kernel
theorem dX10_put_103 : decode cX10_put 103 = .ok (.invokevirtual 197, 3) := by decide +kernel
theorem dX10_put_106 : decode cX10_put 106 = .ok (.aload_n 0, 1) := by decide +kernel
theorem dX10_put_107 : decode cX10_put 107 = .ok (.getfield 10, 3) := by decide +kernel
theorem dX10_put_110 : decode cX10_put 110 = .ok (.iload_n 1, 1) := by decide +kernel
theorem dX10_put_111 : decode cX10_put 111 = .ok (.iload_n 2, 1) := by decide +kernel
theorem dX10_put_112 : decode cX10_put 112 = .ok (.iload_n 3, 1) := by decide +kernel
theorem dX10_put_113 : decode cX10_put 113 = .ok (.iload 4, 2) := by decide +kernel
theorem dX10_put_115 : decode cX10_put 115 = .ok (.invokevirtual 201, 3) := by decide +kernel
theorem dX10_put_118 : decode cX10_put 118 = .ok (.aload_n 0, 1) := by decide +kernel
theorem dX10_put_119 : decode cX10_put 119 = .ok (.invokevirtual 205, 3) := by decide +kernel
theorem dX10_put_122 : decode cX10_put 122 = .ok (.aload_n 0, 1) := by decide +kernel
theorem dX10_put_123 : decode cX10_put 123 = .ok (.getfield 10, 3) := by decide +kernel
theorem dX10_put_126 : decode cX10_put 126 = .ok (.invokevirtual 72, 3) := by decide +kernel
theorem dX10_put_129 : decode cX10_put 129 = .ok (.iconst 1, 1) := by decide +kernel
theorem dX10_put_130 : decode cX10_put 130 = .ok (.isub, 1) := by decide +kernel
theorem dX10_put_131 : decode cX10_put 131 = .ok (.ireturn, 1) := by decide +kernel
theorem dX10_born_0 : decode cX10_born 0 = .ok (.aload_n 0, 1) := by decide +kernel
theorem dX10_born_1 : decode cX10_born 1 = .ok (.iload_n 1, 1) := by decide +kernel
theorem dX10_born_2 : decode cX10_born 2 = .ok (.iconst 4, 1) := by decide +kernel
theorem dX10_born_3 : decode cX10_born 3 = .ok (.iload_n 2, 1) := by decide +kernel
theorem dX10_born_4 : decode cX10_born 4 = .ok (.iload_n 3, 1) := by decide +kernel
theorem dX10_born_5 : decode cX10_born 5 = .ok (.invokevirtual 208, 3) := by decide +kernel
theorem dX10_born_8 : decode cX10_born 8 = .ok (.ireturn, 1) := by decide +kernel
theorem dX10_died_0 : decode cX10_died 0 = .ok (.aload_n 0, 1) := by decide +kernel
theorem dX10_died_1 : decode cX10_died 1 = .ok (.iload_n 1, 1) := by decide +kernel
theorem dX10_died_2 : decode cX10_died 2 = .ok (.bipush 6, 2) := by decide +kernel
theorem dX10_died_4 : decode cX10_died 4 = .ok (.iload_n 2, 1) := by decide +kernel
theorem dX10_died_5 : decode cX10_died 5 = .ok (.iload_n 3, 1) := by decide +kernel
theorem dX10_died_6 : decode cX10_died 6 = .ok (.invokevirtual 208, 3) := by decide +kernel
theorem dX10_died_9 : decode cX10_died 9 = .ok (.ireturn, 1) := by decide +kernel
theorem dX10_rule_0 : decode cX10_rule 0 = .ok (.iload_n 1, 1) := by decide +kernel
theorem dX10_rule_1 : decode cX10_rule 1 = .ok (.ifCond .lt 8, 3) := by decide +kernel
theorem dX10_rule_4 : decode cX10_rule 4 = .ok (.iload_n 1, 1) := by decide +kernel
theorem dX10_rule_5 : decode cX10_rule 5 = .ok (.iconst 2, 1) := by decide +kernel
theorem dX10_rule_6 : decode cX10_rule 6 = .ok (.if_icmp .le 6, 3) := by decide +kernel
theorem dX10_rule_9 : decode cX10_rule 9 = .ok (.ldc 112, 2) := by decide +kernel
theorem dX10_rule_11 : decode cX10_rule 11 = .ok (.ireturn, 1) := by decide +kernel
theorem dX10_rule_12 : decode cX10_rule 12 = .ok (.aload_n 0, 1) := by decide +kernel
theorem dX10_rule_13 : decode cX10_rule 13 = .ok (.getfield 54, 3) := by decide +kernel
theorem dX10_rule_16 : decode cX10_rule 16 = .ok (.aload_n 0, 1) := by decide +kernel
theorem dX10_rule_17 : decode cX10_rule 17 = .ok (.getfield 10, 3) := by decide +kernel
theorem dX10_rule_20 : decode cX10_rule 20 = .ok (.invokevirtual 197, 3) := by decide +kernel
theorem dX10_rule_23 : decode cX10_rule 23 = .ok (.aload_n 0, 1) := by decide +kernel
theorem dX10_rule_24 : decode cX10_rule 24 = .ok (.getfield 10, 3) := by decide +kernel
theorem dX10_rule_27 : decode cX10_rule 27 = .ok (.iload_n 1, 1) := by decide +kernel
theorem dX10_rule_28 : decode cX10_rule 28 = .ok (.invokevirtual 212, 3) := by decide +kernel
theorem dX10_rule_31 : decode cX10_rule 31 = .ok (.aload_n 0, 1) := by decide +kernel
theorem dX10_rule_32 : decode cX10_rule 32 = .ok (.getfield 19, 3) := by decide +kernel
theorem dX10_rule_35 : decode cX10_rule 35 = .ok (.aload_n 0, 1) := by decide +kernel
theorem dX10_rule_36 : decode cX10_rule 36 = .ok (.getfield 10, 3) := by decide +kernel
theorem dX10_rule_39 : decode cX10_rule 39 = .ok (.invokevirtual 216, 3) := by decide +kernel
theorem dX10_rule_42 : decode cX10_rule 42 = .ok (.aload_n 0, 1) := by decide +kernel
theorem dX10_rule_43 : decode cX10_rule 43 = .ok (.getfield 19, 3) := by decide +kernel
theorem dX10_rule_46 : decode cX10_rule 46 = .ok (.invokevirtual 86, 3) := by decide +kernel
theorem dX10_rule_49 : decode cX10_rule 49 = .ok (.ireturn, 1) := by decide +kernel
theorem dX10_sign_0 : decode cX10_sign 0 = .ok (.iload_n 1, 1) := by decide +kernel
theorem dX10_sign_1 : decode cX10_sign 1 = .ok (.ifCond .lt 9, 3) := by decide +kernel
theorem dX10_sign_4 : decode cX10_sign 4 = .ok (.iload_n 1, 1) := by decide +kernel
theorem dX10_sign_5 : decode cX10_sign 5 = .ok (.bipush 10, 2) := by decide +kernel
theorem dX10_sign_7 : decode cX10_sign 7 = .ok (.if_icmp .le 6, 3) := by decide +kernel
theorem dX10_sign_10 : decode cX10_sign 10 = .ok (.ldc 112, 2) := by decide +kernel
theorem dX10_sign_12 : decode cX10_sign 12 = .ok (.ireturn, 1) := by decide +kernel
theorem dX10_sign_13 : decode cX10_sign 13 = .ok (.aload_n 0, 1) := by decide +kernel
theorem dX10_sign_14 : decode cX10_sign 14 = .ok (.getfield 10, 3) := by decide +kernel
theorem dX10_sign_17 : decode cX10_sign 17 = .ok (.invokevirtual 79, 3) := by decide +kernel
theorem dX10_sign_20 : decode cX10_sign 20 = .ok (.bipush 10, 2) := by decide +kernel
theorem dX10_sign_22 : decode cX10_sign 22 = .ok (.if_icmp .lt 6, 3) := by decide +kernel
theorem dX10_sign_25 : decode cX10_sign 25 = .ok (.ldc 196, 2) := by decide +kernel
theorem dX10_sign_27 : decode cX10_sign 27 = .ok (.ireturn, 1) := by decide +kernel
theorem dX10_sign_28 : decode cX10_sign 28 = .ok (.aload_n 0, 1) := by decide +kernel
theorem dX10_sign_29 : decode cX10_sign 29 = .ok (.getfield 54, 3) := by decide +kernel
theorem dX10_sign_32 : decode cX10_sign 32 = .ok (.aload_n 0, 1) := by decide +kernel
theorem dX10_sign_33 : decode cX10_sign 33 = .ok (.getfield 10, 3) := by decide +kernel
theorem dX10_sign_36 : decode cX10_sign 36 = .ok (.invokevirtual 197, 3) := by decide +kernel
theorem dX10_sign_39 : decode cX10_sign 39 = .ok (.aload_n 0, 1) := by decide +kernel
theorem dX10_sign_40 : decode cX10_sign 40 = .ok (.getfield 10, 3) := by decide +kernel
theorem dX10_sign_43 : decode cX10_sign 43 = .ok (.iload_n 1, 1) := by decide +kernel
theorem dX10_sign_44 : decode cX10_sign 44 = .ok (.invokevirtual 219, 3) := by decide +kernel
theorem dX10_sign_47 : decode cX10_sign 47 = .ok (.aload_n 0, 1) := by decide +kernel
theorem dX10_sign_48 : decode cX10_sign 48 = .ok (.getfield 10, 3) := by decide +kernel
theorem dX10_sign_51 : decode cX10_sign 51 = .ok (.invokevirtual 79, 3) := by decide +kernel
theorem dX10_sign_54 : decode cX10_sign 54 = .ok (.ireturn, 1) := by decide +kernel
theorem dX10_wipe_0 : decode cX10_wipe 0 = .ok (.aload_n 0, 1) := by decide +kernel
theorem dX10_wipe_1 : decode cX10_wipe 1 = .ok (.getfield 10, 3) := by decide +kernel
theorem dX10_wipe_4 : decode cX10_wipe 4 = .ok (.invokevirtual 79, 3) := by decide +kernel
theorem dX10_wipe_7 : decode cX10_wipe 7 = .ok (.istore_n 1, 1) := by decide +kernel
theorem dX10_wipe_8 : decode cX10_wipe 8 = .ok (.aload_n 0, 1) := by decide +kernel
theorem dX10_wipe_9 : decode cX10_wipe 9 = .ok (.getfield 54, 3) := by decide +kernel
theorem dX10_wipe_12 : decode cX10_wipe 12 = .ok (.aload_n 0, 1) := by decide +kernel
theorem dX10_wipe_13 : decode cX10_wipe 13 = .ok (.getfield 10, 3) := by decide +kernel
theorem dX10_wipe_16 : decode cX10_wipe 16 = .ok (.invokevirtual 197, 3) := by decide +kernel
theorem dX10_wipe_19 : decode cX10_wipe 19 = .ok (.aload_n 0, 1) := by decide +kernel
theorem dX10_wipe_20 : decode cX10_wipe 20 = .ok (.getfield 10, 3) := by decide +kernel
theorem dX10_wipe_23 : decode cX10_wipe 23 = .ok (.invokevirtual 222, 3) := by decide +kernel
theorem dX10_wipe_26 : decode cX10_wipe 26 = .ok (.iload_n 1, 1) := by decide +kernel
theorem dX10_wipe_27 : decode cX10_wipe 27 = .ok (.ireturn, 1) := by decide +kernel
theorem dX10_drift_0 : decode cX10_drift 0 = .ok (.iload_n 1, 1) := by decide +kernel
theorem dX10_drift_1 : decode cX10_drift 1 = .ok (.iconst 1, 1) := by decide +kernel
theorem dX10_drift_2 : decode cX10_drift 2 = .ok (.if_icmp .lt 9, 3) := by decide +kernel
theorem dX10_drift_5 : decode cX10_drift 5 = .ok (.iload_n 1, 1) := by decide +kernel
theorem dX10_drift_6 : decode cX10_drift 6 = .ok (.bipush 16, 2) := by decide +kernel
theorem dX10_drift_8 : decode cX10_drift 8 = .ok (.if_icmp .le 6, 3) := by decide +kernel
theorem dX10_drift_11 : decode cX10_drift 11 = .ok (.ldc 112, 2) := by decide +kernel
theorem dX10_drift_13 : decode cX10_drift 13 = .ok (.ireturn, 1) := by decide +kernel
theorem dX10_drift_14 : decode cX10_drift 14 = .ok (.iconst 0, 1) := by decide +kernel
theorem dX10_drift_15 : decode cX10_drift 15 = .ok (.istore_n 2, 1) := by decide +kernel
theorem dX10_drift_16 : decode cX10_drift 16 = .ok (.iload_n 2, 1) := by decide +kernel
theorem dX10_drift_17 : decode cX10_drift 17 = .ok (.iload_n 1, 1) := by decide +kernel
theorem dX10_drift_18 : decode cX10_drift 18 = .ok (.if_icmp .ge 41, 3) := by decide +kernel
theorem dX10_drift_21 : decode cX10_drift 21 = .ok (.aload_n 0, 1) := by decide +kernel
theorem dX10_drift_22 : decode cX10_drift 22 = .ok (.getfield 10, 3) := by decide +kernel
theorem dX10_drift_25 : decode cX10_drift 25 = .ok (.invokevirtual 192, 3) := by decide +kernel
theorem dX10_drift_28 : decode cX10_drift 28 = .ok (.ifCond .eq 31, 3) := by decide +kernel
theorem dX10_drift_31 : decode cX10_drift 31 = .ok (.aload_n 0, 1) := by decide +kernel
theorem dX10_drift_32 : decode cX10_drift 32 = .ok (.getfield 54, 3) := by decide +kernel
theorem dX10_drift_35 : decode cX10_drift 35 = .ok (.aload_n 0, 1) := by decide +kernel
theorem dX10_drift_36 : decode cX10_drift 36 = .ok (.getfield 10, 3) := by decide +kernel
theorem dX10_drift_39 : decode cX10_drift 39 = .ok (.invokevirtual 197, 3) := by decide +kernel
theorem dX10_drift_42 : decode cX10_drift 42 = .ok (.aload_n 0, 1) := by decide +kernel
theorem dX10_drift_43 : decode cX10_drift 43 = .ok (.getfield 68, 3) := by decide +kernel
theorem dX10_drift_46 : decode cX10_drift 46 = .ok (.aload_n 0, 1) := by decide +kernel
theorem dX10_drift_47 : decode cX10_drift 47 = .ok (.getfield 10, 3) := by decide +kernel
theorem dX10_drift_50 : decode cX10_drift 50 = .ok (.invokevirtual 225, 3) := by decide +kernel
theorem dX10_drift_53 : decode cX10_drift 53 = .ok (.iinc 2 1, 3) := by decide +kernel
theorem dX10_drift_56 : decode cX10_drift 56 = .ok (.goto (-40), 3) := by decide +kernel
theorem dX10_drift_59 : decode cX10_drift 59 = .ok (.aload_n 0, 1) := by decide +kernel
theorem dX10_drift_60 : decode cX10_drift 60 = .ok (.invokevirtual 205, 3) := by decide +kernel
theorem dX10_drift_63 : decode cX10_drift 63 = .ok (.aload_n 0, 1) := by decide +kernel
theorem dX10_drift_64 : decode cX10_drift 64 = .ok (.getfield 10, 3) := by decide +kernel
theorem dX10_drift_67 : decode cX10_drift 67 = .ok (.invokevirtual 72, 3) := by decide +kernel
theorem dX10_drift_70 : decode cX10_drift 70 = .ok (.ireturn, 1) := by decide +kernel
theorem dX10_undo_0 : decode cX10_undo 0 = .ok (.iload_n 1, 1) := by decide +kernel
theorem dX10_undo_1 : decode cX10_undo 1 = .ok (.iconst 1, 1) := by decide +kernel
theorem dX10_undo_2 : decode cX10_undo 2 = .ok (.if_icmp .lt 9, 3) := by decide +kernel
theorem dX10_undo_5 : decode cX10_undo 5 = .ok (.iload_n 1, 1) := by decide +kernel
theorem dX10_undo_6 : decode cX10_undo 6 = .ok (.bipush 20, 2) := by decide +kernel
theorem dX10_undo_8 : decode cX10_undo 8 = .ok (.if_icmp .le 6, 3) := by decide +kernel
theorem dX10_undo_11 : decode cX10_undo 11 = .ok (.ldc 112, 2) := by decide +kernel
theorem dX10_undo_13 : decode cX10_undo 13 = .ok (.ireturn, 1) := by decide +kernel
theorem dX10_undo_14 : decode cX10_undo 14 = .ok (.iload_n 1, 1) := by decide +kernel
theorem dX10_undo_15 : decode cX10_undo 15 = .ok (.aload_n 0, 1) := by decide +kernel
theorem dX10_undo_16 : decode cX10_undo 16 = .ok (.getfield 54, 3) := by decide +kernel
theorem dX10_undo_19 : decode cX10_undo 19 = .ok (.getfield 109, 3) := by decide +kernel
theorem dX10_undo_22 : decode cX10_undo 22 = .ok (.if_icmp .le 6, 3) := by decide +kernel
theorem dX10_undo_25 : decode cX10_undo 25 = .ok (.ldc 170, 2) := by decide +kernel
theorem dX10_undo_27 : decode cX10_undo 27 = .ok (.ireturn, 1) := by decide +kernel
theorem dX10_undo_28 : decode cX10_undo 28 = .ok (.aload_n 0, 1) := by decide +kernel
theorem dX10_undo_29 : decode cX10_undo 29 = .ok (.getfield 54, 3) := by decide +kernel
theorem dX10_undo_32 : decode cX10_undo 32 = .ok (.aload_n 0, 1) := by decide +kernel
theorem dX10_undo_33 : decode cX10_undo 33 = .ok (.getfield 10, 3) := by decide +kernel
theorem dX10_undo_36 : decode cX10_undo 36 = .ok (.iload_n 1, 1) := by decide +kernel
theorem dX10_undo_37 : decode cX10_undo 37 = .ok (.invokevirtual 228, 3) := by decide +kernel
theorem dX10_undo_40 : decode cX10_undo 40 = .ok (.aload_n 0, 1) := by decide +kernel
theorem dX10_undo_41 : decode cX10_undo 41 = .ok (.invokevirtual 205, 3) := by decide +kernel
theorem dX10_undo_44 : decode cX10_undo 44 = .ok (.aload_n 0, 1) := by decide +kernel
theorem dX10_undo_45 : decode cX10_undo 45 = .ok (.getfield 10, 3) := by decide +kernel
theorem dX10_undo_48 : decode cX10_undo 48 = .ok (.invokevirtual 72, 3) := by decide +kernel
theorem dX10_undo_51 : decode cX10_undo 51 = .ok (.ireturn, 1) := by decide +kernel
theorem dX10_write_0 : decode cX10_write 0 = .ok (.aload_n 0, 1) := by decide +kernel
theorem dX10_write_1 : decode cX10_write 1 = .ok (.getfield 10, 3) := by decide +kernel
theorem dX10_write_4 : decode cX10_write 4 = .ok (.iload_n 1, 1) := by decide +kernel
theorem dX10_write_5 : decode cX10_write 5 = .ok (.invokevirtual 113, 3) := by decide +kernel
theorem dX10_write_8 : decode cX10_write 8 = .ok (.ifCond .ne 6, 3) := by decide +kernel
theorem dX10_write_11 : decode cX10_write 11 = .ok (.ldc 117, 2) := by decide +kernel
theorem dX10_write_13 : decode cX10_write 13 = .ok (.ireturn, 1) := by decide +kernel
theorem dX10_write_14 : decode cX10_write 14 = .ok (.iload_n 2, 1) := by decide +kernel
theorem dX10_write_15 : decode cX10_write 15 = .ok (.ifCond .lt 16, 3) := by decide +kernel
theorem dX10_write_18 : decode cX10_write 18 = .ok (.iload_n 2, 1) := by decide +kernel
theorem dX10_write_19 : decode cX10_write 19 = .ok (.bipush 10, 2) := by decide +kernel
theorem dX10_write_21 : decode cX10_write 21 = .ok (.if_icmp .ge 10, 3) := by decide +kernel
theorem dX10_write_24 : decode cX10_write 24 = .ok (.iload_n 3, 1) := by decide +kernel
theorem dX10_write_25 : decode cX10_write 25 = .ok (.invokestatic 189, 3) := by decide +kernel
theorem dX10_write_28 : decode cX10_write 28 = .ok (.ifCond .ne 6, 3) := by decide +kernel
theorem dX10_write_31 : decode cX10_write 31 = .ok (.ldc 112, 2) := by decide +kernel
theorem dX10_write_33 : decode cX10_write 33 = .ok (.ireturn, 1) := by decide +kernel
theorem dX10_write_34 : decode cX10_write 34 = .ok (.aload_n 0, 1) := by decide +kernel
theorem dX10_write_35 : decode cX10_write 35 = .ok (.getfield 47, 3) := by decide +kernel
theorem dX10_write_38 : decode cX10_write 38 = .ok (.getfield 102, 3) := by decide +kernel
theorem dX10_write_41 : decode cX10_write 41 = .ok (.bipush 20, 2) := by decide +kernel
theorem dX10_write_43 : decode cX10_write 43 = .ok (.if_icmp .lt 6, 3) := by decide +kernel
theorem dX10_write_46 : decode cX10_write 46 = .ok (.ldc 196, 2) := by decide +kernel
theorem dX10_write_48 : decode cX10_write 48 = .ok (.ireturn, 1) := by decide +kernel
theorem dX10_write_49 : decode cX10_write 49 = .ok (.aload_n 0, 1) := by decide +kernel
theorem dX10_write_50 : decode cX10_write 50 = .ok (.getfield 47, 3) := by decide +kernel
theorem dX10_write_53 : decode cX10_write 53 = .ok (.iload_n 1, 1) := by decide +kernel
theorem dX10_write_54 : decode cX10_write 54 = .ok (.iload_n 2, 1) := by decide +kernel
theorem dX10_write_55 : decode cX10_write 55 = .ok (.iload_n 3, 1) := by decide +kernel
theorem dX10_write_56 : decode cX10_write 56 = .ok (.invokevirtual 232, 3) := by decide +kernel
theorem dX10_write_59 : decode cX10_write 59 = .ok (.aload_n 0, 1) := by decide +kernel
theorem dX10_write_60 : decode cX10_write 60 = .ok (.getfield 47, 3) := by decide +kernel
theorem dX10_write_63 : decode cX10_write 63 = .ok (.getfield 102, 3) := by decide +kernel
theorem dX10_write_66 : decode cX10_write 66 = .ok (.ireturn, 1) := by decide +kernel
theorem dX10_tear_0 : decode cX10_tear 0 = .ok (.aload_n 0, 1) := by decide +kernel
theorem dX10_tear_1 : decode cX10_tear 1 = .ok (.getfield 47, 3) := by decide +kernel
theorem dX10_tear_4 : decode cX10_tear 4 = .ok (.getfield 102, 3) := by decide +kernel
theorem dX10_tear_7 : decode cX10_tear 7 = .ok (.istore_n 1, 1) := by decide +kernel
theorem dX10_tear_8 : decode cX10_tear 8 = .ok (.aload_n 0, 1) := by decide +kernel
theorem dX10_tear_9 : decode cX10_tear 9 = .ok (.getfield 47, 3) := by decide +kernel
theorem dX10_tear_12 : decode cX10_tear 12 = .ok (.iconst 0, 1) := by decide +kernel
theorem dX10_tear_13 : decode cX10_tear 13 = .ok (.putfield 102, 3) := by decide +kernel
theorem dX10_tear_16 : decode cX10_tear 16 = .ok (.iload_n 1, 1) := by decide +kernel
theorem dX10_tear_17 : decode cX10_tear 17 = .ok (.ireturn, 1) := by decide +kernel
theorem dX10_seed_0 : decode cX10_seed 0 = .ok (.iload_n 1, 1) := by decide +kernel
theorem dX10_seed_1 : decode cX10_seed 1 = .ok (.ifCond .ge 6, 3) := by decide +kernel
theorem dX10_seed_4 : decode cX10_seed 4 = .ok (.ldc 112, 2) := by decide +kernel
theorem dX10_seed_6 : decode cX10_seed 6 = .ok (.ireturn, 1) := by decide +kernel
theorem dX10_seed_7 : decode cX10_seed 7 = .ok (.aload_n 0, 1) := by decide +kernel
theorem dX10_seed_8 : decode cX10_seed 8 = .ok (.getfield 68, 3) := by decide +kernel
theorem dX10_seed_11 : decode cX10_seed 11 = .ok (.getfield 236, 3) := by decide +kernel
theorem dX10_seed_14 : decode cX10_seed 14 = .ok (.istore_n 2, 1) := by decide +kernel
theorem dX10_seed_15 : decode cX10_seed 15 = .ok (.aload_n 0, 1) := by decide +kernel
theorem dX10_seed_16 : decode cX10_seed 16 = .ok (.getfield 68, 3) := by decide +kernel
theorem dX10_seed_19 : decode cX10_seed 19 = .ok (.iload_n 1, 1) := by decide +kernel
theorem dX10_seed_20 : decode cX10_seed 20 = .ok (.putfield 236, 3) := by decide +kernel
theorem dX10_seed_23 : decode cX10_seed 23 = .ok (.iload_n 2, 1) := by decide +kernel
theorem dX10_seed_24 : decode cX10_seed 24 = .ok (.ireturn, 1) := by decide +kernel
theorem dX10_keep_0 : decode cX10_keep 0 = .ok (.iload_n 1, 1) := by decide +kernel
theorem dX10_keep_1 : decode cX10_keep 1 = .ok (.ifCond .lt 8, 3) := by decide +kernel
theorem dX10_keep_4 : decode cX10_keep 4 = .ok (.iload_n 1, 1) := by decide +kernel
theorem dX10_keep_5 : decode cX10_keep 5 = .ok (.iconst 2, 1) := by decide +kernel
theorem dX10_keep_6 : decode cX10_keep 6 = .ok (.if_icmp .lt 6, 3) := by decide +kernel
theorem dX10_keep_9 : decode cX10_keep 9 = .ok (.ldc 117, 2) := by decide +kernel
theorem dX10_keep_11 : decode cX10_keep 11 = .ok (.ireturn, 1) := by decide +kernel
theorem dX10_keep_12 : decode cX10_keep 12 = .ok (.aload_n 0, 1) := by decide +kernel
theorem dX10_keep_13 : decode cX10_keep 13 = .ok (.getfield 61, 3) := by decide +kernel
theorem dX10_keep_16 : decode cX10_keep 16 = .ok (.iload_n 1, 1) := by decide +kernel
theorem dX10_keep_17 : decode cX10_keep 17 = .ok (.aload_n 0, 1) := by decide +kernel
theorem dX10_keep_18 : decode cX10_keep 18 = .ok (.getfield 10, 3) := by decide +kernel
theorem dX10_keep_21 : decode cX10_keep 21 = .ok (.aload_n 0, 1) := by decide +kernel
theorem dX10_keep_22 : decode cX10_keep 22 = .ok (.getfield 68, 3) := by decide +kernel
theorem dX10_keep_25 : decode cX10_keep 25 = .ok (.invokevirtual 239, 3) := by decide +kernel
theorem dX10_keep_28 : decode cX10_keep 28 = .ok (.aload_n 0, 1) := by decide +kernel
theorem dX10_keep_29 : decode cX10_keep 29 = .ok (.getfield 54, 3) := by decide +kernel
theorem dX10_keep_32 : decode cX10_keep 32 = .ok (.iconst 0, 1) := by decide +kernel
theorem dX10_keep_33 : decode cX10_keep 33 = .ok (.putfield 109, 3) := by decide +kernel
theorem dX10_keep_36 : decode cX10_keep 36 = .ok (.iconst 1, 1) := by decide +kernel
theorem dX10_keep_37 : decode cX10_keep 37 = .ok (.ireturn, 1) := by decide +kernel
theorem dX10_goBack_0 : decode cX10_goBack 0 = .ok (.iload_n 1, 1) := by decide +kernel
theorem dX10_goBack_1 : decode cX10_goBack 1 = .ok (.ifCond .lt 8, 3) := by decide +kernel
theorem dX10_goBack_4 : decode cX10_goBack 4 = .ok (.iload_n 1, 1) := by decide +kernel
theorem dX10_goBack_5 : decode cX10_goBack 5 = .ok (.iconst 2, 1) := by decide +kernel
theorem dX10_goBack_6 : decode cX10_goBack 6 = .ok (.if_icmp .lt 6, 3) := by decide +kernel
theorem dX10_goBack_9 : decode cX10_goBack 9 = .ok (.ldc 117, 2) := by decide +kernel
theorem dX10_goBack_11 : decode cX10_goBack 11 = .ok (.ireturn, 1) := by decide +kernel
theorem dX10_goBack_12 : decode cX10_goBack 12 = .ok (.aload_n 0, 1) := by decide +kernel
theorem dX10_goBack_13 : decode cX10_goBack 13 = .ok (.getfield 61, 3) := by decide +kernel
theorem dX10_goBack_16 : decode cX10_goBack 16 = .ok (.iload_n 1, 1) := by decide +kernel
theorem dX10_goBack_17 : decode cX10_goBack 17 = .ok (.invokevirtual 243, 3) := by decide +kernel
theorem dX10_goBack_20 : decode cX10_goBack 20 = .ok (.ifCond .ne 6, 3) := by decide +kernel
theorem dX10_goBack_23 : decode cX10_goBack 23 = .ok (.ldc 170, 2) := by decide +kernel
theorem dX10_goBack_25 : decode cX10_goBack 25 = .ok (.ireturn, 1) := by decide +kernel
theorem dX10_goBack_26 : decode cX10_goBack 26 = .ok (.aload_n 0, 1) := by decide +kernel
theorem dX10_goBack_27 : decode cX10_goBack 27 = .ok (.getfield 61, 3) := by decide +kernel
theorem dX10_goBack_30 : decode cX10_goBack 30 = .ok (.iload_n 1, 1) := by decide +kernel
theorem dX10_goBack_31 : decode cX10_goBack 31 = .ok (.aload_n 0, 1) := by decide +kernel
theorem dX10_goBack_32 : decode cX10_goBack 32 = .ok (.getfield 10, 3) := by decide +kernel
theorem dX10_goBack_35 : decode cX10_goBack 35 = .ok (.aload_n 0, 1) := by decide +kernel
theorem dX10_goBack_36 : decode cX10_goBack 36 = .ok (.getfield 68, 3) := by decide +kernel
theorem dX10_goBack_39 : decode cX10_goBack 39 = .ok (.invokevirtual 246, 3) := by decide +kernel
theorem dX10_goBack_42 : decode cX10_goBack 42 = .ok (.aload_n 0, 1) := by decide +kernel
theorem dX10_goBack_43 : decode cX10_goBack 43 = .ok (.getfield 54, 3) := by decide +kernel
theorem dX10_goBack_46 : decode cX10_goBack 46 = .ok (.iconst 0, 1) := by decide +kernel
theorem dX10_goBack_47 : decode cX10_goBack 47 = .ok (.putfield 109, 3) := by decide +kernel
theorem dX10_goBack_50 : decode cX10_goBack 50 = .ok (.aload_n 0, 1) := by decide +kernel
theorem dX10_goBack_51 : decode cX10_goBack 51 = .ok (.invokevirtual 205, 3) := by decide +kernel
theorem dX10_goBack_54 : decode cX10_goBack 54 = .ok (.iconst 1, 1) := by decide +kernel
theorem dX10_goBack_55 : decode cX10_goBack 55 = .ok (.ireturn, 1) := by decide +kernel
theorem dX10_boundYears_0 : decode cX10_boundYears 0 = .ok (.aload_n 0, 1) := by decide +kernel
theorem dX10_boundYears_1 : decode cX10_boundYears 1 = .ok (.getfield 10, 3) := by decide +kernel
theorem dX10_boundYears_4 : decode cX10_boundYears 4 = .ok (.iload_n 1, 1) := by decide +kernel
theorem dX10_boundYears_5 : decode cX10_boundYears 5 = .ok (.invokevirtual 113, 3) := by decide +kernel
theorem dX10_boundYears_8 : decode cX10_boundYears 8 = .ok (.ifCond .ne 6, 3) := by decide +kernel
theorem dX10_boundYears_11 : decode cX10_boundYears 11 = .ok (.ldc 117, 2) := by decide +kernel
theorem dX10_boundYears_13 : decode cX10_boundYears 13 = .ok (.ireturn, 1) := by decide +kernel
theorem dX10_boundYears_14 : decode cX10_boundYears 14 = .ok (.iload_n 3, 1) := by decide +kernel
theorem dX10_boundYears_15 : decode cX10_boundYears 15 = .ok (.iload 4, 2) := by decide +kernel
theorem dX10_boundYears_17 : decode cX10_boundYears 17 = .ok (.invokestatic 175, 3) := by decide +kernel
theorem dX10_boundYears_20 : decode cX10_boundYears 20 = .ok (.ifCond .ne 6, 3) := by decide +kernel
theorem dX10_boundYears_23 : decode cX10_boundYears 23 = .ok (.ldc 112, 2) := by decide +kernel
theorem dX10_boundYears_25 : decode cX10_boundYears 25 = .ok (.ireturn, 1) := by decide +kernel
theorem dX10_boundYears_26 : decode cX10_boundYears 26 = .ok (.aload_n 0, 1) := by decide +kernel
theorem dX10_boundYears_27 : decode cX10_boundYears 27 = .ok (.getfield 54, 3) := by decide +kernel
theorem dX10_boundYears_30 : decode cX10_boundYears 30 = .ok (.aload_n 0, 1) := by decide +kernel
theorem dX10_boundYears_31 : decode cX10_boundYears 31 = .ok (.getfield 10, 3) := by decide +kernel
theorem dX10_boundYears_34 : decode cX10_boundYears 34 = .ok (.invokevirtual 197, 3) := by decide +kernel
theorem dX10_boundYears_37 : decode cX10_boundYears 37 = .ok (.aload_n 0, 1) := by decide +kernel
theorem dX10_boundYears_38 : decode cX10_boundYears 38 = .ok (.getfield 10, 3) := by decide +kernel
theorem dX10_boundYears_41 : decode cX10_boundYears 41 = .ok (.iload_n 1, 1) := by decide +kernel
theorem dX10_boundYears_42 : decode cX10_boundYears 42 = .ok (.iload_n 2, 1) := by decide +kernel
theorem dX10_boundYears_43 : decode cX10_boundYears 43 = .ok (.iload_n 3, 1) := by decide +kernel
theorem dX10_boundYears_44 : decode cX10_boundYears 44 = .ok (.iload 4, 2) := by decide +kernel
theorem dX10_boundYears_46 : decode cX10_boundYears 46 = .ok (.invokevirtual 249, 3) := by decide +kernel
theorem dX10_boundYears_49 : decode cX10_boundYears 49 = .ok (.aload_n 0, 1) := by decide +kernel
theorem dX10_boundYears_50 : decode cX10_boundYears 50 = .ok (.getfield 26, 3) := by decide +kernel
theorem dX10_boundYears_53 : decode cX10_boundYears 53 = .ok (.aload_n 0, 1) := by decide +kernel
theorem dX10_boundYears_54 : decode cX10_boundYears 54 = .ok (.getfield 10, 3) := by decide +kernel
theorem dX10_boundYears_57 : decode cX10_boundYears 57 = .ok (.invokevirtual 252, 3) := by decide +kernel
theorem dX10_boundYears_60 : decode cX10_boundYears 60 = .ok (.aload_n 0, 1) := by decide +kernel
theorem dX10_boundYears_61 : decode cX10_boundYears 61 = .ok (.getfield 26, 3) := by decide +kernel
theorem dX10_boundYears_64 : decode cX10_boundYears 64 = .ok (.invokevirtual 89, 3) := by decide +kernel
theorem dX10_boundYears_67 : decode cX10_boundYears 67 = .ok (.ireturn, 1) := by decide +kernel
theorem dX10_reckonAll_0 : decode cX10_reckonAll 0 = .ok (.aload_n 0, 1) := by decide +kernel
theorem dX10_reckonAll_1 : decode cX10_reckonAll 1 = .ok (.getfield 19, 3) := by decide +kernel
theorem dX10_reckonAll_4 : decode cX10_reckonAll 4 = .ok (.aload_n 0, 1) := by decide +kernel
theorem dX10_reckonAll_5 : decode cX10_reckonAll 5 = .ok (.getfield 10, 3) := by decide +kernel
theorem dX10_reckonAll_8 : decode cX10_reckonAll 8 = .ok (.invokevirtual 216, 3) := by decide +kernel
theorem dX10_reckonAll_11 : decode cX10_reckonAll 11 = .ok (.aload_n 0, 1) := by decide +kernel
theorem dX10_reckonAll_12 : decode cX10_reckonAll 12 = .ok (.getfield 26, 3) := by decide +kernel
theorem dX10_reckonAll_15 : decode cX10_reckonAll 15 = .ok (.aload_n 0, 1) := by decide +kernel
theorem dX10_reckonAll_16 : decode cX10_reckonAll 16 = .ok (.getfield 10, 3) := by decide +kernel
theorem dX10_reckonAll_19 : decode cX10_reckonAll 19 = .ok (.invokevirtual 252, 3) := by decide +kernel
theorem dX10_reckonAll_22 : decode cX10_reckonAll 22 = .ok (.return_, 1) := by decide +kernel
theorem dX10_isArms_0 : decode cX10_isArms 0 = .ok (.iload_n 0, 1) := by decide +kernel
theorem dX10_isArms_1 : decode cX10_isArms 1 = .ok (.ifCond .lt 13, 3) := by decide +kernel
theorem dX10_isArms_4 : decode cX10_isArms 4 = .ok (.iload_n 0, 1) := by decide +kernel
theorem dX10_isArms_5 : decode cX10_isArms 5 = .ok (.bipush 10, 2) := by decide +kernel
theorem dX10_isArms_7 : decode cX10_isArms 7 = .ok (.if_icmp .ge 7, 3) := by decide +kernel
theorem dX10_isArms_10 : decode cX10_isArms 10 = .ok (.iconst 1, 1) := by decide +kernel
theorem dX10_isArms_11 : decode cX10_isArms 11 = .ok (.goto 4, 3) := by decide +kernel
theorem dX10_isArms_14 : decode cX10_isArms 14 = .ok (.iconst 0, 1) := by decide +kernel
theorem dX10_isArms_15 : decode cX10_isArms 15 = .ok (.ireturn, 1) := by decide +kernel
theorem dX10_areYears_0 : decode cX10_areYears 0 = .ok (.iload_n 0, 1) := by decide +kernel
theorem dX10_areYears_1 : decode cX10_areYears 1 = .ok (.ifCond .lt 19, 3) := by decide +kernel
theorem dX10_areYears_4 : decode cX10_areYears 4 = .ok (.iload_n 0, 1) := by decide +kernel
theorem dX10_areYears_5 : decode cX10_areYears 5 = .ok (.iload_n 1, 1) := by decide +kernel
theorem dX10_areYears_6 : decode cX10_areYears 6 = .ok (.if_icmp .gt 14, 3) := by decide +kernel
theorem dX10_areYears_9 : decode cX10_areYears 9 = .ok (.iload_n 1, 1) := by decide +kernel
theorem dX10_areYears_10 : decode cX10_areYears 10 = .ok (.sipush 999, 3) := by decide +kernel
theorem dX10_areYears_13 : decode cX10_areYears 13 = .ok (.if_icmp .gt 7, 3) := by decide +kernel
theorem dX10_areYears_16 : decode cX10_areYears 16 = .ok (.iconst 1, 1) := by decide +kernel
theorem dX10_areYears_17 : decode cX10_areYears 17 = .ok (.goto 4, 3) := by decide +kernel
theorem dX10_areYears_20 : decode cX10_areYears 20 = .ok (.iconst 0, 1) := by decide +kernel
theorem dX10_areYears_21 : decode cX10_areYears 21 = .ok (.ireturn, 1) := by decide +kernel
theorem dX11_init_0 : decode cX11_init 0 = .ok (.aload_n 0, 1) := by decide +kernel
theorem dX11_init_1 : decode cX11_init 1 = .ok (.invokespecial 1, 3) := by decide +kernel
theorem dX11_init_4 : decode cX11_init 4 = .ok (.aload_n 0, 1) := by decide +kernel
theorem dX11_init_5 : decode cX11_init 5 = .ok (.sipush 3243, 3) := by decide +kernel
theorem dX11_init_8 : decode cX11_init 8 = .ok (.newarray .int, 2) := by decide +kernel
theorem dX11_init_10 : decode cX11_init 10 = .ok (.putfield 7, 3) := by decide +kernel
theorem dX11_init_13 : decode cX11_init 13 = .ok (.aload_n 0, 1) := by decide +kernel
theorem dX11_init_14 : decode cX11_init 14 = .ok (.iconst 2, 1) := by decide +kernel
theorem dX11_init_15 : decode cX11_init 15 = .ok (.newarray .int, 2) := by decide +kernel
theorem dX11_init_17 : decode cX11_init 17 = .ok (.putfield 13, 3) := by decide +kernel
theorem dX11_init_20 : decode cX11_init 20 = .ok (.aload_n 0, 1) := by decide +kernel
theorem dX11_init_21 : decode cX11_init 21 = .ok (.iconst 2, 1) := by decide +kernel
theorem dX11_init_22 : decode cX11_init 22 = .ok (.newarray .boolean, 2) := by decide +kernel
theorem dX11_init_24 : decode cX11_init 24 = .ok (.putfield 16, 3) := by decide +kernel
theorem dX11_init_27 : decode cX11_init 27 = .ok (.aload_n 0, 1) := by decide +kernel
theorem dX11_init_28 : decode cX11_init 28 = .ok (.bipush 20, 2) := by decide +kernel
theorem dX11_init_30 : decode cX11_init 30 = .ok (.newarray .int, 2) := by decide +kernel
theorem dX11_init_32 : decode cX11_init 32 = .ok (.putfield 20, 3) := by decide +kernel
theorem dX11_init_35 : decode cX11_init 35 = .ok (.aload_n 0, 1) := by decide +kernel
theorem dX11_init_36 : decode cX11_init 36 = .ok (.bipush 20, 2) := by decide +kernel
theorem dX11_init_38 : decode cX11_init 38 = .ok (.newarray .int, 2) := by decide +kernel
theorem dX11_init_40 : decode cX11_init 40 = .ok (.putfield 23, 3) := by decide +kernel
theorem dX11_init_43 : decode cX11_init 43 = .ok (.aload_n 0, 1) := by decide +kernel
theorem dX11_init_44 : decode cX11_init 44 = .ok (.bipush 20, 2) := by decide +kernel
theorem dX11_init_46 : decode cX11_init 46 = .ok (.newarray .int, 2) := by decide +kernel
theorem dX11_init_48 : decode cX11_init 48 = .ok (.putfield 26, 3) := by decide +kernel
theorem dX11_init_51 : decode cX11_init 51 = .ok (.aload_n 0, 1) := by decide +kernel
theorem dX11_init_52 : decode cX11_init 52 = .ok (.bipush 17, 2) := by decide +kernel
theorem dX11_init_54 : decode cX11_init 54 = .ok (.newarray .int, 2) := by decide +kernel
theorem dX11_init_56 : decode cX11_init 56 = .ok (.putfield 29, 3) := by decide +kernel
theorem dX11_init_59 : decode cX11_init 59 = .ok (.aload_n 0, 1) := by decide +kernel
theorem dX11_init_60 : decode cX11_init 60 = .ok (.sipush 170, 3) := by decide +kernel
theorem dX11_init_63 : decode cX11_init 63 = .ok (.newarray .int, 2) := by decide +kernel
theorem dX11_init_65 : decode cX11_init 65 = .ok (.putfield 32, 3) := by decide +kernel
theorem dX11_init_68 : decode cX11_init 68 = .ok (.aload_n 0, 1) := by decide +kernel
theorem dX11_init_69 : decode cX11_init 69 = .ok (.sipush 170, 3) := by decide +kernel
theorem dX11_init_72 : decode cX11_init 72 = .ok (.newarray .int, 2) := by decide +kernel
theorem dX11_init_74 : decode cX11_init 74 = .ok (.putfield 35, 3) := by decide +kernel
theorem dX11_init_77 : decode cX11_init 77 = .ok (.aload_n 0, 1) := by decide +kernel
theorem dX11_init_78 : decode cX11_init 78 = .ok (.bipush 32, 2) := by decide +kernel
theorem dX11_init_80 : decode cX11_init 80 = .ok (.newarray .int, 2) := by decide +kernel
theorem dX11_init_82 : decode cX11_init 82 = .ok (.putfield 38, 3) := by decide +kernel
theorem dX11_init_85 : decode cX11_init 85 = .ok (.aload_n 0, 1) := by decide +kernel
theorem dX11_init_86 : decode cX11_init 86 = .ok (.bipush 32, 2) := by decide +kernel
theorem dX11_init_88 : decode cX11_init 88 = .ok (.newarray .int, 2) := by decide +kernel
theorem dX11_init_90 : decode cX11_init 90 = .ok (.putfield 41, 3) := by decide +kernel
theorem dX11_init_93 : decode cX11_init 93 = .ok (.aload_n 0, 1) := by decide +kernel
theorem dX11_init_94 : decode cX11_init 94 = .ok (.bipush 11, 2) := by decide +kernel
theorem dX11_init_96 : decode cX11_init 96 = .ok (.newarray .int, 2) := by decide +kernel
theorem dX11_init_98 : decode cX11_init 98 = .ok (.putfield 44, 3) := by decide +kernel
theorem dX11_init_101 : decode cX11_init 101 = .ok (.aload_n 0, 1) := by decide +kernel
theorem dX11_init_102 : decode cX11_init 102 = .ok (.bipush 16, 2) := by decide +kernel
theorem dX11_init_104 : decode cX11_init 104 = .ok (.newarray .int, 2) := by decide +kernel
theorem dX11_init_106 : decode cX11_init 106 = .ok (.putfield 47, 3) := by decide +kernel
theorem dX11_init_109 : decode cX11_init 109 = .ok (.aload_n 0, 1) := by decide +kernel
theorem dX11_init_110 : decode cX11_init 110 = .ok (.bipush 16, 2) := by decide +kernel
theorem dX11_init_112 : decode cX11_init 112 = .ok (.newarray .int, 2) := by decide +kernel
theorem dX11_init_114 : decode cX11_init 114 = .ok (.putfield 50, 3) := by decide +kernel
theorem dX11_init_117 : decode cX11_init 117 = .ok (.return_, 1) := by decide +kernel
theorem dX11_in_0 : decode cX11_in 0 = .ok (.lload_n 0, 1) := by decide +kernel
theorem dX11_in_1 : decode cX11_in 1 = .ok (.lload_n 2, 1) := by decide +kernel
theorem dX11_in_2 : decode cX11_in 2 = .ok (.lcmp, 1) := by decide +kernel
theorem dX11_in_3 : decode cX11_in 3 = .ok (.ifCond .lt 14, 3) := by decide +kernel
theorem dX11_in_6 : decode cX11_in 6 = .ok (.lload_n 0, 1) := by decide +kernel
theorem dX11_in_7 : decode cX11_in 7 = .ok (.lload 4, 2) := by decide +kernel
theorem dX11_in_9 : decode cX11_in 9 = .ok (.lcmp, 1) := by decide +kernel
theorem dX11_in_10 : decode cX11_in 10 = .ok (.ifCond .gt 7, 3) := by decide +kernel
theorem dX11_in_13 : decode cX11_in 13 = .ok (.iconst 1, 1) := by decide +kernel
theorem dX11_in_14 : decode cX11_in 14 = .ok (.goto 4, 3) := by decide +kernel
theorem dX11_in_17 : decode cX11_in 17 = .ok (.iconst 0, 1) := by decide +kernel
theorem dX11_in_18 : decode cX11_in 18 = .ok (.ireturn, 1) := by decide +kernel
theorem dX11_copy_0 : decode cX11_copy 0 = .ok (.iconst 0, 1) := by decide +kernel
theorem dX11_copy_1 : decode cX11_copy 1 = .ok (.istore_n 3, 1) := by decide +kernel
theorem dX11_copy_2 : decode cX11_copy 2 = .ok (.iload_n 3, 1) := by decide +kernel
theorem dX11_copy_3 : decode cX11_copy 3 = .ok (.sipush 141, 3) := by decide +kernel
theorem dX11_copy_6 : decode cX11_copy 6 = .ok (.if_icmp .ge 25, 3) := by decide +kernel
theorem dX11_copy_9 : decode cX11_copy 9 = .ok (.aload_n 0, 1) := by decide +kernel
theorem dX11_copy_10 : decode cX11_copy 10 = .ok (.getfield 7, 3) := by decide +kernel
theorem dX11_copy_13 : decode cX11_copy 13 = .ok (.iload_n 2, 1) := by decide +kernel
theorem dX11_copy_14 : decode cX11_copy 14 = .ok (.iload_n 3, 1) := by decide +kernel
theorem dX11_copy_15 : decode cX11_copy 15 = .ok (.iadd, 1) := by decide +kernel
theorem dX11_copy_16 : decode cX11_copy 16 = .ok (.aload_n 0, 1) := by decide +kernel
theorem dX11_copy_17 : decode cX11_copy 17 = .ok (.getfield 7, 3) := by decide +kernel
theorem dX11_copy_20 : decode cX11_copy 20 = .ok (.iload_n 1, 1) := by decide +kernel
theorem dX11_copy_21 : decode cX11_copy 21 = .ok (.iload_n 3, 1) := by decide +kernel
theorem dX11_copy_22 : decode cX11_copy 22 = .ok (.iadd, 1) := by decide +kernel
theorem dX11_copy_23 : decode cX11_copy 23 = .ok (.iaload, 1) := by decide +kernel
theorem dX11_copy_24 : decode cX11_copy 24 = .ok (.iastore, 1) := by decide +kernel
theorem dX11_copy_25 : decode cX11_copy 25 = .ok (.iinc 3 1, 3) := by decide +kernel
theorem dX11_copy_28 : decode cX11_copy 28 = .ok (.goto (-26), 3) := by decide +kernel
theorem dX11_copy_31 : decode cX11_copy 31 = .ok (.return_, 1) := by decide +kernel
theorem dX11_minds_0 : decode cX11_minds 0 = .ok (.aload_n 0, 1) := by decide +kernel
theorem dX11_minds_1 : decode cX11_minds 1 = .ok (.getfield 53, 3) := by decide +kernel
theorem dX11_minds_4 : decode cX11_minds 4 = .ok (.bipush 20, 2) := by decide +kernel
theorem dX11_minds_6 : decode cX11_minds 6 = .ok (.if_icmp .ne 52, 3) := by decide +kernel
theorem dX11_minds_9 : decode cX11_minds 9 = .ok (.iconst 0, 1) := by decide +kernel
theorem dX11_minds_10 : decode cX11_minds 10 = .ok (.istore_n 1, 1) := by decide +kernel
theorem dX11_minds_11 : decode cX11_minds 11 = .ok (.iload_n 1, 1) := by decide +kernel
theorem dX11_minds_12 : decode cX11_minds 12 = .ok (.sipush 2679, 3) := by decide +kernel
theorem dX11_minds_15 : decode cX11_minds 15 = .ok (.if_icmp .ge 33, 3) := by decide +kernel
theorem dX11_minds_18 : decode cX11_minds 18 = .ok (.aload_n 0, 1) := by decide +kernel
theorem dX11_minds_19 : decode cX11_minds 19 = .ok (.getfield 7, 3) := by decide +kernel
theorem dX11_minds_22 : decode cX11_minds 22 = .ok (.sipush 423, 3) := by decide +kernel
theorem dX11_minds_25 : decode cX11_minds 25 = .ok (.iload_n 1, 1) := by decide +kernel
theorem dX11_minds_26 : decode cX11_minds 26 = .ok (.iadd, 1) := by decide +kernel
theorem dX11_minds_27 : decode cX11_minds 27 = .ok (.aload_n 0, 1) := by decide +kernel
theorem dX11_minds_28 : decode cX11_minds 28 = .ok (.getfield 7, 3) := by decide +kernel
theorem dX11_minds_31 : decode cX11_minds 31 = .ok (.sipush 423, 3) := by decide +kernel
theorem dX11_minds_34 : decode cX11_minds 34 = .ok (.iload_n 1, 1) := by decide +kernel
theorem dX11_minds_35 : decode cX11_minds 35 = .ok (.iadd, 1) := by decide +kernel
theorem dX11_minds_36 : decode cX11_minds 36 = .ok (.sipush 141, 3) := by decide +kernel
theorem dX11_minds_39 : decode cX11_minds 39 = .ok (.iadd, 1) := by decide +kernel
theorem dX11_minds_40 : decode cX11_minds 40 = .ok (.iaload, 1) := by decide +kernel
theorem dX11_minds_41 : decode cX11_minds 41 = .ok (.iastore, 1) := by decide +kernel
theorem dX11_minds_42 : decode cX11_minds 42 = .ok (.iinc 1 1, 3) := by decide +kernel
theorem dX11_minds_45 : decode cX11_minds 45 = .ok (.goto (-34), 3) := by decide +kernel
theorem dX11_minds_48 : decode cX11_minds 48 = .ok (.aload_n 0, 1) := by decide +kernel
theorem dX11_minds_49 : decode cX11_minds 49 = .ok (.dup, 1) := by decide +kernel
theorem dX11_minds_50 : decode cX11_minds 50 = .ok (.getfield 53, 3) := by decide +kernel
theorem dX11_minds_53 : decode cX11_minds 53 = .ok (.iconst 1, 1) := by decide +kernel
theorem dX11_minds_54 : decode cX11_minds 54 = .ok (.isub, 1) := by decide +kernel
theorem dX11_minds_55 : decode cX11_minds 55 = .ok (.putfield 53, 3) := by decide +kernel
theorem dX11_minds_58 : decode cX11_minds 58 = .ok (.aload_n 0, 1) := by decide +kernel
theorem dX11_minds_59 : decode cX11_minds 59 = .ok (.iconst 0, 1) := by decide +kernel
theorem dX11_minds_60 : decode cX11_minds 60 = .ok (.sipush 423, 3) := by decide +kernel
theorem dX11_minds_63 : decode cX11_minds 63 = .ok (.sipush 141, 3) := by decide +kernel
theorem dX11_minds_66 : decode cX11_minds 66 = .ok (.aload_n 0, 1) := by decide +kernel
theorem dX11_minds_67 : decode cX11_minds 67 = .ok (.getfield 53, 3) := by decide +kernel
theorem dX11_minds_70 : decode cX11_minds 70 = .ok (.imul, 1) := by decide +kernel
theorem dX11_minds_71 : decode cX11_minds 71 = .ok (.iadd, 1) := by decide +kernel
theorem dX11_minds_72 : decode cX11_minds 72 = .ok (.invokevirtual 57, 3) := by decide +kernel
theorem dX11_minds_75 : decode cX11_minds 75 = .ok (.aload_n 0, 1) := by decide +kernel
theorem dX11_minds_76 : decode cX11_minds 76 = .ok (.dup, 1) := by decide +kernel
theorem dX11_minds_77 : decode cX11_minds 77 = .ok (.getfield 53, 3) := by decide +kernel
theorem dX11_minds_80 : decode cX11_minds 80 = .ok (.iconst 1, 1) := by decide +kernel
theorem dX11_minds_81 : decode cX11_minds 81 = .ok (.iadd, 1) := by decide +kernel
theorem dX11_minds_82 : decode cX11_minds 82 = .ok (.putfield 53, 3) := by decide +kernel
theorem dX11_minds_85 : decode cX11_minds 85 = .ok (.return_, 1) := by decide +kernel
theorem dX11_isOne_0 : decode cX11_isOne 0 = .ok (.iload_n 1, 1) := by decide +kernel
theorem dX11_isOne_1 : decode cX11_isOne 1 = .ok (.i2l, 1) := by decide +kernel
theorem dX11_isOne_2 : decode cX11_isOne 2 = .ok (.lconst 0, 1) := by decide +kernel
theorem dX11_isOne_3 : decode cX11_isOne 3 = .ok (.aload_n 0, 1) := by decide +kernel
theorem dX11_isOne_4 : decode cX11_isOne 4 = .ok (.getfield 7, 3) := by decide +kernel
theorem dX11_isOne_7 : decode cX11_isOne 7 = .ok (.iconst 0, 1) := by decide +kernel
theorem dX11_isOne_8 : decode cX11_isOne 8 = .ok (.iaload, 1) := by decide +kernel
theorem dX11_isOne_9 : decode cX11_isOne 9 = .ok (.iconst 1, 1) := by decide +kernel
theorem dX11_isOne_10 : decode cX11_isOne 10 = .ok (.isub, 1) := by decide +kernel
theorem dX11_isOne_11 : decode cX11_isOne 11 = .ok (.i2l, 1) := by decide +kernel
theorem dX11_isOne_12 : decode cX11_isOne 12 = .ok (.invokestatic 61, 3) := by decide +kernel
theorem dX11_isOne_15 : decode cX11_isOne 15 = .ok (.ireturn, 1) := by decide +kernel
theorem dX11_isMan_0 : decode cX11_isMan 0 = .ok (.aload_n 0, 1) := by decide +kernel
theorem dX11_isMan_1 : decode cX11_isMan 1 = .ok (.iload_n 1, 1) := by decide +kernel
theorem dX11_isMan_2 : decode cX11_isMan 2 = .ok (.invokevirtual 65, 3) := by decide +kernel
theorem dX11_isMan_5 : decode cX11_isMan 5 = .ok (.ifCond .eq 19, 3) := by decide +kernel
theorem dX11_isMan_8 : decode cX11_isMan 8 = .ok (.aload_n 0, 1) := by decide +kernel
theorem dX11_isMan_9 : decode cX11_isMan 9 = .ok (.getfield 7, 3) := by decide +kernel
theorem dX11_isMan_12 : decode cX11_isMan 12 = .ok (.bipush 13, 2) := by decide +kernel
theorem dX11_isMan_14 : decode cX11_isMan 14 = .ok (.iload_n 1, 1) := by decide +kernel
theorem dX11_isMan_15 : decode cX11_isMan 15 = .ok (.iadd, 1) := by decide +kernel
theorem dX11_isMan_16 : decode cX11_isMan 16 = .ok (.iaload, 1) := by decide +kernel
theorem dX11_isMan_17 : decode cX11_isMan 17 = .ok (.ifCond .ne 7, 3) := by decide +kernel
theorem dX11_isMan_20 : decode cX11_isMan 20 = .ok (.iconst 1, 1) := by decide +kernel
theorem dX11_isMan_21 : decode cX11_isMan 21 = .ok (.goto 4, 3) := by decide +kernel
theorem dX11_isMan_24 : decode cX11_isMan 24 = .ok (.iconst 0, 1) := by decide +kernel
theorem dX11_isMan_25 : decode cX11_isMan 25 = .ok (.ireturn, 1) := by decide +kernel
theorem dX11_isWoman_0 : decode cX11_isWoman 0 = .ok (.aload_n 0, 1) := by decide +kernel
theorem dX11_isWoman_1 : decode cX11_isWoman 1 = .ok (.iload_n 1, 1) := by decide +kernel
theorem dX11_isWoman_2 : decode cX11_isWoman 2 = .ok (.invokevirtual 65, 3) := by decide +kernel
theorem dX11_isWoman_5 : decode cX11_isWoman 5 = .ok (.ifCond .eq 20, 3) := by decide +kernel
theorem dX11_isWoman_8 : decode cX11_isWoman 8 = .ok (.aload_n 0, 1) := by decide +kernel
theorem dX11_isWoman_9 : decode cX11_isWoman 9 = .ok (.getfield 7, 3) := by decide +kernel
theorem dX11_isWoman_12 : decode cX11_isWoman 12 = .ok (.bipush 13, 2) := by decide +kernel
theorem dX11_isWoman_14 : decode cX11_isWoman 14 = .ok (.iload_n 1, 1) := by decide +kernel
theorem dX11_isWoman_15 : decode cX11_isWoman 15 = .ok (.iadd, 1) := by decide +kernel
theorem dX11_isWoman_16 : decode cX11_isWoman 16 = .ok (.iaload, 1) := by decide +kernel
theorem dX11_isWoman_17 : decode cX11_isWoman 17 = .ok (.iconst 1, 1) := by decide +kernel
theorem dX11_isWoman_18 : decode cX11_isWoman 18 = .ok (.if_icmp .ne 7, 3) := by decide +kernel
theorem dX11_isWoman_21 : decode cX11_isWoman 21 = .ok (.iconst 1, 1) := by decide +kernel
theorem dX11_isWoman_22 : decode cX11_isWoman 22 = .ok (.goto 4, 3) := by decide +kernel
theorem dX11_isWoman_25 : decode cX11_isWoman 25 = .ok (.iconst 0, 1) := by decide +kernel
theorem dX11_isWoman_26 : decode cX11_isWoman 26 = .ok (.ireturn, 1) := by decide +kernel
theorem dX11_isHeir_0 : decode cX11_isHeir 0 = .ok (.aload_n 0, 1) := by decide +kernel
theorem dX11_isHeir_1 : decode cX11_isHeir 1 = .ok (.iload_n 1, 1) := by decide +kernel
theorem dX11_isHeir_2 : decode cX11_isHeir 2 = .ok (.invokevirtual 69, 3) := by decide +kernel
theorem dX11_isHeir_5 : decode cX11_isHeir 5 = .ok (.ifCond .eq 20, 3) := by decide +kernel
theorem dX11_isHeir_8 : decode cX11_isHeir 8 = .ok (.aload_n 0, 1) := by decide +kernel
theorem dX11_isHeir_9 : decode cX11_isHeir 9 = .ok (.getfield 7, 3) := by decide +kernel
theorem dX11_isHeir_12 : decode cX11_isHeir 12 = .ok (.bipush 45, 2) := by decide +kernel
theorem dX11_isHeir_14 : decode cX11_isHeir 14 = .ok (.iload_n 1, 1) := by decide +kernel
theorem dX11_isHeir_15 : decode cX11_isHeir 15 = .ok (.iadd, 1) := by decide +kernel
theorem dX11_isHeir_16 : decode cX11_isHeir 16 = .ok (.iaload, 1) := by decide +kernel
theorem dX11_isHeir_17 : decode cX11_isHeir 17 = .ok (.iconst (-1), 1) := by decide +kernel
theorem dX11_isHeir_18 : decode cX11_isHeir 18 = .ok (.if_icmp .eq 7, 3) := by decide +kernel
theorem dX11_isHeir_21 : decode cX11_isHeir 21 = .ok (.iconst 1, 1) := by decide +kernel
theorem dX11_isHeir_22 : decode cX11_isHeir 22 = .ok (.goto 4, 3) := by decide +kernel
theorem dX11_isHeir_25 : decode cX11_isHeir 25 = .ok (.iconst 0, 1) := by decide +kernel
theorem dX11_isHeir_26 : decode cX11_isHeir 26 = .ok (.istore_n 2, 1) := by decide +kernel
theorem dX11_isHeir_27 : decode cX11_isHeir 27 = .ok (.iconst 0, 1) := by decide +kernel
theorem dX11_isHeir_28 : decode cX11_isHeir 28 = .ok (.istore_n 3, 1) := by decide +kernel
theorem dX11_isHeir_29 : decode cX11_isHeir 29 = .ok (.iload_n 3, 1) := by decide +kernel
theorem dX11_isHeir_30 : decode cX11_isHeir 30 = .ok (.aload_n 0, 1) := by decide +kernel
theorem dX11_isHeir_31 : decode cX11_isHeir 31 = .ok (.getfield 7, 3) := by decide +kernel
theorem dX11_isHeir_34 : decode cX11_isHeir 34 = .ok (.iconst 0, 1) := by decide +kernel
theorem dX11_isHeir_35 : decode cX11_isHeir 35 = .ok (.iaload, 1) := by decide +kernel
theorem dX11_isHeir_36 : decode cX11_isHeir 36 = .ok (.if_icmp .ge 53, 3) := by decide +kernel
theorem dX11_isHeir_39 : decode cX11_isHeir 39 = .ok (.iload_n 2, 1) := by decide +kernel
theorem dX11_isHeir_40 : decode cX11_isHeir 40 = .ok (.ifCond .eq 49, 3) := by decide +kernel
theorem dX11_isHeir_43 : decode cX11_isHeir 43 = .ok (.aload_n 0, 1) := by decide +kernel
theorem dX11_isHeir_44 : decode cX11_isHeir 44 = .ok (.getfield 7, 3) := by decide +kernel
theorem dX11_isHeir_47 : decode cX11_isHeir 47 = .ok (.bipush 13, 2) := by decide +kernel
theorem dX11_isHeir_49 : decode cX11_isHeir 49 = .ok (.iload_n 3, 1) := by decide +kernel
theorem dX11_isHeir_50 : decode cX11_isHeir 50 = .ok (.iadd, 1) := by decide +kernel
theorem dX11_isHeir_51 : decode cX11_isHeir 51 = .ok (.iaload, 1) := by decide +kernel
theorem dX11_isHeir_52 : decode cX11_isHeir 52 = .ok (.iconst 1, 1) := by decide +kernel
theorem dX11_isHeir_53 : decode cX11_isHeir 53 = .ok (.if_icmp .eq 24, 3) := by decide +kernel
theorem dX11_isHeir_56 : decode cX11_isHeir 56 = .ok (.aload_n 0, 1) := by decide +kernel
theorem dX11_isHeir_57 : decode cX11_isHeir 57 = .ok (.getfield 7, 3) := by decide +kernel
theorem dX11_isHeir_60 : decode cX11_isHeir 60 = .ok (.bipush 45, 2) := by decide +kernel
theorem dX11_isHeir_62 : decode cX11_isHeir 62 = .ok (.iload_n 3, 1) := by decide +kernel
theorem dX11_isHeir_63 : decode cX11_isHeir 63 = .ok (.iadd, 1) := by decide +kernel
theorem dX11_isHeir_64 : decode cX11_isHeir 64 = .ok (.iaload, 1) := by decide +kernel
theorem dX11_isHeir_65 : decode cX11_isHeir 65 = .ok (.aload_n 0, 1) := by decide +kernel
theorem dX11_isHeir_66 : decode cX11_isHeir 66 = .ok (.getfield 7, 3) := by decide +kernel
theorem dX11_isHeir_69 : decode cX11_isHeir 69 = .ok (.bipush 45, 2) := by decide +kernel
theorem dX11_isHeir_71 : decode cX11_isHeir 71 = .ok (.iload_n 1, 1) := by decide +kernel
theorem dX11_isHeir_72 : decode cX11_isHeir 72 = .ok (.iadd, 1) := by decide +kernel
theorem dX11_isHeir_73 : decode cX11_isHeir 73 = .ok (.iaload, 1) := by decide +kernel
theorem dX11_isHeir_74 : decode cX11_isHeir 74 = .ok (.if_icmp .eq 7, 3) := by decide +kernel
theorem dX11_isHeir_77 : decode cX11_isHeir 77 = .ok (.iconst 1, 1) := by decide +kernel
theorem dX11_isHeir_78 : decode cX11_isHeir 78 = .ok (.goto 4, 3) := by decide +kernel
theorem dX11_isHeir_81 : decode cX11_isHeir 81 = .ok (.iconst 0, 1) := by decide +kernel
theorem dX11_isHeir_82 : decode cX11_isHeir 82 = .ok (.istore_n 2, 1) := by decide +kernel
theorem dX11_isHeir_83 : decode cX11_isHeir 83 = .ok (.iinc 3 1, 3) := by decide +kernel
theorem dX11_isHeir_86 : decode cX11_isHeir 86 = .ok (.goto (-57), 3) := by decide +kernel
theorem dX11_isHeir_89 : decode cX11_isHeir 89 = .ok (.iload_n 2, 1) := by decide +kernel
theorem dX11_isHeir_90 : decode cX11_isHeir 90 = .ok (.ireturn, 1) := by decide +kernel
theorem dX11_takes_0 : decode cX11_takes 0 = .ok (.iconst 0, 1) := by decide +kernel
theorem dX11_takes_1 : decode cX11_takes 1 = .ok (.istore 4, 2) := by decide +kernel
theorem dX11_takes_3 : decode cX11_takes 3 = .ok (.iconst 0, 1) := by decide +kernel
theorem dX11_takes_4 : decode cX11_takes 4 = .ok (.istore 5, 2) := by decide +kernel
theorem dX11_takes_6 : decode cX11_takes 6 = .ok (.iload 5, 2) := by decide +kernel
theorem dX11_takes_8 : decode cX11_takes 8 = .ok (.aload_n 0, 1) := by decide +kernel
theorem dX11_takes_9 : decode cX11_takes 9 = .ok (.getfield 29, 3) := by decide +kernel
theorem dX11_takes_12 : decode cX11_takes 12 = .ok (.iload_n 1, 1) := by decide +kernel
theorem dX11_takes_13 : decode cX11_takes 13 = .ok (.iaload, 1) := by decide +kernel
theorem dX11_takes_14 : decode cX11_takes 14 = .ok (.if_icmp .ge 37, 3) := by decide +kernel
theorem dX11_takes_17 : decode cX11_takes 17 = .ok (.iload 4, 2) := by decide +kernel
theorem dX11_takes_19 : decode cX11_takes 19 = .ok (.ifCond .ne 19, 3) := by decide +kernel
theorem dX11_takes_22 : decode cX11_takes 22 = .ok (.aload_n 0, 1) := by decide +kernel
theorem dX11_takes_23 : decode cX11_takes 23 = .ok (.getfield 32, 3) := by decide +kernel
theorem dX11_takes_26 : decode cX11_takes 26 = .ok (.bipush 10, 2) := by decide +kernel
theorem dX11_takes_28 : decode cX11_takes 28 = .ok (.iload_n 1, 1) := by decide +kernel
theorem dX11_takes_29 : decode cX11_takes 29 = .ok (.imul, 1) := by decide +kernel
theorem dX11_takes_30 : decode cX11_takes 30 = .ok (.iload 5, 2) := by decide +kernel
theorem dX11_takes_32 : decode cX11_takes 32 = .ok (.iadd, 1) := by decide +kernel
theorem dX11_takes_33 : decode cX11_takes 33 = .ok (.iaload, 1) := by decide +kernel
theorem dX11_takes_34 : decode cX11_takes 34 = .ok (.iload_n 2, 1) := by decide +kernel
theorem dX11_takes_35 : decode cX11_takes 35 = .ok (.if_icmp .ne 7, 3) := by decide +kernel
theorem dX11_takes_38 : decode cX11_takes 38 = .ok (.iconst 1, 1) := by decide +kernel
theorem dX11_takes_39 : decode cX11_takes 39 = .ok (.goto 4, 3) := by decide +kernel
theorem dX11_takes_42 : decode cX11_takes 42 = .ok (.iconst 0, 1) := by decide +kernel
theorem dX11_takes_43 : decode cX11_takes 43 = .ok (.istore 4, 2) := by decide +kernel
theorem dX11_takes_45 : decode cX11_takes 45 = .ok (.iinc 5 1, 3) := by decide +kernel
theorem dX11_takes_48 : decode cX11_takes 48 = .ok (.goto (-42), 3) := by decide +kernel
theorem dX11_takes_51 : decode cX11_takes 51 = .ok (.iload 4, 2) := by decide +kernel
theorem dX11_takes_53 : decode cX11_takes 53 = .ok (.ifCond .ne 47, 3) := by decide +kernel
theorem dX11_takes_56 : decode cX11_takes 56 = .ok (.aload_n 0, 1) := by decide +kernel
theorem dX11_takes_57 : decode cX11_takes 57 = .ok (.getfield 32, 3) := by decide +kernel
theorem dX11_takes_60 : decode cX11_takes 60 = .ok (.bipush 10, 2) := by decide +kernel
theorem dX11_takes_62 : decode cX11_takes 62 = .ok (.iload_n 1, 1) := by decide +kernel
theorem dX11_takes_63 : decode cX11_takes 63 = .ok (.imul, 1) := by decide +kernel
theorem dX11_takes_64 : decode cX11_takes 64 = .ok (.aload_n 0, 1) := by decide +kernel
theorem dX11_takes_65 : decode cX11_takes 65 = .ok (.getfield 29, 3) := by decide +kernel
theorem dX11_takes_68 : decode cX11_takes 68 = .ok (.iload_n 1, 1) := by decide +kernel
theorem dX11_takes_69 : decode cX11_takes 69 = .ok (.iaload, 1) := by decide +kernel
theorem dX11_takes_70 : decode cX11_takes 70 = .ok (.iadd, 1) := by decide +kernel
theorem dX11_takes_71 : decode cX11_takes 71 = .ok (.iload_n 2, 1) := by decide +kernel
theorem dX11_takes_72 : decode cX11_takes 72 = .ok (.iastore, 1) := by decide +kernel
theorem dX11_takes_73 : decode cX11_takes 73 = .ok (.aload_n 0, 1) := by decide +kernel
theorem dX11_takes_74 : decode cX11_takes 74 = .ok (.getfield 35, 3) := by decide +kernel
theorem dX11_takes_77 : decode cX11_takes 77 = .ok (.bipush 10, 2) := by decide +kernel
theorem dX11_takes_79 : decode cX11_takes 79 = .ok (.iload_n 1, 1) := by decide +kernel
theorem dX11_takes_80 : decode cX11_takes 80 = .ok (.imul, 1) := by decide +kernel
theorem dX11_takes_81 : decode cX11_takes 81 = .ok (.aload_n 0, 1) := by decide +kernel
theorem dX11_takes_82 : decode cX11_takes 82 = .ok (.getfield 29, 3) := by decide +kernel
theorem dX11_takes_85 : decode cX11_takes 85 = .ok (.iload_n 1, 1) := by decide +kernel
theorem dX11_takes_86 : decode cX11_takes 86 = .ok (.iaload, 1) := by decide +kernel
theorem dX11_takes_87 : decode cX11_takes 87 = .ok (.iadd, 1) := by decide +kernel
theorem dX11_takes_88 : decode cX11_takes 88 = .ok (.iload_n 3, 1) := by decide +kernel
theorem dX11_takes_89 : decode cX11_takes 89 = .ok (.iastore, 1) := by decide +kernel
theorem dX11_takes_90 : decode cX11_takes 90 = .ok (.aload_n 0, 1) := by decide +kernel
theorem dX11_takes_91 : decode cX11_takes 91 = .ok (.getfield 29, 3) := by decide +kernel
theorem dX11_takes_94 : decode cX11_takes 94 = .ok (.iload_n 1, 1) := by decide +kernel
theorem dX11_takes_95 : decode cX11_takes 95 = .ok (.dup2, 1) := by decide +kernel
theorem dX11_takes_96 : decode cX11_takes 96 = .ok (.iaload, 1) := by decide +kernel
theorem dX11_takes_97 : decode cX11_takes 97 = .ok (.iconst 1, 1) := by decide +kernel
theorem dX11_takes_98 : decode cX11_takes 98 = .ok (.iadd, 1) := by decide +kernel
theorem dX11_takes_99 : decode cX11_takes 99 = .ok (.iastore, 1) := by decide +kernel
theorem dX11_takes_100 : decode cX11_takes 100 = .ok (.return_, 1) := by decide +kernel
theorem dX11_takesOf_0 : decode cX11_takesOf 0 = .ok (.iconst 0, 1) := by decide +kernel
theorem dX11_takesOf_1 : decode cX11_takesOf 1 = .ok (.istore 4, 2) := by decide +kernel
theorem dX11_takesOf_3 : decode cX11_takesOf 3 = .ok (.iload 4, 2) := by decide +kernel
theorem dX11_takesOf_5 : decode cX11_takesOf 5 = .ok (.iload_n 3, 1) := by decide +kernel
theorem dX11_takesOf_6 : decode cX11_takesOf 6 = .ok (.if_icmp .ge 49, 3) := by decide +kernel
theorem dX11_takesOf_9 : decode cX11_takesOf 9 = .ok (.iload 4, 2) := by decide +kernel
theorem dX11_takesOf_11 : decode cX11_takesOf 11 = .ok (.aload_n 0, 1) := by decide +kernel
theorem dX11_takesOf_12 : decode cX11_takesOf 12 = .ok (.getfield 29, 3) := by decide +kernel
theorem dX11_takesOf_15 : decode cX11_takesOf 15 = .ok (.iload_n 2, 1) := by decide +kernel
theorem dX11_takesOf_16 : decode cX11_takesOf 16 = .ok (.iaload, 1) := by decide +kernel
theorem dX11_takesOf_17 : decode cX11_takesOf 17 = .ok (.if_icmp .ge 38, 3) := by decide +kernel
theorem dX11_takesOf_20 : decode cX11_takesOf 20 = .ok (.aload_n 0, 1) := by decide +kernel
theorem dX11_takesOf_21 : decode cX11_takesOf 21 = .ok (.iload_n 1, 1) := by decide +kernel
theorem dX11_takesOf_22 : decode cX11_takesOf 22 = .ok (.aload_n 0, 1) := by decide +kernel
theorem dX11_takesOf_23 : decode cX11_takesOf 23 = .ok (.getfield 32, 3) := by decide +kernel
theorem dX11_takesOf_26 : decode cX11_takesOf 26 = .ok (.bipush 10, 2) := by decide +kernel
theorem dX11_takesOf_28 : decode cX11_takesOf 28 = .ok (.iload_n 2, 1) := by decide +kernel
theorem dX11_takesOf_29 : decode cX11_takesOf 29 = .ok (.imul, 1) := by decide +kernel
theorem dX11_takesOf_30 : decode cX11_takesOf 30 = .ok (.iload 4, 2) := by decide +kernel
theorem dX11_takesOf_32 : decode cX11_takesOf 32 = .ok (.iadd, 1) := by decide +kernel
theorem dX11_takesOf_33 : decode cX11_takesOf 33 = .ok (.iaload, 1) := by decide +kernel
theorem dX11_takesOf_34 : decode cX11_takesOf 34 = .ok (.aload_n 0, 1) := by decide +kernel
theorem dX11_takesOf_35 : decode cX11_takesOf 35 = .ok (.getfield 35, 3) := by decide +kernel
theorem dX11_takesOf_38 : decode cX11_takesOf 38 = .ok (.bipush 10, 2) := by decide +kernel
theorem dX11_takesOf_40 : decode cX11_takesOf 40 = .ok (.iload_n 2, 1) := by decide +kernel
theorem dX11_takesOf_41 : decode cX11_takesOf 41 = .ok (.imul, 1) := by decide +kernel
theorem dX11_takesOf_42 : decode cX11_takesOf 42 = .ok (.iload 4, 2) := by decide +kernel
theorem dX11_takesOf_44 : decode cX11_takesOf 44 = .ok (.iadd, 1) := by decide +kernel
theorem dX11_takesOf_45 : decode cX11_takesOf 45 = .ok (.iaload, 1) := by decide +kernel
theorem dX11_takesOf_46 : decode cX11_takesOf 46 = .ok (.invokevirtual 72, 3) := by decide +kernel
theorem dX11_takesOf_49 : decode cX11_takesOf 49 = .ok (.iinc 4 1, 3) := by decide +kernel
theorem dX11_takesOf_52 : decode cX11_takesOf 52 = .ok (.goto (-49), 3) := by decide +kernel
theorem dX11_takesOf_55 : decode cX11_takesOf 55 = .ok (.return_, 1) := by decide +kernel
theorem dX11_laysOne_0 : decode cX11_laysOne 0 = .ok (.iload 4, 2) := by decide +kernel
theorem dX11_laysOne_2 : decode cX11_laysOne 2 = .ok (.iconst (-1), 1) := by decide +kernel
theorem dX11_laysOne_3 : decode cX11_laysOne 3 = .ok (.if_icmp .eq 16, 3) := by decide +kernel
theorem dX11_laysOne_6 : decode cX11_laysOne 6 = .ok (.aload_n 0, 1) := by decide +kernel
theorem dX11_laysOne_7 : decode cX11_laysOne 7 = .ok (.iload 4, 2) := by decide +kernel
theorem dX11_laysOne_9 : decode cX11_laysOne 9 = .ok (.invokevirtual 76, 3) := by decide +kernel
theorem dX11_laysOne_12 : decode cX11_laysOne 12 = .ok (.ifCond .eq 7, 3) := by decide +kernel
theorem dX11_laysOne_15 : decode cX11_laysOne 15 = .ok (.iconst 1, 1) := by decide +kernel
theorem dX11_laysOne_16 : decode cX11_laysOne 16 = .ok (.goto 4, 3) := by decide +kernel
theorem dX11_laysOne_19 : decode cX11_laysOne 19 = .ok (.iconst 0, 1) := by decide +kernel
theorem dX11_laysOne_20 : decode cX11_laysOne 20 = .ok (.istore 5, 2) := by decide +kernel
theorem dX11_laysOne_22 : decode cX11_laysOne 22 = .ok (.aload_n 0, 1) := by decide +kernel
theorem dX11_laysOne_23 : decode cX11_laysOne 23 = .ok (.getfield 29, 3) := by decide +kernel
theorem dX11_laysOne_26 : decode cX11_laysOne 26 = .ok (.iload_n 1, 1) := by decide +kernel
theorem dX11_laysOne_27 : decode cX11_laysOne 27 = .ok (.iconst 0, 1) := by decide +kernel
theorem dX11_laysOne_28 : decode cX11_laysOne 28 = .ok (.iastore, 1) := by decide +kernel
theorem dX11_laysOne_29 : decode cX11_laysOne 29 = .ok (.iload_n 3, 1) := by decide +kernel
theorem dX11_laysOne_30 : decode cX11_laysOne 30 = .ok (.iconst (-1), 1) := by decide +kernel
theorem dX11_laysOne_31 : decode cX11_laysOne 31 = .ok (.if_icmp .ne 13, 3) := by decide +kernel
theorem dX11_laysOne_34 : decode cX11_laysOne 34 = .ok (.aload_n 0, 1) := by decide +kernel
theorem dX11_laysOne_35 : decode cX11_laysOne 35 = .ok (.iload_n 1, 1) := by decide +kernel
theorem dX11_laysOne_36 : decode cX11_laysOne 36 = .ok (.iload_n 2, 1) := by decide +kernel
theorem dX11_laysOne_37 : decode cX11_laysOne 37 = .ok (.iload_n 1, 1) := by decide +kernel
theorem dX11_laysOne_38 : decode cX11_laysOne 38 = .ok (.invokevirtual 72, 3) := by decide +kernel
theorem dX11_laysOne_41 : decode cX11_laysOne 41 = .ok (.goto 25, 3) := by decide +kernel
theorem dX11_laysOne_44 : decode cX11_laysOne 44 = .ok (.aload_n 0, 1) := by decide +kernel
theorem dX11_laysOne_45 : decode cX11_laysOne 45 = .ok (.iload_n 1, 1) := by decide +kernel
theorem dX11_laysOne_46 : decode cX11_laysOne 46 = .ok (.iload_n 3, 1) := by decide +kernel
theorem dX11_laysOne_47 : decode cX11_laysOne 47 = .ok (.aload_n 0, 1) := by decide +kernel
theorem dX11_laysOne_48 : decode cX11_laysOne 48 = .ok (.getfield 7, 3) := by decide +kernel
theorem dX11_laysOne_51 : decode cX11_laysOne 51 = .ok (.iconst 1, 1) := by decide +kernel
theorem dX11_laysOne_52 : decode cX11_laysOne 52 = .ok (.iaload, 1) := by decide +kernel
theorem dX11_laysOne_53 : decode cX11_laysOne 53 = .ok (.iconst 2, 1) := by decide +kernel
theorem dX11_laysOne_54 : decode cX11_laysOne 54 = .ok (.if_icmp .ne 7, 3) := by decide +kernel
theorem dX11_laysOne_57 : decode cX11_laysOne 57 = .ok (.iconst 1, 1) := by decide +kernel
theorem dX11_laysOne_58 : decode cX11_laysOne 58 = .ok (.goto 5, 3) := by decide +kernel
theorem dX11_laysOne_61 : decode cX11_laysOne 61 = .ok (.bipush 10, 2) := by decide +kernel
theorem dX11_laysOne_63 : decode cX11_laysOne 63 = .ok (.invokevirtual 79, 3) := by decide +kernel
theorem dX11_laysOne_66 : decode cX11_laysOne 66 = .ok (.iload 5, 2) := by decide +kernel
theorem dX11_laysOne_68 : decode cX11_laysOne 68 = .ok (.ifCond .eq 26, 3) := by decide +kernel
theorem dX11_laysOne_71 : decode cX11_laysOne 71 = .ok (.aload_n 0, 1) := by decide +kernel
theorem dX11_laysOne_72 : decode cX11_laysOne 72 = .ok (.iload_n 1, 1) := by decide +kernel
theorem dX11_laysOne_73 : decode cX11_laysOne 73 = .ok (.iload 4, 2) := by decide +kernel
theorem dX11_laysOne_75 : decode cX11_laysOne 75 = .ok (.aload_n 0, 1) := by decide +kernel
theorem dX11_laysOne_76 : decode cX11_laysOne 76 = .ok (.getfield 7, 3) := by decide +kernel
theorem dX11_laysOne_79 : decode cX11_laysOne 79 = .ok (.iconst 1, 1) := by decide +kernel
theorem dX11_laysOne_80 : decode cX11_laysOne 80 = .ok (.iaload, 1) := by decide +kernel
theorem dX11_laysOne_81 : decode cX11_laysOne 81 = .ok (.iconst 1, 1) := by decide +kernel
theorem dX11_laysOne_82 : decode cX11_laysOne 82 = .ok (.if_icmp .ne 7, 3) := by decide +kernel
theorem dX11_laysOne_85 : decode cX11_laysOne 85 = .ok (.iconst 1, 1) := by decide +kernel
theorem dX11_laysOne_86 : decode cX11_laysOne 86 = .ok (.goto 5, 3) := by decide +kernel
theorem dX11_laysOne_89 : decode cX11_laysOne 89 = .ok (.bipush 10, 2) := by decide +kernel
theorem dX11_laysOne_91 : decode cX11_laysOne 91 = .ok (.invokevirtual 79, 3) := by decide +kernel
theorem dX11_laysOne_94 : decode cX11_laysOne 94 = .ok (.aload_n 0, 1) := by decide +kernel
theorem dX11_laysOne_95 : decode cX11_laysOne 95 = .ok (.getfield 7, 3) := by decide +kernel
theorem dX11_laysOne_98 : decode cX11_laysOne 98 = .ok (.iconst 1, 1) := by decide +kernel
theorem dX11_laysOne_99 : decode cX11_laysOne 99 = .ok (.iaload, 1) := by decide +kernel
theorem dX11_laysOne_100 : decode cX11_laysOne 100 = .ok (.iconst 2, 1) := by decide +kernel
theorem dX11_laysOne_101 : decode cX11_laysOne 101 = .ok (.if_icmp .ne 16, 3) := by decide +kernel
theorem dX11_laysOne_104 : decode cX11_laysOne 104 = .ok (.iload_n 3, 1) := by decide +kernel
theorem dX11_laysOne_105 : decode cX11_laysOne 105 = .ok (.iconst (-1), 1) := by decide +kernel
theorem dX11_laysOne_106 : decode cX11_laysOne 106 = .ok (.if_icmp .eq 11, 3) := by decide +kernel
theorem dX11_laysOne_109 : decode cX11_laysOne 109 = .ok (.aload_n 0, 1) := by decide +kernel
theorem dX11_laysOne_110 : decode cX11_laysOne 110 = .ok (.iload_n 1, 1) := by decide +kernel
theorem dX11_laysOne_111 : decode cX11_laysOne 111 = .ok (.iload_n 3, 1) := by decide +kernel
theorem dX11_laysOne_112 : decode cX11_laysOne 112 = .ok (.bipush 10, 2) := by decide +kernel
theorem dX11_laysOne_114 : decode cX11_laysOne 114 = .ok (.invokevirtual 79, 3) := by decide +kernel
theorem dX11_laysOne_117 : decode cX11_laysOne 117 = .ok (.return_, 1) := by decide +kernel
theorem dX11_lays_0 : decode cX11_lays 0 = .ok (.iconst 0, 1) := by decide +kernel
theorem dX11_lays_1 : decode cX11_lays 1 = .ok (.istore_n 1, 1) := by decide +kernel
theorem dX11_lays_2 : decode cX11_lays 2 = .ok (.iload_n 1, 1) := by decide +kernel
theorem dX11_lays_3 : decode cX11_lays 3 = .ok (.aload_n 0, 1) := by decide +kernel
theorem dX11_lays_4 : decode cX11_lays 4 = .ok (.getfield 7, 3) := by decide +kernel
theorem dX11_lays_7 : decode cX11_lays 7 = .ok (.iconst 0, 1) := by decide +kernel
theorem dX11_lays_8 : decode cX11_lays 8 = .ok (.iaload, 1) := by decide +kernel
theorem dX11_lays_9 : decode cX11_lays 9 = .ok (.if_icmp .ge 41, 3) := by decide +kernel
theorem dX11_lays_12 : decode cX11_lays 12 = .ok (.aload_n 0, 1) := by decide +kernel
theorem dX11_lays_13 : decode cX11_lays 13 = .ok (.iload_n 1, 1) := by decide +kernel
theorem dX11_lays_14 : decode cX11_lays 14 = .ok (.aload_n 0, 1) := by decide +kernel
theorem dX11_lays_15 : decode cX11_lays 15 = .ok (.getfield 7, 3) := by decide +kernel
theorem dX11_lays_18 : decode cX11_lays 18 = .ok (.bipush 29, 2) := by decide +kernel
theorem dX11_lays_20 : decode cX11_lays 20 = .ok (.iload_n 1, 1) := by decide +kernel
theorem dX11_lays_21 : decode cX11_lays 21 = .ok (.iadd, 1) := by decide +kernel
theorem dX11_lays_22 : decode cX11_lays 22 = .ok (.iaload, 1) := by decide +kernel
theorem dX11_lays_23 : decode cX11_lays 23 = .ok (.aload_n 0, 1) := by decide +kernel
theorem dX11_lays_24 : decode cX11_lays 24 = .ok (.getfield 7, 3) := by decide +kernel
theorem dX11_lays_27 : decode cX11_lays 27 = .ok (.bipush 45, 2) := by decide +kernel
theorem dX11_lays_29 : decode cX11_lays 29 = .ok (.iload_n 1, 1) := by decide +kernel
theorem dX11_lays_30 : decode cX11_lays 30 = .ok (.iadd, 1) := by decide +kernel
theorem dX11_lays_31 : decode cX11_lays 31 = .ok (.iaload, 1) := by decide +kernel
theorem dX11_lays_32 : decode cX11_lays 32 = .ok (.aload_n 0, 1) := by decide +kernel
theorem dX11_lays_33 : decode cX11_lays 33 = .ok (.getfield 7, 3) := by decide +kernel
theorem dX11_lays_36 : decode cX11_lays 36 = .ok (.bipush 61, 2) := by decide +kernel
theorem dX11_lays_38 : decode cX11_lays 38 = .ok (.iload_n 1, 1) := by decide +kernel
theorem dX11_lays_39 : decode cX11_lays 39 = .ok (.iadd, 1) := by decide +kernel
theorem dX11_lays_40 : decode cX11_lays 40 = .ok (.iaload, 1) := by decide +kernel
theorem dX11_lays_41 : decode cX11_lays 41 = .ok (.invokevirtual 82, 3) := by decide +kernel
theorem dX11_lays_44 : decode cX11_lays 44 = .ok (.iinc 1 1, 3) := by decide +kernel
theorem dX11_lays_47 : decode cX11_lays 47 = .ok (.goto (-45), 3) := by decide +kernel
theorem dX11_lays_50 : decode cX11_lays 50 = .ok (.return_, 1) := by decide +kernel
theorem dX11_isSame_0 : decode cX11_isSame 0 = .ok (.aload_n 0, 1) := by decide +kernel
theorem dX11_isSame_1 : decode cX11_isSame 1 = .ok (.getfield 29, 3) := by decide +kernel
theorem dX11_isSame_4 : decode cX11_isSame 4 = .ok (.iload_n 1, 1) := by decide +kernel
theorem dX11_isSame_5 : decode cX11_isSame 5 = .ok (.iaload, 1) := by decide +kernel
theorem dX11_isSame_6 : decode cX11_isSame 6 = .ok (.aload_n 0, 1) := by decide +kernel
theorem dX11_isSame_7 : decode cX11_isSame 7 = .ok (.getfield 29, 3) := by decide +kernel
theorem dX11_isSame_10 : decode cX11_isSame 10 = .ok (.iload_n 2, 1) := by decide +kernel
theorem dX11_isSame_11 : decode cX11_isSame 11 = .ok (.iaload, 1) := by decide +kernel
theorem dX11_isSame_12 : decode cX11_isSame 12 = .ok (.if_icmp .ne 7, 3) := by decide +kernel
theorem dX11_isSame_15 : decode cX11_isSame 15 = .ok (.iconst 1, 1) := by decide +kernel
theorem dX11_isSame_16 : decode cX11_isSame 16 = .ok (.goto 4, 3) := by decide +kernel
theorem dX11_isSame_19 : decode cX11_isSame 19 = .ok (.iconst 0, 1) := by decide +kernel
theorem dX11_isSame_20 : decode cX11_isSame 20 = .ok (.istore_n 3, 1) := by decide +kernel
theorem dX11_isSame_21 : decode cX11_isSame 21 = .ok (.iconst 0, 1) := by decide +kernel
theorem dX11_isSame_22 : decode cX11_isSame 22 = .ok (.istore 4, 2) := by decide +kernel
theorem dX11_isSame_24 : decode cX11_isSame 24 = .ok (.iload 4, 2) := by decide +kernel
theorem dX11_isSame_26 : decode cX11_isSame 26 = .ok (.aload_n 0, 1) := by decide +kernel
theorem dX11_isSame_27 : decode cX11_isSame 27 = .ok (.getfield 29, 3) := by decide +kernel
theorem dX11_isSame_30 : decode cX11_isSame 30 = .ok (.iload_n 1, 1) := by decide +kernel
theorem dX11_isSame_31 : decode cX11_isSame 31 = .ok (.iaload, 1) := by decide +kernel
theorem dX11_isSame_32 : decode cX11_isSame 32 = .ok (.if_icmp .ge 46, 3) := by decide +kernel
theorem dX11_isSame_35 : decode cX11_isSame 35 = .ok (.iload_n 3, 1) := by decide +kernel
theorem dX11_isSame_36 : decode cX11_isSame 36 = .ok (.ifCond .eq 42, 3) := by decide +kernel
theorem dX11_isSame_39 : decode cX11_isSame 39 = .ok (.aload_n 0, 1) := by decide +kernel
theorem dX11_isSame_40 : decode cX11_isSame 40 = .ok (.getfield 32, 3) := by decide +kernel
theorem dX11_isSame_43 : decode cX11_isSame 43 = .ok (.bipush 10, 2) := by decide +kernel
theorem dX11_isSame_45 : decode cX11_isSame 45 = .ok (.iload_n 1, 1) := by decide +kernel
theorem dX11_isSame_46 : decode cX11_isSame 46 = .ok (.imul, 1) := by decide +kernel
theorem dX11_isSame_47 : decode cX11_isSame 47 = .ok (.iload 4, 2) := by decide +kernel
theorem dX11_isSame_49 : decode cX11_isSame 49 = .ok (.iadd, 1) := by decide +kernel
theorem dX11_isSame_50 : decode cX11_isSame 50 = .ok (.iaload, 1) := by decide +kernel
theorem dX11_isSame_51 : decode cX11_isSame 51 = .ok (.aload_n 0, 1) := by decide +kernel
theorem dX11_isSame_52 : decode cX11_isSame 52 = .ok (.getfield 32, 3) := by decide +kernel
theorem dX11_isSame_55 : decode cX11_isSame 55 = .ok (.bipush 10, 2) := by decide +kernel
theorem dX11_isSame_57 : decode cX11_isSame 57 = .ok (.iload_n 2, 1) := by decide +kernel
theorem dX11_isSame_58 : decode cX11_isSame 58 = .ok (.imul, 1) := by decide +kernel
theorem dX11_isSame_59 : decode cX11_isSame 59 = .ok (.iload 4, 2) := by decide +kernel
theorem dX11_isSame_61 : decode cX11_isSame 61 = .ok (.iadd, 1) := by decide +kernel
theorem dX11_isSame_62 : decode cX11_isSame 62 = .ok (.iaload, 1) := by decide +kernel
theorem dX11_isSame_63 : decode cX11_isSame 63 = .ok (.if_icmp .ne 7, 3) := by decide +kernel
theorem dX11_isSame_66 : decode cX11_isSame 66 = .ok (.iconst 1, 1) := by decide +kernel
theorem dX11_isSame_67 : decode cX11_isSame 67 = .ok (.goto 4, 3) := by decide +kernel
theorem dX11_isSame_70 : decode cX11_isSame 70 = .ok (.iconst 0, 1) := by decide +kernel
theorem dX11_isSame_71 : decode cX11_isSame 71 = .ok (.istore_n 3, 1) := by decide +kernel
theorem dX11_isSame_72 : decode cX11_isSame 72 = .ok (.iinc 4 1, 3) := by decide +kernel
theorem dX11_isSame_75 : decode cX11_isSame 75 = .ok (.goto (-51), 3) := by decide +kernel
theorem dX11_isSame_78 : decode cX11_isSame 78 = .ok (.iload_n 3, 1) := by decide +kernel
theorem dX11_isSame_79 : decode cX11_isSame 79 = .ok (.ireturn, 1) := by decide +kernel
theorem dX11_same_0 : decode cX11_same 0 = .ok (.iconst 0, 1) := by decide +kernel
theorem dX11_same_1 : decode cX11_same 1 = .ok (.istore_n 2, 1) := by decide +kernel
theorem dX11_same_2 : decode cX11_same 2 = .ok (.iconst 0, 1) := by decide +kernel
theorem dX11_same_3 : decode cX11_same 3 = .ok (.istore_n 3, 1) := by decide +kernel
theorem dX11_same_4 : decode cX11_same 4 = .ok (.iload_n 3, 1) := by decide +kernel
theorem dX11_same_5 : decode cX11_same 5 = .ok (.aload_n 0, 1) := by decide +kernel
theorem dX11_same_6 : decode cX11_same 6 = .ok (.getfield 7, 3) := by decide +kernel
theorem dX11_same_9 : decode cX11_same 9 = .ok (.iconst 0, 1) := by decide +kernel
theorem dX11_same_10 : decode cX11_same 10 = .ok (.iaload, 1) := by decide +kernel
theorem dX11_same_11 : decode cX11_same 11 = .ok (.if_icmp .ge 28, 3) := by decide +kernel
theorem dX11_same_14 : decode cX11_same 14 = .ok (.iload_n 2, 1) := by decide +kernel
theorem dX11_same_15 : decode cX11_same 15 = .ok (.aload_n 0, 1) := by decide +kernel
theorem dX11_same_16 : decode cX11_same 16 = .ok (.iload_n 1, 1) := by decide +kernel
theorem dX11_same_17 : decode cX11_same 17 = .ok (.iload_n 3, 1) := by decide +kernel
theorem dX11_same_18 : decode cX11_same 18 = .ok (.invokevirtual 86, 3) := by decide +kernel
theorem dX11_same_21 : decode cX11_same 21 = .ok (.ifCond .eq 9, 3) := by decide +kernel
theorem dX11_same_24 : decode cX11_same 24 = .ok (.iconst 1, 1) := by decide +kernel
theorem dX11_same_25 : decode cX11_same 25 = .ok (.iload_n 3, 1) := by decide +kernel
theorem dX11_same_26 : decode cX11_same 26 = .ok (.ishl, 1) := by decide +kernel
theorem dX11_same_27 : decode cX11_same 27 = .ok (.goto 4, 3) := by decide +kernel
theorem dX11_same_30 : decode cX11_same 30 = .ok (.iconst 0, 1) := by decide +kernel
theorem dX11_same_31 : decode cX11_same 31 = .ok (.ior, 1) := by decide +kernel
theorem dX11_same_32 : decode cX11_same 32 = .ok (.istore_n 2, 1) := by decide +kernel
theorem dX11_same_33 : decode cX11_same 33 = .ok (.iinc 3 1, 3) := by decide +kernel
theorem dX11_same_36 : decode cX11_same 36 = .ok (.goto (-32), 3) := by decide +kernel
theorem dX11_same_39 : decode cX11_same 39 = .ok (.iload_n 2, 1) := by decide +kernel
theorem dX11_same_40 : decode cX11_same 40 = .ok (.ireturn, 1) := by decide +kernel
theorem dX11_coats_0 : decode cX11_coats 0 = .ok (.aload_n 0, 1) := by decide +kernel
theorem dX11_coats_1 : decode cX11_coats 1 = .ok (.invokevirtual 90, 3) := by decide +kernel
theorem dX11_coats_4 : decode cX11_coats 4 = .ok (.iconst 0, 1) := by decide +kernel
theorem dX11_coats_5 : decode cX11_coats 5 = .ok (.istore_n 1, 1) := by decide +kernel
theorem dX11_coats_6 : decode cX11_coats 6 = .ok (.iconst 0, 1) := by decide +kernel
theorem dX11_coats_7 : decode cX11_coats 7 = .ok (.istore_n 2, 1) := by decide +kernel
theorem dX11_coats_8 : decode cX11_coats 8 = .ok (.iload_n 2, 1) := by decide +kernel
theorem dX11_coats_9 : decode cX11_coats 9 = .ok (.aload_n 0, 1) := by decide +kernel
theorem dX11_coats_10 : decode cX11_coats 10 = .ok (.getfield 7, 3) := by decide +kernel
theorem dX11_coats_13 : decode cX11_coats 13 = .ok (.iconst 0, 1) := by decide +kernel
theorem dX11_coats_14 : decode cX11_coats 14 = .ok (.iaload, 1) := by decide +kernel
theorem dX11_coats_15 : decode cX11_coats 15 = .ok (.if_icmp .ge 31, 3) := by decide +kernel
theorem dX11_coats_18 : decode cX11_coats 18 = .ok (.iload_n 1, 1) := by decide +kernel
theorem dX11_coats_19 : decode cX11_coats 19 = .ok (.aload_n 0, 1) := by decide +kernel
theorem dX11_coats_20 : decode cX11_coats 20 = .ok (.iload_n 2, 1) := by decide +kernel
theorem dX11_coats_21 : decode cX11_coats 21 = .ok (.invokevirtual 93, 3) := by decide +kernel
theorem dX11_coats_24 : decode cX11_coats 24 = .ok (.iconst 1, 1) := by decide +kernel
theorem dX11_coats_25 : decode cX11_coats 25 = .ok (.iload_n 2, 1) := by decide +kernel
theorem dX11_coats_26 : decode cX11_coats 26 = .ok (.ishl, 1) := by decide +kernel
theorem dX11_coats_27 : decode cX11_coats 27 = .ok (.iconst 1, 1) := by decide +kernel
theorem dX11_coats_28 : decode cX11_coats 28 = .ok (.isub, 1) := by decide +kernel
theorem dX11_coats_29 : decode cX11_coats 29 = .ok (.iand, 1) := by decide +kernel
theorem dX11_coats_30 : decode cX11_coats 30 = .ok (.ifCond .ne 7, 3) := by decide +kernel
theorem dX11_coats_33 : decode cX11_coats 33 = .ok (.iconst 1, 1) := by decide +kernel
theorem dX11_coats_34 : decode cX11_coats 34 = .ok (.goto 4, 3) := by decide +kernel
theorem dX11_coats_37 : decode cX11_coats 37 = .ok (.iconst 0, 1) := by decide +kernel
theorem dX11_coats_38 : decode cX11_coats 38 = .ok (.iadd, 1) := by decide +kernel
theorem dX11_coats_39 : decode cX11_coats 39 = .ok (.istore_n 1, 1) := by decide +kernel
theorem dX11_coats_40 : decode cX11_coats 40 = .ok (.iinc 2 1, 3) := by decide +kernel
theorem dX11_coats_43 : decode cX11_coats 43 = .ok (.goto (-35), 3) := by decide +kernel
theorem dX11_coats_46 : decode cX11_coats 46 = .ok (.iload_n 1, 1) := by decide +kernel
theorem dX11_coats_47 : decode cX11_coats 47 = .ok (.ireturn, 1) := by decide +kernel
theorem dX11_atLeast_0 : decode cX11_atLeast 0 = .ok (.aload_n 0, 1) := by decide +kernel
theorem dX11_atLeast_1 : decode cX11_atLeast 1 = .ok (.getfield 38, 3) := by decide +kernel
theorem dX11_atLeast_4 : decode cX11_atLeast 4 = .ok (.iload_n 1, 1) := by decide +kernel
theorem dX11_atLeast_5 : decode cX11_atLeast 5 = .ok (.iaload, 1) := by decide +kernel
theorem dX11_atLeast_6 : decode cX11_atLeast 6 = .ok (.iload_n 3, 1) := by decide +kernel
theorem dX11_atLeast_7 : decode cX11_atLeast 7 = .ok (.iadd, 1) := by decide +kernel
theorem dX11_atLeast_8 : decode cX11_atLeast 8 = .ok (.aload_n 0, 1) := by decide +kernel
theorem dX11_atLeast_9 : decode cX11_atLeast 9 = .ok (.getfield 38, 3) := by decide +kernel
theorem dX11_atLeast_12 : decode cX11_atLeast 12 = .ok (.iload_n 2, 1) := by decide +kernel
theorem dX11_atLeast_13 : decode cX11_atLeast 13 = .ok (.iaload, 1) := by decide +kernel
theorem dX11_atLeast_14 : decode cX11_atLeast 14 = .ok (.if_icmp .le 22, 3) := by decide +kernel
theorem dX11_atLeast_17 : decode cX11_atLeast 17 = .ok (.aload_n 0, 1) := by decide +kernel
theorem dX11_atLeast_18 : decode cX11_atLeast 18 = .ok (.getfield 38, 3) := by decide +kernel
theorem dX11_atLeast_21 : decode cX11_atLeast 21 = .ok (.iload_n 2, 1) := by decide +kernel
theorem dX11_atLeast_22 : decode cX11_atLeast 22 = .ok (.aload_n 0, 1) := by decide +kernel
theorem dX11_atLeast_23 : decode cX11_atLeast 23 = .ok (.getfield 38, 3) := by decide +kernel
theorem dX11_atLeast_26 : decode cX11_atLeast 26 = .ok (.iload_n 1, 1) := by decide +kernel
theorem dX11_atLeast_27 : decode cX11_atLeast 27 = .ok (.iaload, 1) := by decide +kernel
theorem dX11_atLeast_28 : decode cX11_atLeast 28 = .ok (.iload_n 3, 1) := by decide +kernel
theorem dX11_atLeast_29 : decode cX11_atLeast 29 = .ok (.iadd, 1) := by decide +kernel
theorem dX11_atLeast_30 : decode cX11_atLeast 30 = .ok (.iastore, 1) := by decide +kernel
theorem dX11_atLeast_31 : decode cX11_atLeast 31 = .ok (.aload_n 0, 1) := by decide +kernel
theorem dX11_atLeast_32 : decode cX11_atLeast 32 = .ok (.iconst 1, 1) := by decide +kernel
theorem dX11_atLeast_33 : decode cX11_atLeast 33 = .ok (.putfield 97, 3) := by decide +kernel
theorem dX11_atLeast_36 : decode cX11_atLeast 36 = .ok (.aload_n 0, 1) := by decide +kernel
theorem dX11_atLeast_37 : decode cX11_atLeast 37 = .ok (.getfield 41, 3) := by decide +kernel
theorem dX11_atLeast_40 : decode cX11_atLeast 40 = .ok (.iload_n 2, 1) := by decide +kernel
theorem dX11_atLeast_41 : decode cX11_atLeast 41 = .ok (.iaload, 1) := by decide +kernel
theorem dX11_atLeast_42 : decode cX11_atLeast 42 = .ok (.iload_n 3, 1) := by decide +kernel
theorem dX11_atLeast_43 : decode cX11_atLeast 43 = .ok (.isub, 1) := by decide +kernel
theorem dX11_atLeast_44 : decode cX11_atLeast 44 = .ok (.aload_n 0, 1) := by decide +kernel
theorem dX11_atLeast_45 : decode cX11_atLeast 45 = .ok (.getfield 41, 3) := by decide +kernel
theorem dX11_atLeast_48 : decode cX11_atLeast 48 = .ok (.iload_n 1, 1) := by decide +kernel
theorem dX11_atLeast_49 : decode cX11_atLeast 49 = .ok (.iaload, 1) := by decide +kernel
theorem dX11_atLeast_50 : decode cX11_atLeast 50 = .ok (.if_icmp .ge 22, 3) := by decide +kernel
theorem dX11_atLeast_53 : decode cX11_atLeast 53 = .ok (.aload_n 0, 1) := by decide +kernel
theorem dX11_atLeast_54 : decode cX11_atLeast 54 = .ok (.getfield 41, 3) := by decide +kernel
theorem dX11_atLeast_57 : decode cX11_atLeast 57 = .ok (.iload_n 1, 1) := by decide +kernel
theorem dX11_atLeast_58 : decode cX11_atLeast 58 = .ok (.aload_n 0, 1) := by decide +kernel
theorem dX11_atLeast_59 : decode cX11_atLeast 59 = .ok (.getfield 41, 3) := by decide +kernel
theorem dX11_atLeast_62 : decode cX11_atLeast 62 = .ok (.iload_n 2, 1) := by decide +kernel
theorem dX11_atLeast_63 : decode cX11_atLeast 63 = .ok (.iaload, 1) := by decide +kernel
theorem dX11_atLeast_64 : decode cX11_atLeast 64 = .ok (.iload_n 3, 1) := by decide +kernel
theorem dX11_atLeast_65 : decode cX11_atLeast 65 = .ok (.isub, 1) := by decide +kernel
theorem dX11_atLeast_66 : decode cX11_atLeast 66 = .ok (.iastore, 1) := by decide +kernel
theorem dX11_atLeast_67 : decode cX11_atLeast 67 = .ok (.aload_n 0, 1) := by decide +kernel
theorem dX11_atLeast_68 : decode cX11_atLeast 68 = .ok (.iconst 1, 1) := by decide +kernel
theorem dX11_atLeast_69 : decode cX11_atLeast 69 = .ok (.putfield 97, 3) := by decide +kernel
theorem dX11_atLeast_72 : decode cX11_atLeast 72 = .ok (.return_, 1) := by decide +kernel
theorem dX11_isSpoiled_0 : decode cX11_isSpoiled 0 = .ok (.iconst 0, 1) := by decide +kernel
theorem dX11_isSpoiled_1 : decode cX11_isSpoiled 1 = .ok (.istore_n 1, 1) := by decide +kernel
theorem dX11_isSpoiled_2 : decode cX11_isSpoiled 2 = .ok (.iconst 0, 1) := by decide +kernel
theorem dX11_isSpoiled_3 : decode cX11_isSpoiled 3 = .ok (.istore_n 2, 1) := by decide +kernel
theorem dX11_isSpoiled_4 : decode cX11_isSpoiled 4 = .ok (.iload_n 2, 1) := by decide +kernel
theorem dX11_isSpoiled_5 : decode cX11_isSpoiled 5 = .ok (.aload_n 0, 1) := by decide +kernel
theorem dX11_isSpoiled_6 : decode cX11_isSpoiled 6 = .ok (.getfield 7, 3) := by decide +kernel
theorem dX11_isSpoiled_9 : decode cX11_isSpoiled 9 = .ok (.iconst 0, 1) := by decide +kernel
theorem dX11_isSpoiled_10 : decode cX11_isSpoiled 10 = .ok (.iaload, 1) := by decide +kernel
theorem dX11_isSpoiled_11 : decode cX11_isSpoiled 11 = .ok (.if_icmp .ge 55, 3) := by decide +kernel
theorem dX11_isSpoiled_14 : decode cX11_isSpoiled 14 = .ok (.iload_n 1, 1) := by decide +kernel
theorem dX11_isSpoiled_15 : decode cX11_isSpoiled 15 = .ok (.ifCond .ne 39, 3) := by decide +kernel
theorem dX11_isSpoiled_18 : decode cX11_isSpoiled 18 = .ok (.aload_n 0, 1) := by decide +kernel
theorem dX11_isSpoiled_19 : decode cX11_isSpoiled 19 = .ok (.getfield 38, 3) := by decide +kernel
theorem dX11_isSpoiled_22 : decode cX11_isSpoiled 22 = .ok (.iload_n 2, 1) := by decide +kernel
theorem dX11_isSpoiled_23 : decode cX11_isSpoiled 23 = .ok (.iaload, 1) := by decide +kernel
theorem dX11_isSpoiled_24 : decode cX11_isSpoiled 24 = .ok (.aload_n 0, 1) := by decide +kernel
theorem dX11_isSpoiled_25 : decode cX11_isSpoiled 25 = .ok (.getfield 41, 3) := by decide +kernel
theorem dX11_isSpoiled_28 : decode cX11_isSpoiled 28 = .ok (.iload_n 2, 1) := by decide +kernel
theorem dX11_isSpoiled_29 : decode cX11_isSpoiled 29 = .ok (.iaload, 1) := by decide +kernel
theorem dX11_isSpoiled_30 : decode cX11_isSpoiled 30 = .ok (.if_icmp .gt 24, 3) := by decide +kernel
theorem dX11_isSpoiled_33 : decode cX11_isSpoiled 33 = .ok (.aload_n 0, 1) := by decide +kernel
theorem dX11_isSpoiled_34 : decode cX11_isSpoiled 34 = .ok (.getfield 38, 3) := by decide +kernel
theorem dX11_isSpoiled_37 : decode cX11_isSpoiled 37 = .ok (.bipush 16, 2) := by decide +kernel
theorem dX11_isSpoiled_39 : decode cX11_isSpoiled 39 = .ok (.iload_n 2, 1) := by decide +kernel
theorem dX11_isSpoiled_40 : decode cX11_isSpoiled 40 = .ok (.iadd, 1) := by decide +kernel
theorem dX11_isSpoiled_41 : decode cX11_isSpoiled 41 = .ok (.iaload, 1) := by decide +kernel
theorem dX11_isSpoiled_42 : decode cX11_isSpoiled 42 = .ok (.aload_n 0, 1) := by decide +kernel
theorem dX11_isSpoiled_43 : decode cX11_isSpoiled 43 = .ok (.getfield 41, 3) := by decide +kernel
theorem dX11_isSpoiled_46 : decode cX11_isSpoiled 46 = .ok (.bipush 16, 2) := by decide +kernel
theorem dX11_isSpoiled_48 : decode cX11_isSpoiled 48 = .ok (.iload_n 2, 1) := by decide +kernel
theorem dX11_isSpoiled_49 : decode cX11_isSpoiled 49 = .ok (.iadd, 1) := by decide +kernel
theorem dX11_isSpoiled_50 : decode cX11_isSpoiled 50 = .ok (.iaload, 1) := by decide +kernel
theorem dX11_isSpoiled_51 : decode cX11_isSpoiled 51 = .ok (.if_icmp .le 7, 3) := by decide +kernel
theorem dX11_isSpoiled_54 : decode cX11_isSpoiled 54 = .ok (.iconst 1, 1) := by decide +kernel
theorem dX11_isSpoiled_55 : decode cX11_isSpoiled 55 = .ok (.goto 4, 3) := by decide +kernel
theorem dX11_isSpoiled_58 : decode cX11_isSpoiled 58 = .ok (.iconst 0, 1) := by decide +kernel
theorem dX11_isSpoiled_59 : decode cX11_isSpoiled 59 = .ok (.istore_n 1, 1) := by decide +kernel
theorem dX11_isSpoiled_60 : decode cX11_isSpoiled 60 = .ok (.iinc 2 1, 3) := by decide +kernel
theorem dX11_isSpoiled_63 : decode cX11_isSpoiled 63 = .ok (.goto (-59), 3) := by decide +kernel
theorem dX11_isSpoiled_66 : decode cX11_isSpoiled 66 = .ok (.iload_n 1, 1) := by decide +kernel
theorem dX11_isSpoiled_67 : decode cX11_isSpoiled 67 = .ok (.ireturn, 1) := by decide +kernel
theorem dX11_narrowsOne_0 : decode cX11_narrowsOne 0 = .ok (.bipush 16, 2) := by decide +kernel
theorem dX11_narrowsOne_2 : decode cX11_narrowsOne 2 = .ok (.iload_n 1, 1) := by decide +kernel
theorem dX11_narrowsOne_3 : decode cX11_narrowsOne 3 = .ok (.iadd, 1) := by decide +kernel
theorem dX11_narrowsOne_4 : decode cX11_narrowsOne 4 = .ok (.istore_n 2, 1) := by decide +kernel
theorem dX11_narrowsOne_5 : decode cX11_narrowsOne 5 = .ok (.aload_n 0, 1) := by decide +kernel
theorem dX11_narrowsOne_6 : decode cX11_narrowsOne 6 = .ok (.getfield 7, 3) := by decide +kernel
theorem dX11_narrowsOne_9 : decode cX11_narrowsOne 9 = .ok (.bipush 45, 2) := by decide +kernel
theorem dX11_narrowsOne_11 : decode cX11_narrowsOne 11 = .ok (.iload_n 1, 1) := by decide +kernel
theorem dX11_narrowsOne_12 : decode cX11_narrowsOne 12 = .ok (.iadd, 1) := by decide +kernel
theorem dX11_narrowsOne_13 : decode cX11_narrowsOne 13 = .ok (.iaload, 1) := by decide +kernel
theorem dX11_narrowsOne_14 : decode cX11_narrowsOne 14 = .ok (.istore_n 3, 1) := by decide +kernel
theorem dX11_narrowsOne_15 : decode cX11_narrowsOne 15 = .ok (.aload_n 0, 1) := by decide +kernel
theorem dX11_narrowsOne_16 : decode cX11_narrowsOne 16 = .ok (.getfield 7, 3) := by decide +kernel
theorem dX11_narrowsOne_19 : decode cX11_narrowsOne 19 = .ok (.bipush 61, 2) := by decide +kernel
theorem dX11_narrowsOne_21 : decode cX11_narrowsOne 21 = .ok (.iload_n 1, 1) := by decide +kernel
theorem dX11_narrowsOne_22 : decode cX11_narrowsOne 22 = .ok (.iadd, 1) := by decide +kernel
theorem dX11_narrowsOne_23 : decode cX11_narrowsOne 23 = .ok (.iaload, 1) := by decide +kernel
theorem dX11_narrowsOne_24 : decode cX11_narrowsOne 24 = .ok (.istore 4, 2) := by decide +kernel
theorem dX11_narrowsOne_26 : decode cX11_narrowsOne 26 = .ok (.aload_n 0, 1) := by decide +kernel
theorem dX11_narrowsOne_27 : decode cX11_narrowsOne 27 = .ok (.iload_n 1, 1) := by decide +kernel
theorem dX11_narrowsOne_28 : decode cX11_narrowsOne 28 = .ok (.iload_n 2, 1) := by decide +kernel
theorem dX11_narrowsOne_29 : decode cX11_narrowsOne 29 = .ok (.iconst 0, 1) := by decide +kernel
theorem dX11_narrowsOne_30 : decode cX11_narrowsOne 30 = .ok (.invokevirtual 101, 3) := by decide +kernel
theorem dX11_narrowsOne_33 : decode cX11_narrowsOne 33 = .ok (.aload_n 0, 1) := by decide +kernel
theorem dX11_narrowsOne_34 : decode cX11_narrowsOne 34 = .ok (.iload_n 2, 1) := by decide +kernel
theorem dX11_narrowsOne_35 : decode cX11_narrowsOne 35 = .ok (.iload_n 1, 1) := by decide +kernel
theorem dX11_narrowsOne_36 : decode cX11_narrowsOne 36 = .ok (.bipush (-100), 2) := by decide +kernel
theorem dX11_narrowsOne_38 : decode cX11_narrowsOne 38 = .ok (.invokevirtual 101, 3) := by decide +kernel
theorem dX11_narrowsOne_41 : decode cX11_narrowsOne 41 = .ok (.iload_n 3, 1) := by decide +kernel
theorem dX11_narrowsOne_42 : decode cX11_narrowsOne 42 = .ok (.iconst (-1), 1) := by decide +kernel
theorem dX11_narrowsOne_43 : decode cX11_narrowsOne 43 = .ok (.if_icmp .eq 21, 3) := by decide +kernel
theorem dX11_narrowsOne_46 : decode cX11_narrowsOne 46 = .ok (.aload_n 0, 1) := by decide +kernel
theorem dX11_narrowsOne_47 : decode cX11_narrowsOne 47 = .ok (.iload_n 3, 1) := by decide +kernel
theorem dX11_narrowsOne_48 : decode cX11_narrowsOne 48 = .ok (.iload_n 1, 1) := by decide +kernel
theorem dX11_narrowsOne_49 : decode cX11_narrowsOne 49 = .ok (.bipush 15, 2) := by decide +kernel
theorem dX11_narrowsOne_51 : decode cX11_narrowsOne 51 = .ok (.invokevirtual 101, 3) := by decide +kernel
theorem dX11_narrowsOne_54 : decode cX11_narrowsOne 54 = .ok (.aload_n 0, 1) := by decide +kernel
theorem dX11_narrowsOne_55 : decode cX11_narrowsOne 55 = .ok (.iload_n 1, 1) := by decide +kernel
theorem dX11_narrowsOne_56 : decode cX11_narrowsOne 56 = .ok (.bipush 16, 2) := by decide +kernel
theorem dX11_narrowsOne_58 : decode cX11_narrowsOne 58 = .ok (.iload_n 3, 1) := by decide +kernel
theorem dX11_narrowsOne_59 : decode cX11_narrowsOne 59 = .ok (.iadd, 1) := by decide +kernel
theorem dX11_narrowsOne_60 : decode cX11_narrowsOne 60 = .ok (.iconst (-1), 1) := by decide +kernel
theorem dX11_narrowsOne_61 : decode cX11_narrowsOne 61 = .ok (.invokevirtual 101, 3) := by decide +kernel
theorem dX11_narrowsOne_64 : decode cX11_narrowsOne 64 = .ok (.iload 4, 2) := by decide +kernel
theorem dX11_narrowsOne_66 : decode cX11_narrowsOne 66 = .ok (.iconst (-1), 1) := by decide +kernel
theorem dX11_narrowsOne_67 : decode cX11_narrowsOne 67 = .ok (.if_icmp .eq 32, 3) := by decide +kernel
theorem dX11_narrowsOne_70 : decode cX11_narrowsOne 70 = .ok (.aload_n 0, 1) := by decide +kernel
theorem dX11_narrowsOne_71 : decode cX11_narrowsOne 71 = .ok (.iload 4, 2) := by decide +kernel
theorem dX11_narrowsOne_73 : decode cX11_narrowsOne 73 = .ok (.iload_n 1, 1) := by decide +kernel
theorem dX11_narrowsOne_74 : decode cX11_narrowsOne 74 = .ok (.bipush 15, 2) := by decide +kernel
theorem dX11_narrowsOne_76 : decode cX11_narrowsOne 76 = .ok (.invokevirtual 101, 3) := by decide +kernel
theorem dX11_narrowsOne_79 : decode cX11_narrowsOne 79 = .ok (.aload_n 0, 1) := by decide +kernel
theorem dX11_narrowsOne_80 : decode cX11_narrowsOne 80 = .ok (.iload_n 1, 1) := by decide +kernel
theorem dX11_narrowsOne_81 : decode cX11_narrowsOne 81 = .ok (.iload 4, 2) := by decide +kernel
theorem dX11_narrowsOne_83 : decode cX11_narrowsOne 83 = .ok (.bipush (-50), 2) := by decide +kernel
theorem dX11_narrowsOne_85 : decode cX11_narrowsOne 85 = .ok (.invokevirtual 101, 3) := by decide +kernel
theorem dX11_narrowsOne_88 : decode cX11_narrowsOne 88 = .ok (.aload_n 0, 1) := by decide +kernel
theorem dX11_narrowsOne_89 : decode cX11_narrowsOne 89 = .ok (.iload_n 1, 1) := by decide +kernel
theorem dX11_narrowsOne_90 : decode cX11_narrowsOne 90 = .ok (.bipush 16, 2) := by decide +kernel
theorem dX11_narrowsOne_92 : decode cX11_narrowsOne 92 = .ok (.iload 4, 2) := by decide +kernel
theorem dX11_narrowsOne_94 : decode cX11_narrowsOne 94 = .ok (.iadd, 1) := by decide +kernel
theorem dX11_narrowsOne_95 : decode cX11_narrowsOne 95 = .ok (.iconst 0, 1) := by decide +kernel
theorem dX11_narrowsOne_96 : decode cX11_narrowsOne 96 = .ok (.invokevirtual 101, 3) := by decide +kernel
theorem dX11_narrowsOne_99 : decode cX11_narrowsOne 99 = .ok (.return_, 1) := by decide +kernel
theorem dX11_narrows_0 : decode cX11_narrows 0 = .ok (.iconst 0, 1) := by decide +kernel
theorem dX11_narrows_1 : decode cX11_narrows 1 = .ok (.istore_n 1, 1) := by decide +kernel
theorem dX11_narrows_2 : decode cX11_narrows 2 = .ok (.iload_n 1, 1) := by decide +kernel
theorem dX11_narrows_3 : decode cX11_narrows 3 = .ok (.aload_n 0, 1) := by decide +kernel
theorem dX11_narrows_4 : decode cX11_narrows 4 = .ok (.getfield 7, 3) := by decide +kernel
theorem dX11_narrows_7 : decode cX11_narrows 7 = .ok (.iconst 0, 1) := by decide +kernel
theorem dX11_narrows_8 : decode cX11_narrows 8 = .ok (.iaload, 1) := by decide +kernel
theorem dX11_narrows_9 : decode cX11_narrows 9 = .ok (.if_icmp .ge 87, 3) := by decide +kernel
theorem dX11_narrows_12 : decode cX11_narrows 12 = .ok (.aload_n 0, 1) := by decide +kernel
theorem dX11_narrows_13 : decode cX11_narrows 13 = .ok (.getfield 38, 3) := by decide +kernel
theorem dX11_narrows_16 : decode cX11_narrows 16 = .ok (.iload_n 1, 1) := by decide +kernel
theorem dX11_narrows_17 : decode cX11_narrows 17 = .ok (.aload_n 0, 1) := by decide +kernel
theorem dX11_narrows_18 : decode cX11_narrows 18 = .ok (.getfield 7, 3) := by decide +kernel
theorem dX11_narrows_21 : decode cX11_narrows 21 = .ok (.bipush 77, 2) := by decide +kernel
theorem dX11_narrows_23 : decode cX11_narrows 23 = .ok (.iconst 2, 1) := by decide +kernel
theorem dX11_narrows_24 : decode cX11_narrows 24 = .ok (.iload_n 1, 1) := by decide +kernel
theorem dX11_narrows_25 : decode cX11_narrows 25 = .ok (.imul, 1) := by decide +kernel
theorem dX11_narrows_26 : decode cX11_narrows 26 = .ok (.iadd, 1) := by decide +kernel
theorem dX11_narrows_27 : decode cX11_narrows 27 = .ok (.iaload, 1) := by decide +kernel
theorem dX11_narrows_28 : decode cX11_narrows 28 = .ok (.iastore, 1) := by decide +kernel
theorem dX11_narrows_29 : decode cX11_narrows 29 = .ok (.aload_n 0, 1) := by decide +kernel
theorem dX11_narrows_30 : decode cX11_narrows 30 = .ok (.getfield 41, 3) := by decide +kernel
theorem dX11_narrows_33 : decode cX11_narrows 33 = .ok (.iload_n 1, 1) := by decide +kernel
theorem dX11_narrows_34 : decode cX11_narrows 34 = .ok (.aload_n 0, 1) := by decide +kernel
theorem dX11_narrows_35 : decode cX11_narrows 35 = .ok (.getfield 7, 3) := by decide +kernel
theorem dX11_narrows_38 : decode cX11_narrows 38 = .ok (.bipush 77, 2) := by decide +kernel
theorem dX11_narrows_40 : decode cX11_narrows 40 = .ok (.iconst 2, 1) := by decide +kernel
theorem dX11_narrows_41 : decode cX11_narrows 41 = .ok (.iload_n 1, 1) := by decide +kernel
theorem dX11_narrows_42 : decode cX11_narrows 42 = .ok (.imul, 1) := by decide +kernel
theorem dX11_narrows_43 : decode cX11_narrows 43 = .ok (.iadd, 1) := by decide +kernel
theorem dX11_narrows_44 : decode cX11_narrows 44 = .ok (.iconst 1, 1) := by decide +kernel
theorem dX11_narrows_45 : decode cX11_narrows 45 = .ok (.iadd, 1) := by decide +kernel
theorem dX11_narrows_46 : decode cX11_narrows 46 = .ok (.iaload, 1) := by decide +kernel
theorem dX11_narrows_47 : decode cX11_narrows 47 = .ok (.iastore, 1) := by decide +kernel
theorem dX11_narrows_48 : decode cX11_narrows 48 = .ok (.aload_n 0, 1) := by decide +kernel
theorem dX11_narrows_49 : decode cX11_narrows 49 = .ok (.getfield 38, 3) := by decide +kernel
theorem dX11_narrows_52 : decode cX11_narrows 52 = .ok (.bipush 16, 2) := by decide +kernel
theorem dX11_narrows_54 : decode cX11_narrows 54 = .ok (.iload_n 1, 1) := by decide +kernel
theorem dX11_narrows_55 : decode cX11_narrows 55 = .ok (.iadd, 1) := by decide +kernel
theorem dX11_narrows_56 : decode cX11_narrows 56 = .ok (.aload_n 0, 1) := by decide +kernel
theorem dX11_narrows_57 : decode cX11_narrows 57 = .ok (.getfield 7, 3) := by decide +kernel
theorem dX11_narrows_60 : decode cX11_narrows 60 = .ok (.bipush 109, 2) := by decide +kernel
theorem dX11_narrows_62 : decode cX11_narrows 62 = .ok (.iconst 2, 1) := by decide +kernel
theorem dX11_narrows_63 : decode cX11_narrows 63 = .ok (.iload_n 1, 1) := by decide +kernel
theorem dX11_narrows_64 : decode cX11_narrows 64 = .ok (.imul, 1) := by decide +kernel
theorem dX11_narrows_65 : decode cX11_narrows 65 = .ok (.iadd, 1) := by decide +kernel
theorem dX11_narrows_66 : decode cX11_narrows 66 = .ok (.iaload, 1) := by decide +kernel
theorem dX11_narrows_67 : decode cX11_narrows 67 = .ok (.iastore, 1) := by decide +kernel
theorem dX11_narrows_68 : decode cX11_narrows 68 = .ok (.aload_n 0, 1) := by decide +kernel
theorem dX11_narrows_69 : decode cX11_narrows 69 = .ok (.getfield 41, 3) := by decide +kernel
theorem dX11_narrows_72 : decode cX11_narrows 72 = .ok (.bipush 16, 2) := by decide +kernel
theorem dX11_narrows_74 : decode cX11_narrows 74 = .ok (.iload_n 1, 1) := by decide +kernel
theorem dX11_narrows_75 : decode cX11_narrows 75 = .ok (.iadd, 1) := by decide +kernel
theorem dX11_narrows_76 : decode cX11_narrows 76 = .ok (.aload_n 0, 1) := by decide +kernel
theorem dX11_narrows_77 : decode cX11_narrows 77 = .ok (.getfield 7, 3) := by decide +kernel
theorem dX11_narrows_80 : decode cX11_narrows 80 = .ok (.bipush 109, 2) := by decide +kernel
theorem dX11_narrows_82 : decode cX11_narrows 82 = .ok (.iconst 2, 1) := by decide +kernel
theorem dX11_narrows_83 : decode cX11_narrows 83 = .ok (.iload_n 1, 1) := by decide +kernel
theorem dX11_narrows_84 : decode cX11_narrows 84 = .ok (.imul, 1) := by decide +kernel
theorem dX11_narrows_85 : decode cX11_narrows 85 = .ok (.iadd, 1) := by decide +kernel
theorem dX11_narrows_86 : decode cX11_narrows 86 = .ok (.iconst 1, 1) := by decide +kernel
theorem dX11_narrows_87 : decode cX11_narrows 87 = .ok (.iadd, 1) := by decide +kernel
theorem dX11_narrows_88 : decode cX11_narrows 88 = .ok (.iaload, 1) := by decide +kernel
theorem dX11_narrows_89 : decode cX11_narrows 89 = .ok (.iastore, 1) := by decide +kernel
theorem dX11_narrows_90 : decode cX11_narrows 90 = .ok (.iinc 1 1, 3) := by decide +kernel
theorem dX11_narrows_93 : decode cX11_narrows 93 = .ok (.goto (-91), 3) := by decide +kernel
theorem dX11_narrows_96 : decode cX11_narrows 96 = .ok (.aload_n 0, 1) := by decide +kernel
theorem dX11_narrows_97 : decode cX11_narrows 97 = .ok (.iconst 1, 1) := by decide +kernel
theorem dX11_narrows_98 : decode cX11_narrows 98 = .ok (.putfield 97, 3) := by decide +kernel
theorem dX11_narrows_101 : decode cX11_narrows 101 = .ok (.aload_n 0, 1) := by decide +kernel
theorem dX11_narrows_102 : decode cX11_narrows 102 = .ok (.getfield 97, 3) := by decide +kernel
theorem dX11_narrows_105 : decode cX11_narrows 105 = .ok (.ifCond .eq 41, 3) := by decide +kernel
theorem dX11_narrows_108 : decode cX11_narrows 108 = .ok (.aload_n 0, 1) := by decide +kernel
theorem dX11_narrows_109 : decode cX11_narrows 109 = .ok (.invokevirtual 104, 3) := by decide +kernel
theorem dX11_narrows_112 : decode cX11_narrows 112 = .ok (.ifCond .ne 34, 3) := by decide +kernel
theorem dX11_narrows_115 : decode cX11_narrows 115 = .ok (.aload_n 0, 1) := by decide +kernel
theorem dX11_narrows_116 : decode cX11_narrows 116 = .ok (.iconst 0, 1) := by decide +kernel
theorem dX11_narrows_117 : decode cX11_narrows 117 = .ok (.putfield 97, 3) := by decide +kernel
theorem dX11_narrows_120 : decode cX11_narrows 120 = .ok (.iconst 0, 1) := by decide +kernel
theorem dX11_narrows_121 : decode cX11_narrows 121 = .ok (.istore_n 1, 1) := by decide +kernel
theorem dX11_narrows_122 : decode cX11_narrows 122 = .ok (.iload_n 1, 1) := by decide +kernel
theorem dX11_narrows_123 : decode cX11_narrows 123 = .ok (.aload_n 0, 1) := by decide +kernel
theorem dX11_narrows_124 : decode cX11_narrows 124 = .ok (.getfield 7, 3) := by decide +kernel
theorem dX11_narrows_127 : decode cX11_narrows 127 = .ok (.iconst 0, 1) := by decide +kernel
theorem dX11_narrows_128 : decode cX11_narrows 128 = .ok (.iaload, 1) := by decide +kernel
theorem dX11_narrows_129 : decode cX11_narrows 129 = .ok (.if_icmp .ge 14, 3) := by decide +kernel
theorem dX11_narrows_132 : decode cX11_narrows 132 = .ok (.aload_n 0, 1) := by decide +kernel
theorem dX11_narrows_133 : decode cX11_narrows 133 = .ok (.iload_n 1, 1) := by decide +kernel
theorem dX11_narrows_134 : decode cX11_narrows 134 = .ok (.invokevirtual 108, 3) := by decide +kernel
theorem dX11_narrows_137 : decode cX11_narrows 137 = .ok (.iinc 1 1, 3) := by decide +kernel
theorem dX11_narrows_140 : decode cX11_narrows 140 = .ok (.goto (-18), 3) := by decide +kernel
theorem dX11_narrows_143 : decode cX11_narrows 143 = .ok (.goto (-42), 3) := by decide +kernel
theorem dX11_narrows_146 : decode cX11_narrows 146 = .ok (.aload_n 0, 1) := by decide +kernel
theorem dX11_narrows_147 : decode cX11_narrows 147 = .ok (.invokevirtual 104, 3) := by decide +kernel
theorem dX11_narrows_150 : decode cX11_narrows 150 = .ok (.ifCond .ne 7, 3) := by decide +kernel
theorem dX11_narrows_153 : decode cX11_narrows 153 = .ok (.iconst 1, 1) := by decide +kernel
theorem dX11_narrows_154 : decode cX11_narrows 154 = .ok (.goto 4, 3) := by decide +kernel
theorem dX11_narrows_157 : decode cX11_narrows 157 = .ok (.iconst 0, 1) := by decide +kernel
theorem dX11_narrows_158 : decode cX11_narrows 158 = .ok (.ireturn, 1) := by decide +kernel
theorem dX11_isAs_0 : decode cX11_isAs 0 = .ok (.aload_n 0, 1) := by decide +kernel
theorem dX11_isAs_1 : decode cX11_isAs 1 = .ok (.getfield 7, 3) := by decide +kernel
theorem dX11_isAs_4 : decode cX11_isAs 4 = .ok (.iconst 3, 1) := by decide +kernel
theorem dX11_isAs_5 : decode cX11_isAs 5 = .ok (.iload_n 1, 1) := by decide +kernel
theorem dX11_isAs_6 : decode cX11_isAs 6 = .ok (.iadd, 1) := by decide +kernel
theorem dX11_isAs_7 : decode cX11_isAs 7 = .ok (.iaload, 1) := by decide +kernel
theorem dX11_isAs_8 : decode cX11_isAs 8 = .ok (.bipush 10, 2) := by decide +kernel
theorem dX11_isAs_10 : decode cX11_isAs 10 = .ok (.if_icmp .eq 15, 3) := by decide +kernel
theorem dX11_isAs_13 : decode cX11_isAs 13 = .ok (.aload_n 0, 1) := by decide +kernel
theorem dX11_isAs_14 : decode cX11_isAs 14 = .ok (.getfield 7, 3) := by decide +kernel
theorem dX11_isAs_17 : decode cX11_isAs 17 = .ok (.iconst 3, 1) := by decide +kernel
theorem dX11_isAs_18 : decode cX11_isAs 18 = .ok (.iload_n 1, 1) := by decide +kernel
theorem dX11_isAs_19 : decode cX11_isAs 19 = .ok (.iadd, 1) := by decide +kernel
theorem dX11_isAs_20 : decode cX11_isAs 20 = .ok (.iaload, 1) := by decide +kernel
theorem dX11_isAs_21 : decode cX11_isAs 21 = .ok (.iload_n 2, 1) := by decide +kernel
theorem dX11_isAs_22 : decode cX11_isAs 22 = .ok (.if_icmp .ne 7, 3) := by decide +kernel
theorem dX11_isAs_25 : decode cX11_isAs 25 = .ok (.iconst 1, 1) := by decide +kernel
theorem dX11_isAs_26 : decode cX11_isAs 26 = .ok (.goto 4, 3) := by decide +kernel
theorem dX11_isAs_29 : decode cX11_isAs 29 = .ok (.iconst 0, 1) := by decide +kernel
theorem dX11_isAs_30 : decode cX11_isAs 30 = .ok (.ireturn, 1) := by decide +kernel
theorem dX11_isAll_0 : decode cX11_isAll 0 = .ok (.aload_n 0, 1) := by decide +kernel
theorem dX11_isAll_1 : decode cX11_isAll 1 = .ok (.getfield 7, 3) := by decide +kernel
theorem dX11_isAll_4 : decode cX11_isAll 4 = .ok (.iconst 2, 1) := by decide +kernel
theorem dX11_isAll_5 : decode cX11_isAll 5 = .ok (.iaload, 1) := by decide +kernel
theorem dX11_isAll_6 : decode cX11_isAll 6 = .ok (.ifCond .le 22, 3) := by decide +kernel
theorem dX11_isAll_9 : decode cX11_isAll 9 = .ok (.aload_n 0, 1) := by decide +kernel
theorem dX11_isAll_10 : decode cX11_isAll 10 = .ok (.getfield 29, 3) := by decide +kernel
theorem dX11_isAll_13 : decode cX11_isAll 13 = .ok (.iload_n 1, 1) := by decide +kernel
theorem dX11_isAll_14 : decode cX11_isAll 14 = .ok (.iaload, 1) := by decide +kernel
theorem dX11_isAll_15 : decode cX11_isAll 15 = .ok (.aload_n 0, 1) := by decide +kernel
theorem dX11_isAll_16 : decode cX11_isAll 16 = .ok (.getfield 7, 3) := by decide +kernel
theorem dX11_isAll_19 : decode cX11_isAll 19 = .ok (.iconst 2, 1) := by decide +kernel
theorem dX11_isAll_20 : decode cX11_isAll 20 = .ok (.iaload, 1) := by decide +kernel
theorem dX11_isAll_21 : decode cX11_isAll 21 = .ok (.if_icmp .ne 7, 3) := by decide +kernel
theorem dX11_isAll_24 : decode cX11_isAll 24 = .ok (.iconst 1, 1) := by decide +kernel
theorem dX11_isAll_25 : decode cX11_isAll 25 = .ok (.goto 4, 3) := by decide +kernel
theorem dX11_isAll_28 : decode cX11_isAll 28 = .ok (.iconst 0, 1) := by decide +kernel
theorem dX11_isAll_29 : decode cX11_isAll 29 = .ok (.istore_n 2, 1) := by decide +kernel
theorem dX11_isAll_30 : decode cX11_isAll 30 = .ok (.iconst 0, 1) := by decide +kernel
theorem dX11_isAll_31 : decode cX11_isAll 31 = .ok (.istore_n 3, 1) := by decide +kernel
theorem dX11_isAll_32 : decode cX11_isAll 32 = .ok (.iload_n 3, 1) := by decide +kernel
theorem dX11_isAll_33 : decode cX11_isAll 33 = .ok (.aload_n 0, 1) := by decide +kernel
theorem dX11_isAll_34 : decode cX11_isAll 34 = .ok (.getfield 29, 3) := by decide +kernel
theorem dX11_isAll_37 : decode cX11_isAll 37 = .ok (.iload_n 1, 1) := by decide +kernel
theorem dX11_isAll_38 : decode cX11_isAll 38 = .ok (.iaload, 1) := by decide +kernel
theorem dX11_isAll_39 : decode cX11_isAll 39 = .ok (.if_icmp .ge 30, 3) := by decide +kernel
theorem dX11_isAll_42 : decode cX11_isAll 42 = .ok (.iload_n 2, 1) := by decide +kernel
theorem dX11_isAll_43 : decode cX11_isAll 43 = .ok (.ifCond .eq 26, 3) := by decide +kernel
theorem dX11_isAll_46 : decode cX11_isAll 46 = .ok (.aload_n 0, 1) := by decide +kernel
theorem dX11_isAll_47 : decode cX11_isAll 47 = .ok (.iload_n 3, 1) := by decide +kernel
theorem dX11_isAll_48 : decode cX11_isAll 48 = .ok (.aload_n 0, 1) := by decide +kernel
theorem dX11_isAll_49 : decode cX11_isAll 49 = .ok (.getfield 32, 3) := by decide +kernel
theorem dX11_isAll_52 : decode cX11_isAll 52 = .ok (.bipush 10, 2) := by decide +kernel
theorem dX11_isAll_54 : decode cX11_isAll 54 = .ok (.iload_n 1, 1) := by decide +kernel
theorem dX11_isAll_55 : decode cX11_isAll 55 = .ok (.imul, 1) := by decide +kernel
theorem dX11_isAll_56 : decode cX11_isAll 56 = .ok (.iload_n 3, 1) := by decide +kernel
theorem dX11_isAll_57 : decode cX11_isAll 57 = .ok (.iadd, 1) := by decide +kernel
theorem dX11_isAll_58 : decode cX11_isAll 58 = .ok (.iaload, 1) := by decide +kernel
theorem dX11_isAll_59 : decode cX11_isAll 59 = .ok (.invokevirtual 112, 3) := by decide +kernel
theorem dX11_isAll_62 : decode cX11_isAll 62 = .ok (.istore_n 2, 1) := by decide +kernel
theorem dX11_isAll_63 : decode cX11_isAll 63 = .ok (.iinc 3 1, 3) := by decide +kernel
theorem dX11_isAll_66 : decode cX11_isAll 66 = .ok (.goto (-34), 3) := by decide +kernel
theorem dX11_isAll_69 : decode cX11_isAll 69 = .ok (.iload_n 2, 1) := by decide +kernel
theorem dX11_isAll_70 : decode cX11_isAll 70 = .ok (.ireturn, 1) := by decide +kernel
theorem dX11_isSome_0 : decode cX11_isSome 0 = .ok (.aload_n 0, 1) := by decide +kernel
theorem dX11_isSome_1 : decode cX11_isSome 1 = .ok (.getfield 7, 3) := by decide +kernel
theorem dX11_isSome_4 : decode cX11_isSome 4 = .ok (.iconst 2, 1) := by decide +kernel
theorem dX11_isSome_5 : decode cX11_isSome 5 = .ok (.iaload, 1) := by decide +kernel
theorem dX11_isSome_6 : decode cX11_isSome 6 = .ok (.ifCond .eq 20, 3) := by decide +kernel
theorem dX11_isSome_9 : decode cX11_isSome 9 = .ok (.aload_n 0, 1) := by decide +kernel
theorem dX11_isSome_10 : decode cX11_isSome 10 = .ok (.iconst 0, 1) := by decide +kernel
theorem dX11_isSome_11 : decode cX11_isSome 11 = .ok (.aload_n 0, 1) := by decide +kernel
theorem dX11_isSome_12 : decode cX11_isSome 12 = .ok (.getfield 32, 3) := by decide +kernel
theorem dX11_isSome_15 : decode cX11_isSome 15 = .ok (.bipush 10, 2) := by decide +kernel
theorem dX11_isSome_17 : decode cX11_isSome 17 = .ok (.iload_n 1, 1) := by decide +kernel
theorem dX11_isSome_18 : decode cX11_isSome 18 = .ok (.imul, 1) := by decide +kernel
theorem dX11_isSome_19 : decode cX11_isSome 19 = .ok (.iaload, 1) := by decide +kernel
theorem dX11_isSome_20 : decode cX11_isSome 20 = .ok (.invokevirtual 112, 3) := by decide +kernel
theorem dX11_isSome_23 : decode cX11_isSome 23 = .ok (.ifCond .ne 5, 3) := by decide +kernel
theorem dX11_isSome_26 : decode cX11_isSome 26 = .ok (.iconst 0, 1) := by decide +kernel
theorem dX11_isSome_27 : decode cX11_isSome 27 = .ok (.ireturn, 1) := by decide +kernel
theorem dX11_isSome_28 : decode cX11_isSome 28 = .ok (.iconst 1, 1) := by decide +kernel
theorem dX11_isSome_29 : decode cX11_isSome 29 = .ok (.istore_n 2, 1) := by decide +kernel
theorem dX11_isSome_30 : decode cX11_isSome 30 = .ok (.iconst 1, 1) := by decide +kernel
theorem dX11_isSome_31 : decode cX11_isSome 31 = .ok (.istore_n 3, 1) := by decide +kernel
theorem dX11_isSome_32 : decode cX11_isSome 32 = .ok (.iload_n 3, 1) := by decide +kernel
theorem dX11_isSome_33 : decode cX11_isSome 33 = .ok (.aload_n 0, 1) := by decide +kernel
theorem dX11_isSome_34 : decode cX11_isSome 34 = .ok (.getfield 29, 3) := by decide +kernel
theorem dX11_isSome_37 : decode cX11_isSome 37 = .ok (.iload_n 1, 1) := by decide +kernel
theorem dX11_isSome_38 : decode cX11_isSome 38 = .ok (.iaload, 1) := by decide +kernel
theorem dX11_isSome_39 : decode cX11_isSome 39 = .ok (.if_icmp .ge 46, 3) := by decide +kernel
theorem dX11_isSome_42 : decode cX11_isSome 42 = .ok (.iload_n 2, 1) := by decide +kernel
theorem dX11_isSome_43 : decode cX11_isSome 43 = .ok (.iload_n 2, 1) := by decide +kernel
theorem dX11_isSome_44 : decode cX11_isSome 44 = .ok (.aload_n 0, 1) := by decide +kernel
theorem dX11_isSome_45 : decode cX11_isSome 45 = .ok (.getfield 7, 3) := by decide +kernel
theorem dX11_isSome_48 : decode cX11_isSome 48 = .ok (.iconst 2, 1) := by decide +kernel
theorem dX11_isSome_49 : decode cX11_isSome 49 = .ok (.iaload, 1) := by decide +kernel
theorem dX11_isSome_50 : decode cX11_isSome 50 = .ok (.if_icmp .ge 26, 3) := by decide +kernel
theorem dX11_isSome_53 : decode cX11_isSome 53 = .ok (.aload_n 0, 1) := by decide +kernel
theorem dX11_isSome_54 : decode cX11_isSome 54 = .ok (.iload_n 2, 1) := by decide +kernel
theorem dX11_isSome_55 : decode cX11_isSome 55 = .ok (.aload_n 0, 1) := by decide +kernel
theorem dX11_isSome_56 : decode cX11_isSome 56 = .ok (.getfield 32, 3) := by decide +kernel
theorem dX11_isSome_59 : decode cX11_isSome 59 = .ok (.bipush 10, 2) := by decide +kernel
theorem dX11_isSome_61 : decode cX11_isSome 61 = .ok (.iload_n 1, 1) := by decide +kernel
theorem dX11_isSome_62 : decode cX11_isSome 62 = .ok (.imul, 1) := by decide +kernel
theorem dX11_isSome_63 : decode cX11_isSome 63 = .ok (.iload_n 3, 1) := by decide +kernel
theorem dX11_isSome_64 : decode cX11_isSome 64 = .ok (.iadd, 1) := by decide +kernel
theorem dX11_isSome_65 : decode cX11_isSome 65 = .ok (.iaload, 1) := by decide +kernel
theorem dX11_isSome_66 : decode cX11_isSome 66 = .ok (.invokevirtual 112, 3) := by decide +kernel
theorem dX11_isSome_69 : decode cX11_isSome 69 = .ok (.ifCond .eq 7, 3) := by decide +kernel
theorem dX11_isSome_72 : decode cX11_isSome 72 = .ok (.iconst 1, 1) := by decide +kernel
theorem dX11_isSome_73 : decode cX11_isSome 73 = .ok (.goto 4, 3) := by decide +kernel
theorem dX11_isSome_76 : decode cX11_isSome 76 = .ok (.iconst 0, 1) := by decide +kernel
theorem dX11_isSome_77 : decode cX11_isSome 77 = .ok (.iadd, 1) := by decide +kernel
theorem dX11_isSome_78 : decode cX11_isSome 78 = .ok (.istore_n 2, 1) := by decide +kernel
theorem dX11_isSome_79 : decode cX11_isSome 79 = .ok (.iinc 3 1, 3) := by decide +kernel
theorem dX11_isSome_82 : decode cX11_isSome 82 = .ok (.goto (-50), 3) := by decide +kernel
theorem dX11_isSome_85 : decode cX11_isSome 85 = .ok (.iload_n 2, 1) := by decide +kernel
theorem dX11_isSome_86 : decode cX11_isSome 86 = .ok (.aload_n 0, 1) := by decide +kernel
theorem dX11_isSome_87 : decode cX11_isSome 87 = .ok (.getfield 7, 3) := by decide +kernel
theorem dX11_isSome_90 : decode cX11_isSome 90 = .ok (.iconst 2, 1) := by decide +kernel
theorem dX11_isSome_91 : decode cX11_isSome 91 = .ok (.iaload, 1) := by decide +kernel
theorem dX11_isSome_92 : decode cX11_isSome 92 = .ok (.if_icmp .ne 7, 3) := by decide +kernel
theorem dX11_isSome_95 : decode cX11_isSome 95 = .ok (.iconst 1, 1) := by decide +kernel
theorem dX11_isSome_96 : decode cX11_isSome 96 = .ok (.goto 4, 3) := by decide +kernel
theorem dX11_isSome_99 : decode cX11_isSome 99 = .ok (.iconst 0, 1) := by decide +kernel
theorem dX11_isSome_100 : decode cX11_isSome 100 = .ok (.ireturn, 1) := by decide +kernel
theorem dX11_meant_0 : decode cX11_meant 0 = .ok (.aload_n 0, 1) := by decide +kernel
theorem dX11_meant_1 : decode cX11_meant 1 = .ok (.invokevirtual 90, 3) := by decide +kernel
theorem dX11_meant_4 : decode cX11_meant 4 = .ok (.iconst 0, 1) := by decide +kernel
theorem dX11_meant_5 : decode cX11_meant 5 = .ok (.istore_n 2, 1) := by decide +kernel
theorem dX11_meant_6 : decode cX11_meant 6 = .ok (.iconst 0, 1) := by decide +kernel
theorem dX11_meant_7 : decode cX11_meant 7 = .ok (.istore_n 3, 1) := by decide +kernel
theorem dX11_meant_8 : decode cX11_meant 8 = .ok (.iload_n 3, 1) := by decide +kernel
theorem dX11_meant_9 : decode cX11_meant 9 = .ok (.aload_n 0, 1) := by decide +kernel
theorem dX11_meant_10 : decode cX11_meant 10 = .ok (.getfield 7, 3) := by decide +kernel
theorem dX11_meant_13 : decode cX11_meant 13 = .ok (.iconst 0, 1) := by decide +kernel
theorem dX11_meant_14 : decode cX11_meant 14 = .ok (.iaload, 1) := by decide +kernel
theorem dX11_meant_15 : decode cX11_meant 15 = .ok (.if_icmp .ge 42, 3) := by decide +kernel
theorem dX11_meant_18 : decode cX11_meant 18 = .ok (.iload_n 2, 1) := by decide +kernel
theorem dX11_meant_19 : decode cX11_meant 19 = .ok (.iload_n 1, 1) := by decide +kernel
theorem dX11_meant_20 : decode cX11_meant 20 = .ok (.ifCond .eq 14, 3) := by decide +kernel
theorem dX11_meant_23 : decode cX11_meant 23 = .ok (.aload_n 0, 1) := by decide +kernel
theorem dX11_meant_24 : decode cX11_meant 24 = .ok (.iload_n 3, 1) := by decide +kernel
theorem dX11_meant_25 : decode cX11_meant 25 = .ok (.invokevirtual 115, 3) := by decide +kernel
theorem dX11_meant_28 : decode cX11_meant 28 = .ok (.ifCond .eq 20, 3) := by decide +kernel
theorem dX11_meant_31 : decode cX11_meant 31 = .ok (.goto 11, 3) := by decide +kernel
theorem dX11_meant_34 : decode cX11_meant 34 = .ok (.aload_n 0, 1) := by decide +kernel
theorem dX11_meant_35 : decode cX11_meant 35 = .ok (.iload_n 3, 1) := by decide +kernel
theorem dX11_meant_36 : decode cX11_meant 36 = .ok (.invokevirtual 118, 3) := by decide +kernel
theorem dX11_meant_39 : decode cX11_meant 39 = .ok (.ifCond .eq 9, 3) := by decide +kernel
theorem dX11_meant_42 : decode cX11_meant 42 = .ok (.iconst 1, 1) := by decide +kernel
theorem dX11_meant_43 : decode cX11_meant 43 = .ok (.iload_n 3, 1) := by decide +kernel
theorem dX11_meant_44 : decode cX11_meant 44 = .ok (.ishl, 1) := by decide +kernel
theorem dX11_meant_45 : decode cX11_meant 45 = .ok (.goto 4, 3) := by decide +kernel
theorem dX11_meant_48 : decode cX11_meant 48 = .ok (.iconst 0, 1) := by decide +kernel
theorem dX11_meant_49 : decode cX11_meant 49 = .ok (.ior, 1) := by decide +kernel
theorem dX11_meant_50 : decode cX11_meant 50 = .ok (.istore_n 2, 1) := by decide +kernel
theorem dX11_meant_51 : decode cX11_meant 51 = .ok (.iinc 3 1, 3) := by decide +kernel
theorem dX11_meant_54 : decode cX11_meant 54 = .ok (.goto (-46), 3) := by decide +kernel
theorem dX11_meant_57 : decode cX11_meant 57 = .ok (.iload_n 2, 1) := by decide +kernel
theorem dX11_meant_58 : decode cX11_meant 58 = .ok (.ireturn, 1) := by decide +kernel
theorem dX11_like_0 : decode cX11_like 0 = .ok (.iconst 0, 1) := by decide +kernel
theorem dX11_like_1 : decode cX11_like 1 = .ok (.istore_n 2, 1) := by decide +kernel
theorem dX11_like_2 : decode cX11_like 2 = .ok (.iload_n 2, 1) := by decide +kernel
theorem dX11_like_3 : decode cX11_like 3 = .ok (.aload_n 0, 1) := by decide +kernel
theorem dX11_like_4 : decode cX11_like 4 = .ok (.getfield 29, 3) := by decide +kernel
theorem dX11_like_7 : decode cX11_like 7 = .ok (.iload_n 1, 1) := by decide +kernel
theorem dX11_like_8 : decode cX11_like 8 = .ok (.iaload, 1) := by decide +kernel
theorem dX11_like_9 : decode cX11_like 9 = .ok (.if_icmp .gt 16, 3) := by decide +kernel
theorem dX11_like_12 : decode cX11_like 12 = .ok (.aload_n 0, 1) := by decide +kernel
theorem dX11_like_13 : decode cX11_like 13 = .ok (.getfield 44, 3) := by decide +kernel
theorem dX11_like_16 : decode cX11_like 16 = .ok (.iload_n 2, 1) := by decide +kernel
theorem dX11_like_17 : decode cX11_like 17 = .ok (.iconst 0, 1) := by decide +kernel
theorem dX11_like_18 : decode cX11_like 18 = .ok (.iastore, 1) := by decide +kernel
theorem dX11_like_19 : decode cX11_like 19 = .ok (.iinc 2 1, 3) := by decide +kernel
theorem dX11_like_22 : decode cX11_like 22 = .ok (.goto (-20), 3) := by decide +kernel
theorem dX11_like_25 : decode cX11_like 25 = .ok (.iconst 0, 1) := by decide +kernel
theorem dX11_like_26 : decode cX11_like 26 = .ok (.istore_n 2, 1) := by decide +kernel
theorem dX11_like_27 : decode cX11_like 27 = .ok (.iload_n 2, 1) := by decide +kernel
theorem dX11_like_28 : decode cX11_like 28 = .ok (.aload_n 0, 1) := by decide +kernel
theorem dX11_like_29 : decode cX11_like 29 = .ok (.getfield 7, 3) := by decide +kernel
theorem dX11_like_32 : decode cX11_like 32 = .ok (.iconst 2, 1) := by decide +kernel
theorem dX11_like_33 : decode cX11_like 33 = .ok (.iaload, 1) := by decide +kernel
theorem dX11_like_34 : decode cX11_like 34 = .ok (.if_icmp .ge 140, 3) := by decide +kernel
theorem dX11_like_37 : decode cX11_like 37 = .ok (.iconst 0, 1) := by decide +kernel
theorem dX11_like_38 : decode cX11_like 38 = .ok (.istore_n 3, 1) := by decide +kernel
theorem dX11_like_39 : decode cX11_like 39 = .ok (.iconst 0, 1) := by decide +kernel
theorem dX11_like_40 : decode cX11_like 40 = .ok (.istore 4, 2) := by decide +kernel
theorem dX11_like_42 : decode cX11_like 42 = .ok (.iload 4, 2) := by decide +kernel
theorem dX11_like_44 : decode cX11_like 44 = .ok (.aload_n 0, 1) := by decide +kernel
theorem dX11_like_45 : decode cX11_like 45 = .ok (.getfield 29, 3) := by decide +kernel
theorem dX11_like_48 : decode cX11_like 48 = .ok (.iload_n 1, 1) := by decide +kernel
theorem dX11_like_49 : decode cX11_like 49 = .ok (.iaload, 1) := by decide +kernel
theorem dX11_like_50 : decode cX11_like 50 = .ok (.if_icmp .ge 118, 3) := by decide +kernel
theorem dX11_like_53 : decode cX11_like 53 = .ok (.aload_n 0, 1) := by decide +kernel
theorem dX11_like_54 : decode cX11_like 54 = .ok (.getfield 7, 3) := by decide +kernel
theorem dX11_like_57 : decode cX11_like 57 = .ok (.iconst 3, 1) := by decide +kernel
