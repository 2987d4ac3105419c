theorem dX0_init_0 : decode cX0_init 0 = .ok (.aload_n 0, 1) := by decide +kernel
theorem dX0_init_1 : decode cX0_init 1 = .ok (.invokespecial 3, 3) := by decide +kernel
theorem dX0_init_4 : decode cX0_init 4 = .ok (.aload_n 0, 1) := by decide +kernel
theorem dX0_init_5 : decode cX0_init 5 = .ok (.bipush 20, 2) := by decide +kernel
theorem dX0_init_7 : decode cX0_init 7 = .ok (.newarray .int, 2) := by decide +kernel
theorem dX0_init_9 : decode cX0_init 9 = .ok (.putfield 9, 3) := by decide +kernel
theorem dX0_init_12 : decode cX0_init 12 = .ok (.aload_n 0, 1) := by decide +kernel
theorem dX0_init_13 : decode cX0_init 13 = .ok (.bipush 20, 2) := by decide +kernel
theorem dX0_init_15 : decode cX0_init 15 = .ok (.newarray .int, 2) := by decide +kernel
theorem dX0_init_17 : decode cX0_init 17 = .ok (.putfield 15, 3) := by decide +kernel
theorem dX0_init_20 : decode cX0_init 20 = .ok (.aload_n 0, 1) := by decide +kernel
theorem dX0_init_21 : decode cX0_init 21 = .ok (.bipush 20, 2) := by decide +kernel
theorem dX0_init_23 : decode cX0_init 23 = .ok (.newarray .int, 2) := by decide +kernel
theorem dX0_init_25 : decode cX0_init 25 = .ok (.putfield 18, 3) := by decide +kernel
theorem dX0_init_28 : decode cX0_init 28 = .ok (.return_, 1) := by decide +kernel
theorem dX0_addEntry_0 : decode cX0_addEntry 0 = .ok (.aload_n 0, 1) := by decide +kernel
theorem dX0_addEntry_1 : decode cX0_addEntry 1 = .ok (.getfield 21, 3) := by decide +kernel
theorem dX0_addEntry_4 : decode cX0_addEntry 4 = .ok (.bipush 20, 2) := by decide +kernel
theorem dX0_addEntry_6 : decode cX0_addEntry 6 = .ok (.if_icmp .ge 43, 3) := by decide +kernel
theorem dX0_addEntry_9 : decode cX0_addEntry 9 = .ok (.aload_n 0, 1) := by decide +kernel
theorem dX0_addEntry_10 : decode cX0_addEntry 10 = .ok (.getfield 9, 3) := by decide +kernel
theorem dX0_addEntry_13 : decode cX0_addEntry 13 = .ok (.aload_n 0, 1) := by decide +kernel
theorem dX0_addEntry_14 : decode cX0_addEntry 14 = .ok (.getfield 21, 3) := by decide +kernel
theorem dX0_addEntry_17 : decode cX0_addEntry 17 = .ok (.iload_n 1, 1) := by decide +kernel
theorem dX0_addEntry_18 : decode cX0_addEntry 18 = .ok (.iastore, 1) := by decide +kernel
theorem dX0_addEntry_19 : decode cX0_addEntry 19 = .ok (.aload_n 0, 1) := by decide +kernel
theorem dX0_addEntry_20 : decode cX0_addEntry 20 = .ok (.getfield 15, 3) := by decide +kernel
theorem dX0_addEntry_23 : decode cX0_addEntry 23 = .ok (.aload_n 0, 1) := by decide +kernel
theorem dX0_addEntry_24 : decode cX0_addEntry 24 = .ok (.getfield 21, 3) := by decide +kernel
theorem dX0_addEntry_27 : decode cX0_addEntry 27 = .ok (.iload_n 2, 1) := by decide +kernel
theorem dX0_addEntry_28 : decode cX0_addEntry 28 = .ok (.iastore, 1) := by decide +kernel
theorem dX0_addEntry_29 : decode cX0_addEntry 29 = .ok (.aload_n 0, 1) := by decide +kernel
theorem dX0_addEntry_30 : decode cX0_addEntry 30 = .ok (.getfield 18, 3) := by decide +kernel
theorem dX0_addEntry_33 : decode cX0_addEntry 33 = .ok (.aload_n 0, 1) := by decide +kernel
theorem dX0_addEntry_34 : decode cX0_addEntry 34 = .ok (.getfield 21, 3) := by decide +kernel
theorem dX0_addEntry_37 : decode cX0_addEntry 37 = .ok (.iload_n 3, 1) := by decide +kernel
theorem dX0_addEntry_38 : decode cX0_addEntry 38 = .ok (.iastore, 1) := by decide +kernel
theorem dX0_addEntry_39 : decode cX0_addEntry 39 = .ok (.aload_n 0, 1) := by decide +kernel
theorem dX0_addEntry_40 : decode cX0_addEntry 40 = .ok (.dup, 1) := by decide +kernel
theorem dX0_addEntry_41 : decode cX0_addEntry 41 = .ok (.getfield 21, 3) := by decide +kernel
theorem dX0_addEntry_44 : decode cX0_addEntry 44 = .ok (.iconst 1, 1) := by decide +kernel
theorem dX0_addEntry_45 : decode cX0_addEntry 45 = .ok (.iadd, 1) := by decide +kernel
theorem dX0_addEntry_46 : decode cX0_addEntry 46 = .ok (.putfield 21, 3) := by decide +kernel
theorem dX0_addEntry_49 : decode cX0_addEntry 49 = .ok (.return_, 1) := by decide +kernel
theorem dX0_firstWrong_0 : decode cX0_firstWrong 0 = .ok (.iconst 0, 1) := by decide +kernel
theorem dX0_firstWrong_1 : decode cX0_firstWrong 1 = .ok (.istore_n 2, 1) := by decide +kernel
theorem dX0_firstWrong_2 : decode cX0_firstWrong 2 = .ok (.iload_n 2, 1) := by decide +kernel
theorem dX0_firstWrong_3 : decode cX0_firstWrong 3 = .ok (.aload_n 0, 1) := by decide +kernel
theorem dX0_firstWrong_4 : decode cX0_firstWrong 4 = .ok (.getfield 21, 3) := by decide +kernel
theorem dX0_firstWrong_7 : decode cX0_firstWrong 7 = .ok (.if_icmp .ge 65, 3) := by decide +kernel
theorem dX0_firstWrong_10 : decode cX0_firstWrong 10 = .ok (.iload_n 2, 1) := by decide +kernel
theorem dX0_firstWrong_11 : decode cX0_firstWrong 11 = .ok (.bipush 20, 2) := by decide +kernel
theorem dX0_firstWrong_13 : decode cX0_firstWrong 13 = .ok (.if_icmp .ge 59, 3) := by decide +kernel
theorem dX0_firstWrong_16 : decode cX0_firstWrong 16 = .ok (.aload_n 0, 1) := by decide +kernel
theorem dX0_firstWrong_17 : decode cX0_firstWrong 17 = .ok (.getfield 9, 3) := by decide +kernel
theorem dX0_firstWrong_20 : decode cX0_firstWrong 20 = .ok (.iload_n 2, 1) := by decide +kernel
theorem dX0_firstWrong_21 : decode cX0_firstWrong 21 = .ok (.iaload, 1) := by decide +kernel
theorem dX0_firstWrong_22 : decode cX0_firstWrong 22 = .ok (.aload_n 1, 1) := by decide +kernel
theorem dX0_firstWrong_23 : decode cX0_firstWrong 23 = .ok (.getfield 25, 3) := by decide +kernel
theorem dX0_firstWrong_26 : decode cX0_firstWrong 26 = .ok (.if_icmp .lt 7, 3) := by decide +kernel
theorem dX0_firstWrong_29 : decode cX0_firstWrong 29 = .ok (.iconst 1, 1) := by decide +kernel
theorem dX0_firstWrong_30 : decode cX0_firstWrong 30 = .ok (.goto 4, 3) := by decide +kernel
theorem dX0_firstWrong_33 : decode cX0_firstWrong 33 = .ok (.iconst 0, 1) := by decide +kernel
theorem dX0_firstWrong_34 : decode cX0_firstWrong 34 = .ok (.istore_n 3, 1) := by decide +kernel
theorem dX0_firstWrong_35 : decode cX0_firstWrong 35 = .ok (.iload_n 3, 1) := by decide +kernel
theorem dX0_firstWrong_36 : decode cX0_firstWrong 36 = .ok (.ifCond .ne 28, 3) := by decide +kernel
theorem dX0_firstWrong_39 : decode cX0_firstWrong 39 = .ok (.aload_n 1, 1) := by decide +kernel
theorem dX0_firstWrong_40 : decode cX0_firstWrong 40 = .ok (.aload_n 0, 1) := by decide +kernel
theorem dX0_firstWrong_41 : decode cX0_firstWrong 41 = .ok (.getfield 9, 3) := by decide +kernel
theorem dX0_firstWrong_44 : decode cX0_firstWrong 44 = .ok (.iload_n 2, 1) := by decide +kernel
theorem dX0_firstWrong_45 : decode cX0_firstWrong 45 = .ok (.iaload, 1) := by decide +kernel
theorem dX0_firstWrong_46 : decode cX0_firstWrong 46 = .ok (.aload_n 0, 1) := by decide +kernel
theorem dX0_firstWrong_47 : decode cX0_firstWrong 47 = .ok (.getfield 15, 3) := by decide +kernel
theorem dX0_firstWrong_50 : decode cX0_firstWrong 50 = .ok (.iload_n 2, 1) := by decide +kernel
theorem dX0_firstWrong_51 : decode cX0_firstWrong 51 = .ok (.iaload, 1) := by decide +kernel
theorem dX0_firstWrong_52 : decode cX0_firstWrong 52 = .ok (.invokevirtual 30, 3) := by decide +kernel
theorem dX0_firstWrong_55 : decode cX0_firstWrong 55 = .ok (.aload_n 0, 1) := by decide +kernel
theorem dX0_firstWrong_56 : decode cX0_firstWrong 56 = .ok (.getfield 18, 3) := by decide +kernel
theorem dX0_firstWrong_59 : decode cX0_firstWrong 59 = .ok (.iload_n 2, 1) := by decide +kernel
theorem dX0_firstWrong_60 : decode cX0_firstWrong 60 = .ok (.iaload, 1) := by decide +kernel
theorem dX0_firstWrong_61 : decode cX0_firstWrong 61 = .ok (.if_icmp .eq 5, 3) := by decide +kernel
theorem dX0_firstWrong_64 : decode cX0_firstWrong 64 = .ok (.iload_n 2, 1) := by decide +kernel
theorem dX0_firstWrong_65 : decode cX0_firstWrong 65 = .ok (.ireturn, 1) := by decide +kernel
theorem dX0_firstWrong_66 : decode cX0_firstWrong 66 = .ok (.iinc 2 1, 3) := by decide +kernel
theorem dX0_firstWrong_69 : decode cX0_firstWrong 69 = .ok (.goto (-67), 3) := by decide +kernel
theorem dX0_firstWrong_72 : decode cX0_firstWrong 72 = .ok (.iconst (-1), 1) := by decide +kernel
theorem dX0_firstWrong_73 : decode cX0_firstWrong 73 = .ok (.ireturn, 1) := by decide +kernel
theorem dX1_init_0 : decode cX1_init 0 = .ok (.aload_n 0, 1) := by decide +kernel
theorem dX1_init_1 : decode cX1_init 1 = .ok (.invokespecial 3, 3) := by decide +kernel
theorem dX1_init_4 : decode cX1_init 4 = .ok (.aload_n 0, 1) := by decide +kernel
theorem dX1_init_5 : decode cX1_init 5 = .ok (.bipush 17, 2) := by decide +kernel
theorem dX1_init_7 : decode cX1_init 7 = .ok (.newarray .int, 2) := by decide +kernel
theorem dX1_init_9 : decode cX1_init 9 = .ok (.putfield 11, 3) := by decide +kernel
theorem dX1_init_12 : decode cX1_init 12 = .ok (.aload_n 0, 1) := by decide +kernel
theorem dX1_init_13 : decode cX1_init 13 = .ok (.sipush 170, 3) := by decide +kernel
theorem dX1_init_16 : decode cX1_init 16 = .ok (.newarray .int, 2) := by decide +kernel
theorem dX1_init_18 : decode cX1_init 18 = .ok (.putfield 15, 3) := by decide +kernel
theorem dX1_init_21 : decode cX1_init 21 = .ok (.aload_n 0, 1) := by decide +kernel
theorem dX1_init_22 : decode cX1_init 22 = .ok (.sipush 170, 3) := by decide +kernel
theorem dX1_init_25 : decode cX1_init 25 = .ok (.newarray .int, 2) := by decide +kernel
theorem dX1_init_27 : decode cX1_init 27 = .ok (.putfield 18, 3) := by decide +kernel
theorem dX1_init_30 : decode cX1_init 30 = .ok (.return_, 1) := by decide +kernel
theorem dX1_reckon_0 : decode cX1_reckon 0 = .ok (.aload_n 0, 1) := by decide +kernel
theorem dX1_reckon_1 : decode cX1_reckon 1 = .ok (.aload_n 1, 1) := by decide +kernel
theorem dX1_reckon_2 : decode cX1_reckon 2 = .ok (.invokevirtual 21, 3) := by decide +kernel
theorem dX1_reckon_5 : decode cX1_reckon 5 = .ok (.putfield 27, 3) := by decide +kernel
theorem dX1_reckon_8 : decode cX1_reckon 8 = .ok (.aload_n 0, 1) := by decide +kernel
theorem dX1_reckon_9 : decode cX1_reckon 9 = .ok (.aload_n 1, 1) := by decide +kernel
theorem dX1_reckon_10 : decode cX1_reckon 10 = .ok (.invokestatic 30, 3) := by decide +kernel
theorem dX1_reckon_13 : decode cX1_reckon 13 = .ok (.putfield 34, 3) := by decide +kernel
theorem dX1_reckon_16 : decode cX1_reckon 16 = .ok (.iconst 0, 1) := by decide +kernel
theorem dX1_reckon_17 : decode cX1_reckon 17 = .ok (.istore_n 2, 1) := by decide +kernel
theorem dX1_reckon_18 : decode cX1_reckon 18 = .ok (.iload_n 2, 1) := by decide +kernel
theorem dX1_reckon_19 : decode cX1_reckon 19 = .ok (.aload_n 0, 1) := by decide +kernel
theorem dX1_reckon_20 : decode cX1_reckon 20 = .ok (.getfield 27, 3) := by decide +kernel
theorem dX1_reckon_23 : decode cX1_reckon 23 = .ok (.if_icmp .ge 27, 3) := by decide +kernel
theorem dX1_reckon_26 : decode cX1_reckon 26 = .ok (.aload_n 0, 1) := by decide +kernel
theorem dX1_reckon_27 : decode cX1_reckon 27 = .ok (.iload_n 2, 1) := by decide +kernel
theorem dX1_reckon_28 : decode cX1_reckon 28 = .ok (.aload_n 1, 1) := by decide +kernel
theorem dX1_reckon_29 : decode cX1_reckon 29 = .ok (.aload_n 1, 1) := by decide +kernel
theorem dX1_reckon_30 : decode cX1_reckon 30 = .ok (.iload_n 2, 1) := by decide +kernel
theorem dX1_reckon_31 : decode cX1_reckon 31 = .ok (.iconst 2, 1) := by decide +kernel
theorem dX1_reckon_32 : decode cX1_reckon 32 = .ok (.invokevirtual 37, 3) := by decide +kernel
theorem dX1_reckon_35 : decode cX1_reckon 35 = .ok (.aload_n 1, 1) := by decide +kernel
theorem dX1_reckon_36 : decode cX1_reckon 36 = .ok (.iload_n 2, 1) := by decide +kernel
theorem dX1_reckon_37 : decode cX1_reckon 37 = .ok (.iconst 3, 1) := by decide +kernel
theorem dX1_reckon_38 : decode cX1_reckon 38 = .ok (.invokevirtual 37, 3) := by decide +kernel
theorem dX1_reckon_41 : decode cX1_reckon 41 = .ok (.invokevirtual 41, 3) := by decide +kernel
theorem dX1_reckon_44 : decode cX1_reckon 44 = .ok (.iinc 2 1, 3) := by decide +kernel
theorem dX1_reckon_47 : decode cX1_reckon 47 = .ok (.goto (-29), 3) := by decide +kernel
theorem dX1_reckon_50 : decode cX1_reckon 50 = .ok (.return_, 1) := by decide +kernel
theorem dX1_heirsOf_0 : decode cX1_heirsOf 0 = .ok (.iconst 0, 1) := by decide +kernel
theorem dX1_heirsOf_1 : decode cX1_heirsOf 1 = .ok (.istore_n 1, 1) := by decide +kernel
theorem dX1_heirsOf_2 : decode cX1_heirsOf 2 = .ok (.iconst 0, 1) := by decide +kernel
theorem dX1_heirsOf_3 : decode cX1_heirsOf 3 = .ok (.istore_n 2, 1) := by decide +kernel
theorem dX1_heirsOf_4 : decode cX1_heirsOf 4 = .ok (.iload_n 2, 1) := by decide +kernel
theorem dX1_heirsOf_5 : decode cX1_heirsOf 5 = .ok (.aload_n 0, 1) := by decide +kernel
theorem dX1_heirsOf_6 : decode cX1_heirsOf 6 = .ok (.invokevirtual 21, 3) := by decide +kernel
theorem dX1_heirsOf_9 : decode cX1_heirsOf 9 = .ok (.if_icmp .ge 35, 3) := by decide +kernel
theorem dX1_heirsOf_12 : decode cX1_heirsOf 12 = .ok (.aload_n 0, 1) := by decide +kernel
theorem dX1_heirsOf_13 : decode cX1_heirsOf 13 = .ok (.iload_n 2, 1) := by decide +kernel
theorem dX1_heirsOf_14 : decode cX1_heirsOf 14 = .ok (.iconst 2, 1) := by decide +kernel
theorem dX1_heirsOf_15 : decode cX1_heirsOf 15 = .ok (.invokevirtual 37, 3) := by decide +kernel
theorem dX1_heirsOf_18 : decode cX1_heirsOf 18 = .ok (.istore_n 3, 1) := by decide +kernel
theorem dX1_heirsOf_19 : decode cX1_heirsOf 19 = .ok (.iload_n 3, 1) := by decide +kernel
theorem dX1_heirsOf_20 : decode cX1_heirsOf 20 = .ok (.iconst (-1), 1) := by decide +kernel
theorem dX1_heirsOf_21 : decode cX1_heirsOf 21 = .ok (.if_icmp .eq 17, 3) := by decide +kernel
theorem dX1_heirsOf_24 : decode cX1_heirsOf 24 = .ok (.aload_n 0, 1) := by decide +kernel
theorem dX1_heirsOf_25 : decode cX1_heirsOf 25 = .ok (.iload_n 2, 1) := by decide +kernel
theorem dX1_heirsOf_26 : decode cX1_heirsOf 26 = .ok (.invokevirtual 45, 3) := by decide +kernel
theorem dX1_heirsOf_29 : decode cX1_heirsOf 29 = .ok (.ifCond .eq 9, 3) := by decide +kernel
theorem dX1_heirsOf_32 : decode cX1_heirsOf 32 = .ok (.iload_n 1, 1) := by decide +kernel
theorem dX1_heirsOf_33 : decode cX1_heirsOf 33 = .ok (.iconst 1, 1) := by decide +kernel
theorem dX1_heirsOf_34 : decode cX1_heirsOf 34 = .ok (.iload_n 3, 1) := by decide +kernel
theorem dX1_heirsOf_35 : decode cX1_heirsOf 35 = .ok (.ishl, 1) := by decide +kernel
theorem dX1_heirsOf_36 : decode cX1_heirsOf 36 = .ok (.ior, 1) := by decide +kernel
theorem dX1_heirsOf_37 : decode cX1_heirsOf 37 = .ok (.istore_n 1, 1) := by decide +kernel
theorem dX1_heirsOf_38 : decode cX1_heirsOf 38 = .ok (.iinc 2 1, 3) := by decide +kernel
theorem dX1_heirsOf_41 : decode cX1_heirsOf 41 = .ok (.goto (-37), 3) := by decide +kernel
theorem dX1_heirsOf_44 : decode cX1_heirsOf 44 = .ok (.iconst 0, 1) := by decide +kernel
theorem dX1_heirsOf_45 : decode cX1_heirsOf 45 = .ok (.istore_n 2, 1) := by decide +kernel
theorem dX1_heirsOf_46 : decode cX1_heirsOf 46 = .ok (.iconst 0, 1) := by decide +kernel
theorem dX1_heirsOf_47 : decode cX1_heirsOf 47 = .ok (.istore_n 3, 1) := by decide +kernel
theorem dX1_heirsOf_48 : decode cX1_heirsOf 48 = .ok (.iload_n 3, 1) := by decide +kernel
theorem dX1_heirsOf_49 : decode cX1_heirsOf 49 = .ok (.aload_n 0, 1) := by decide +kernel
theorem dX1_heirsOf_50 : decode cX1_heirsOf 50 = .ok (.invokevirtual 21, 3) := by decide +kernel
theorem dX1_heirsOf_53 : decode cX1_heirsOf 53 = .ok (.if_icmp .ge 46, 3) := by decide +kernel
theorem dX1_heirsOf_56 : decode cX1_heirsOf 56 = .ok (.aload_n 0, 1) := by decide +kernel
theorem dX1_heirsOf_57 : decode cX1_heirsOf 57 = .ok (.iload_n 3, 1) := by decide +kernel
theorem dX1_heirsOf_58 : decode cX1_heirsOf 58 = .ok (.iconst 2, 1) := by decide +kernel
theorem dX1_heirsOf_59 : decode cX1_heirsOf 59 = .ok (.invokevirtual 37, 3) := by decide +kernel
theorem dX1_heirsOf_62 : decode cX1_heirsOf 62 = .ok (.istore 4, 2) := by decide +kernel
theorem dX1_heirsOf_64 : decode cX1_heirsOf 64 = .ok (.iload 4, 2) := by decide +kernel
theorem dX1_heirsOf_66 : decode cX1_heirsOf 66 = .ok (.iconst (-1), 1) := by decide +kernel
theorem dX1_heirsOf_67 : decode cX1_heirsOf 67 = .ok (.if_icmp .eq 26, 3) := by decide +kernel
theorem dX1_heirsOf_70 : decode cX1_heirsOf 70 = .ok (.aload_n 0, 1) := by decide +kernel
theorem dX1_heirsOf_71 : decode cX1_heirsOf 71 = .ok (.iload_n 3, 1) := by decide +kernel
theorem dX1_heirsOf_72 : decode cX1_heirsOf 72 = .ok (.invokevirtual 49, 3) := by decide +kernel
theorem dX1_heirsOf_75 : decode cX1_heirsOf 75 = .ok (.ifCond .eq 18, 3) := by decide +kernel
theorem dX1_heirsOf_78 : decode cX1_heirsOf 78 = .ok (.iload_n 1, 1) := by decide +kernel
theorem dX1_heirsOf_79 : decode cX1_heirsOf 79 = .ok (.iload 4, 2) := by decide +kernel
theorem dX1_heirsOf_81 : decode cX1_heirsOf 81 = .ok (.invokestatic 52, 3) := by decide +kernel
theorem dX1_heirsOf_84 : decode cX1_heirsOf 84 = .ok (.ifCond .ne 9, 3) := by decide +kernel
theorem dX1_heirsOf_87 : decode cX1_heirsOf 87 = .ok (.iload_n 2, 1) := by decide +kernel
theorem dX1_heirsOf_88 : decode cX1_heirsOf 88 = .ok (.iconst 1, 1) := by decide +kernel
theorem dX1_heirsOf_89 : decode cX1_heirsOf 89 = .ok (.iload_n 3, 1) := by decide +kernel
theorem dX1_heirsOf_90 : decode cX1_heirsOf 90 = .ok (.ishl, 1) := by decide +kernel
theorem dX1_heirsOf_91 : decode cX1_heirsOf 91 = .ok (.ior, 1) := by decide +kernel
theorem dX1_heirsOf_92 : decode cX1_heirsOf 92 = .ok (.istore_n 2, 1) := by decide +kernel
theorem dX1_heirsOf_93 : decode cX1_heirsOf 93 = .ok (.iinc 3 1, 3) := by decide +kernel
theorem dX1_heirsOf_96 : decode cX1_heirsOf 96 = .ok (.goto (-48), 3) := by decide +kernel
theorem dX1_heirsOf_99 : decode cX1_heirsOf 99 = .ok (.iload_n 2, 1) := by decide +kernel
theorem dX1_heirsOf_100 : decode cX1_heirsOf 100 = .ok (.ireturn, 1) := by decide +kernel
theorem dX1_sizeForChild_0 : decode cX1_sizeForChild 0 = .ok (.aload_n 0, 1) := by decide +kernel
theorem dX1_sizeForChild_1 : decode cX1_sizeForChild 1 = .ok (.bipush 16, 2) := by decide +kernel
theorem dX1_sizeForChild_3 : decode cX1_sizeForChild 3 = .ok (.aload_n 1, 1) := by decide +kernel
theorem dX1_sizeForChild_4 : decode cX1_sizeForChild 4 = .ok (.iload_n 2, 1) := by decide +kernel
theorem dX1_sizeForChild_5 : decode cX1_sizeForChild 5 = .ok (.iload_n 3, 1) := by decide +kernel
theorem dX1_sizeForChild_6 : decode cX1_sizeForChild 6 = .ok (.invokevirtual 41, 3) := by decide +kernel
theorem dX1_sizeForChild_9 : decode cX1_sizeForChild 9 = .ok (.aload_n 0, 1) := by decide +kernel
theorem dX1_sizeForChild_10 : decode cX1_sizeForChild 10 = .ok (.bipush 16, 2) := by decide +kernel
theorem dX1_sizeForChild_12 : decode cX1_sizeForChild 12 = .ok (.invokevirtual 56, 3) := by decide +kernel
theorem dX1_sizeForChild_15 : decode cX1_sizeForChild 15 = .ok (.ireturn, 1) := by decide +kernel
theorem dX1_compose_0 : decode cX1_compose 0 = .ok (.iload_n 1, 1) := by decide +kernel
theorem dX1_compose_1 : decode cX1_compose 1 = .ok (.ifCond .lt 9, 3) := by decide +kernel
theorem dX1_compose_4 : decode cX1_compose 4 = .ok (.iload_n 1, 1) := by decide +kernel
theorem dX1_compose_5 : decode cX1_compose 5 = .ok (.bipush 17, 2) := by decide +kernel
theorem dX1_compose_7 : decode cX1_compose 7 = .ok (.if_icmp .lt 4, 3) := by decide +kernel
theorem dX1_compose_10 : decode cX1_compose 10 = .ok (.return_, 1) := by decide +kernel
theorem dX1_compose_11 : decode cX1_compose 11 = .ok (.aload_n 2, 1) := by decide +kernel
theorem dX1_compose_12 : decode cX1_compose 12 = .ok (.invokevirtual 60, 3) := by decide +kernel
theorem dX1_compose_15 : decode cX1_compose 15 = .ok (.istore 5, 2) := by decide +kernel
theorem dX1_compose_17 : decode cX1_compose 17 = .ok (.iload 4, 2) := by decide +kernel
theorem dX1_compose_19 : decode cX1_compose 19 = .ok (.iconst (-1), 1) := by decide +kernel
theorem dX1_compose_20 : decode cX1_compose 20 = .ok (.if_icmp .eq 19, 3) := by decide +kernel
theorem dX1_compose_23 : decode cX1_compose 23 = .ok (.aload_n 0, 1) := by decide +kernel
theorem dX1_compose_24 : decode cX1_compose 24 = .ok (.getfield 34, 3) := by decide +kernel
theorem dX1_compose_27 : decode cX1_compose 27 = .ok (.iload 4, 2) := by decide +kernel
theorem dX1_compose_29 : decode cX1_compose 29 = .ok (.invokestatic 52, 3) := by decide +kernel
theorem dX1_compose_32 : decode cX1_compose 32 = .ok (.ifCond .eq 7, 3) := by decide +kernel
theorem dX1_compose_35 : decode cX1_compose 35 = .ok (.iconst 1, 1) := by decide +kernel
theorem dX1_compose_36 : decode cX1_compose 36 = .ok (.goto 4, 3) := by decide +kernel
theorem dX1_compose_39 : decode cX1_compose 39 = .ok (.iconst 0, 1) := by decide +kernel
theorem dX1_compose_40 : decode cX1_compose 40 = .ok (.istore 6, 2) := by decide +kernel
theorem dX1_compose_42 : decode cX1_compose 42 = .ok (.aload_n 0, 1) := by decide +kernel
theorem dX1_compose_43 : decode cX1_compose 43 = .ok (.getfield 11, 3) := by decide +kernel
theorem dX1_compose_46 : decode cX1_compose 46 = .ok (.iload_n 1, 1) := by decide +kernel
theorem dX1_compose_47 : decode cX1_compose 47 = .ok (.iconst 0, 1) := by decide +kernel
theorem dX1_compose_48 : decode cX1_compose 48 = .ok (.iastore, 1) := by decide +kernel
theorem dX1_compose_49 : decode cX1_compose 49 = .ok (.iload_n 3, 1) := by decide +kernel
theorem dX1_compose_50 : decode cX1_compose 50 = .ok (.iconst (-1), 1) := by decide +kernel
theorem dX1_compose_51 : decode cX1_compose 51 = .ok (.if_icmp .ne 18, 3) := by decide +kernel
theorem dX1_compose_54 : decode cX1_compose 54 = .ok (.aload_n 0, 1) := by decide +kernel
theorem dX1_compose_55 : decode cX1_compose 55 = .ok (.iload_n 1, 1) := by decide +kernel
theorem dX1_compose_56 : decode cX1_compose 56 = .ok (.aload_n 2, 1) := by decide +kernel
theorem dX1_compose_57 : decode cX1_compose 57 = .ok (.iload_n 1, 1) := by decide +kernel
theorem dX1_compose_58 : decode cX1_compose 58 = .ok (.iconst 1, 1) := by decide +kernel
theorem dX1_compose_59 : decode cX1_compose 59 = .ok (.invokevirtual 37, 3) := by decide +kernel
theorem dX1_compose_62 : decode cX1_compose 62 = .ok (.iload_n 1, 1) := by decide +kernel
theorem dX1_compose_63 : decode cX1_compose 63 = .ok (.invokevirtual 63, 3) := by decide +kernel
theorem dX1_compose_66 : decode cX1_compose 66 = .ok (.goto 20, 3) := by decide +kernel
theorem dX1_compose_69 : decode cX1_compose 69 = .ok (.aload_n 0, 1) := by decide +kernel
theorem dX1_compose_70 : decode cX1_compose 70 = .ok (.iload_n 1, 1) := by decide +kernel
theorem dX1_compose_71 : decode cX1_compose 71 = .ok (.aload_n 0, 1) := by decide +kernel
theorem dX1_compose_72 : decode cX1_compose 72 = .ok (.iload_n 3, 1) := by decide +kernel
theorem dX1_compose_73 : decode cX1_compose 73 = .ok (.iconst 0, 1) := by decide +kernel
theorem dX1_compose_74 : decode cX1_compose 74 = .ok (.invokevirtual 67, 3) := by decide +kernel
theorem dX1_compose_77 : decode cX1_compose 77 = .ok (.aload_n 0, 1) := by decide +kernel
theorem dX1_compose_78 : decode cX1_compose 78 = .ok (.iload_n 3, 1) := by decide +kernel
theorem dX1_compose_79 : decode cX1_compose 79 = .ok (.iconst 0, 1) := by decide +kernel
theorem dX1_compose_80 : decode cX1_compose 80 = .ok (.invokevirtual 70, 3) := by decide +kernel
theorem dX1_compose_83 : decode cX1_compose 83 = .ok (.invokevirtual 63, 3) := by decide +kernel
theorem dX1_compose_86 : decode cX1_compose 86 = .ok (.iload 6, 2) := by decide +kernel
theorem dX1_compose_88 : decode cX1_compose 88 = .ok (.ifCond .eq 22, 3) := by decide +kernel
theorem dX1_compose_91 : decode cX1_compose 91 = .ok (.iload 5, 2) := by decide +kernel
theorem dX1_compose_93 : decode cX1_compose 93 = .ok (.iconst 2, 1) := by decide +kernel
theorem dX1_compose_94 : decode cX1_compose 94 = .ok (.if_icmp .ne 16, 3) := by decide +kernel
theorem dX1_compose_97 : decode cX1_compose 97 = .ok (.aload_n 0, 1) := by decide +kernel
theorem dX1_compose_98 : decode cX1_compose 98 = .ok (.iload_n 1, 1) := by decide +kernel
theorem dX1_compose_99 : decode cX1_compose 99 = .ok (.iload 4, 2) := by decide +kernel
theorem dX1_compose_101 : decode cX1_compose 101 = .ok (.aload_n 0, 1) := by decide +kernel
theorem dX1_compose_102 : decode cX1_compose 102 = .ok (.iload 4, 2) := by decide +kernel
theorem dX1_compose_104 : decode cX1_compose 104 = .ok (.invokevirtual 56, 3) := by decide +kernel
theorem dX1_compose_107 : decode cX1_compose 107 = .ok (.invokevirtual 73, 3) := by decide +kernel
theorem dX1_compose_110 : decode cX1_compose 110 = .ok (.aload_n 0, 1) := by decide +kernel
theorem dX1_compose_111 : decode cX1_compose 111 = .ok (.iload_n 1, 1) := by decide +kernel
theorem dX1_compose_112 : decode cX1_compose 112 = .ok (.iload_n 3, 1) := by decide +kernel
theorem dX1_compose_113 : decode cX1_compose 113 = .ok (.aload_n 0, 1) := by decide +kernel
theorem dX1_compose_114 : decode cX1_compose 114 = .ok (.iload_n 3, 1) := by decide +kernel
theorem dX1_compose_115 : decode cX1_compose 115 = .ok (.invokevirtual 56, 3) := by decide +kernel
theorem dX1_compose_118 : decode cX1_compose 118 = .ok (.invokevirtual 73, 3) := by decide +kernel
theorem dX1_compose_121 : decode cX1_compose 121 = .ok (.iload 6, 2) := by decide +kernel
theorem dX1_compose_123 : decode cX1_compose 123 = .ok (.ifCond .eq 31, 3) := by decide +kernel
theorem dX1_compose_126 : decode cX1_compose 126 = .ok (.iload 5, 2) := by decide +kernel
theorem dX1_compose_128 : decode cX1_compose 128 = .ok (.iconst 2, 1) := by decide +kernel
theorem dX1_compose_129 : decode cX1_compose 129 = .ok (.if_icmp .eq 25, 3) := by decide +kernel
theorem dX1_compose_132 : decode cX1_compose 132 = .ok (.aload_n 0, 1) := by decide +kernel
theorem dX1_compose_133 : decode cX1_compose 133 = .ok (.iload_n 1, 1) := by decide +kernel
theorem dX1_compose_134 : decode cX1_compose 134 = .ok (.iload 4, 2) := by decide +kernel
theorem dX1_compose_136 : decode cX1_compose 136 = .ok (.iload 5, 2) := by decide +kernel
theorem dX1_compose_138 : decode cX1_compose 138 = .ok (.ifCond .ne 12, 3) := by decide +kernel
theorem dX1_compose_141 : decode cX1_compose 141 = .ok (.aload_n 0, 1) := by decide +kernel
theorem dX1_compose_142 : decode cX1_compose 142 = .ok (.iload 4, 2) := by decide +kernel
theorem dX1_compose_144 : decode cX1_compose 144 = .ok (.invokevirtual 56, 3) := by decide +kernel
theorem dX1_compose_147 : decode cX1_compose 147 = .ok (.goto 4, 3) := by decide +kernel
theorem dX1_compose_150 : decode cX1_compose 150 = .ok (.iconst 1, 1) := by decide +kernel
theorem dX1_compose_151 : decode cX1_compose 151 = .ok (.invokevirtual 73, 3) := by decide +kernel
theorem dX1_compose_154 : decode cX1_compose 154 = .ok (.return_, 1) := by decide +kernel
theorem dX1_takeFrom_0 : decode cX1_takeFrom 0 = .ok (.iconst 0, 1) := by decide +kernel
theorem dX1_takeFrom_1 : decode cX1_takeFrom 1 = .ok (.istore 4, 2) := by decide +kernel
theorem dX1_takeFrom_3 : decode cX1_takeFrom 3 = .ok (.iload 4, 2) := by decide +kernel
theorem dX1_takeFrom_5 : decode cX1_takeFrom 5 = .ok (.iload_n 3, 1) := by decide +kernel
theorem dX1_takeFrom_6 : decode cX1_takeFrom 6 = .ok (.if_icmp .ge 28, 3) := by decide +kernel
theorem dX1_takeFrom_9 : decode cX1_takeFrom 9 = .ok (.aload_n 0, 1) := by decide +kernel
theorem dX1_takeFrom_10 : decode cX1_takeFrom 10 = .ok (.iload_n 1, 1) := by decide +kernel
theorem dX1_takeFrom_11 : decode cX1_takeFrom 11 = .ok (.aload_n 0, 1) := by decide +kernel
theorem dX1_takeFrom_12 : decode cX1_takeFrom 12 = .ok (.iload_n 2, 1) := by decide +kernel
theorem dX1_takeFrom_13 : decode cX1_takeFrom 13 = .ok (.iload 4, 2) := by decide +kernel
theorem dX1_takeFrom_15 : decode cX1_takeFrom 15 = .ok (.invokevirtual 67, 3) := by decide +kernel
theorem dX1_takeFrom_18 : decode cX1_takeFrom 18 = .ok (.aload_n 0, 1) := by decide +kernel
theorem dX1_takeFrom_19 : decode cX1_takeFrom 19 = .ok (.iload_n 2, 1) := by decide +kernel
theorem dX1_takeFrom_20 : decode cX1_takeFrom 20 = .ok (.iload 4, 2) := by decide +kernel
theorem dX1_takeFrom_22 : decode cX1_takeFrom 22 = .ok (.invokevirtual 70, 3) := by decide +kernel
theorem dX1_takeFrom_25 : decode cX1_takeFrom 25 = .ok (.invokevirtual 63, 3) := by decide +kernel
theorem dX1_takeFrom_28 : decode cX1_takeFrom 28 = .ok (.iinc 4 1, 3) := by decide +kernel
theorem dX1_takeFrom_31 : decode cX1_takeFrom 31 = .ok (.goto (-28), 3) := by decide +kernel
theorem dX1_takeFrom_34 : decode cX1_takeFrom 34 = .ok (.return_, 1) := by decide +kernel
theorem dX1_take_0 : decode cX1_take 0 = .ok (.iload_n 1, 1) := by decide +kernel
theorem dX1_take_1 : decode cX1_take 1 = .ok (.ifCond .lt 20, 3) := by decide +kernel
theorem dX1_take_4 : decode cX1_take 4 = .ok (.iload_n 1, 1) := by decide +kernel
theorem dX1_take_5 : decode cX1_take 5 = .ok (.bipush 17, 2) := by decide +kernel
theorem dX1_take_7 : decode cX1_take 7 = .ok (.if_icmp .ge 14, 3) := by decide +kernel
theorem dX1_take_10 : decode cX1_take 10 = .ok (.aload_n 0, 1) := by decide +kernel
theorem dX1_take_11 : decode cX1_take 11 = .ok (.getfield 11, 3) := by decide +kernel
theorem dX1_take_14 : decode cX1_take 14 = .ok (.iload_n 1, 1) := by decide +kernel
theorem dX1_take_15 : decode cX1_take 15 = .ok (.iaload, 1) := by decide +kernel
theorem dX1_take_16 : decode cX1_take 16 = .ok (.bipush 10, 2) := by decide +kernel
theorem dX1_take_18 : decode cX1_take 18 = .ok (.if_icmp .lt 4, 3) := by decide +kernel
theorem dX1_take_21 : decode cX1_take 21 = .ok (.return_, 1) := by decide +kernel
theorem dX1_take_22 : decode cX1_take 22 = .ok (.iload_n 1, 1) := by decide +kernel
theorem dX1_take_23 : decode cX1_take 23 = .ok (.bipush 10, 2) := by decide +kernel
theorem dX1_take_25 : decode cX1_take 25 = .ok (.imul, 1) := by decide +kernel
theorem dX1_take_26 : decode cX1_take 26 = .ok (.istore 4, 2) := by decide +kernel
theorem dX1_take_28 : decode cX1_take 28 = .ok (.iload 4, 2) := by decide +kernel
theorem dX1_take_30 : decode cX1_take 30 = .ok (.aload_n 0, 1) := by decide +kernel
theorem dX1_take_31 : decode cX1_take 31 = .ok (.getfield 11, 3) := by decide +kernel
theorem dX1_take_34 : decode cX1_take 34 = .ok (.iload_n 1, 1) := by decide +kernel
theorem dX1_take_35 : decode cX1_take 35 = .ok (.iaload, 1) := by decide +kernel
theorem dX1_take_36 : decode cX1_take 36 = .ok (.iadd, 1) := by decide +kernel
theorem dX1_take_37 : decode cX1_take 37 = .ok (.istore 5, 2) := by decide +kernel
theorem dX1_take_39 : decode cX1_take 39 = .ok (.iload 4, 2) := by decide +kernel
theorem dX1_take_41 : decode cX1_take 41 = .ok (.istore 6, 2) := by decide +kernel
theorem dX1_take_43 : decode cX1_take 43 = .ok (.iload 6, 2) := by decide +kernel
theorem dX1_take_45 : decode cX1_take 45 = .ok (.iload 5, 2) := by decide +kernel
theorem dX1_take_47 : decode cX1_take 47 = .ok (.if_icmp .ge 21, 3) := by decide +kernel
theorem dX1_take_50 : decode cX1_take 50 = .ok (.aload_n 0, 1) := by decide +kernel
theorem dX1_take_51 : decode cX1_take 51 = .ok (.getfield 15, 3) := by decide +kernel
theorem dX1_take_54 : decode cX1_take 54 = .ok (.iload 6, 2) := by decide +kernel
theorem dX1_take_56 : decode cX1_take 56 = .ok (.iaload, 1) := by decide +kernel
theorem dX1_take_57 : decode cX1_take 57 = .ok (.iload_n 2, 1) := by decide +kernel
theorem dX1_take_58 : decode cX1_take 58 = .ok (.if_icmp .ne 4, 3) := by decide +kernel
theorem dX1_take_61 : decode cX1_take 61 = .ok (.return_, 1) := by decide +kernel
theorem dX1_take_62 : decode cX1_take 62 = .ok (.iinc 6 1, 3) := by decide +kernel
theorem dX1_take_65 : decode cX1_take 65 = .ok (.goto (-22), 3) := by decide +kernel
theorem dX1_take_68 : decode cX1_take 68 = .ok (.aload_n 0, 1) := by decide +kernel
theorem dX1_take_69 : decode cX1_take 69 = .ok (.getfield 15, 3) := by decide +kernel
theorem dX1_take_72 : decode cX1_take 72 = .ok (.iload 5, 2) := by decide +kernel
theorem dX1_take_74 : decode cX1_take 74 = .ok (.iload_n 2, 1) := by decide +kernel
theorem dX1_take_75 : decode cX1_take 75 = .ok (.iastore, 1) := by decide +kernel
theorem dX1_take_76 : decode cX1_take 76 = .ok (.aload_n 0, 1) := by decide +kernel
theorem dX1_take_77 : decode cX1_take 77 = .ok (.getfield 18, 3) := by decide +kernel
theorem dX1_take_80 : decode cX1_take 80 = .ok (.iload 5, 2) := by decide +kernel
theorem dX1_take_82 : decode cX1_take 82 = .ok (.iload_n 3, 1) := by decide +kernel
theorem dX1_take_83 : decode cX1_take 83 = .ok (.iastore, 1) := by decide +kernel
theorem dX1_take_84 : decode cX1_take 84 = .ok (.aload_n 0, 1) := by decide +kernel
theorem dX1_take_85 : decode cX1_take 85 = .ok (.getfield 11, 3) := by decide +kernel
theorem dX1_take_88 : decode cX1_take 88 = .ok (.iload_n 1, 1) := by decide +kernel
theorem dX1_take_89 : decode cX1_take 89 = .ok (.dup2, 1) := by decide +kernel
theorem dX1_take_90 : decode cX1_take 90 = .ok (.iaload, 1) := by decide +kernel
theorem dX1_take_91 : decode cX1_take 91 = .ok (.iconst 1, 1) := by decide +kernel
theorem dX1_take_92 : decode cX1_take 92 = .ok (.iadd, 1) := by decide +kernel
theorem dX1_take_93 : decode cX1_take 93 = .ok (.iastore, 1) := by decide +kernel
theorem dX1_take_94 : decode cX1_take 94 = .ok (.return_, 1) := by decide +kernel
theorem dX1_sizeOf_0 : decode cX1_sizeOf 0 = .ok (.iload_n 1, 1) := by decide +kernel
theorem dX1_sizeOf_1 : decode cX1_sizeOf 1 = .ok (.ifCond .lt 18, 3) := by decide +kernel
theorem dX1_sizeOf_4 : decode cX1_sizeOf 4 = .ok (.iload_n 1, 1) := by decide +kernel
theorem dX1_sizeOf_5 : decode cX1_sizeOf 5 = .ok (.bipush 17, 2) := by decide +kernel
theorem dX1_sizeOf_7 : decode cX1_sizeOf 7 = .ok (.if_icmp .ge 12, 3) := by decide +kernel
theorem dX1_sizeOf_10 : decode cX1_sizeOf 10 = .ok (.aload_n 0, 1) := by decide +kernel
theorem dX1_sizeOf_11 : decode cX1_sizeOf 11 = .ok (.getfield 11, 3) := by decide +kernel
theorem dX1_sizeOf_14 : decode cX1_sizeOf 14 = .ok (.iload_n 1, 1) := by decide +kernel
theorem dX1_sizeOf_15 : decode cX1_sizeOf 15 = .ok (.iaload, 1) := by decide +kernel
theorem dX1_sizeOf_16 : decode cX1_sizeOf 16 = .ok (.goto 4, 3) := by decide +kernel
theorem dX1_sizeOf_19 : decode cX1_sizeOf 19 = .ok (.iconst 0, 1) := by decide +kernel
theorem dX1_sizeOf_20 : decode cX1_sizeOf 20 = .ok (.ireturn, 1) := by decide +kernel
theorem dX1_armsAt_0 : decode cX1_armsAt 0 = .ok (.iload_n 2, 1) := by decide +kernel
theorem dX1_armsAt_1 : decode cX1_armsAt 1 = .ok (.ifCond .lt 26, 3) := by decide +kernel
theorem dX1_armsAt_4 : decode cX1_armsAt 4 = .ok (.iload_n 2, 1) := by decide +kernel
theorem dX1_armsAt_5 : decode cX1_armsAt 5 = .ok (.aload_n 0, 1) := by decide +kernel
theorem dX1_armsAt_6 : decode cX1_armsAt 6 = .ok (.iload_n 1, 1) := by decide +kernel
theorem dX1_armsAt_7 : decode cX1_armsAt 7 = .ok (.invokevirtual 56, 3) := by decide +kernel
theorem dX1_armsAt_10 : decode cX1_armsAt 10 = .ok (.if_icmp .ge 17, 3) := by decide +kernel
theorem dX1_armsAt_13 : decode cX1_armsAt 13 = .ok (.aload_n 0, 1) := by decide +kernel
theorem dX1_armsAt_14 : decode cX1_armsAt 14 = .ok (.getfield 15, 3) := by decide +kernel
theorem dX1_armsAt_17 : decode cX1_armsAt 17 = .ok (.iload_n 1, 1) := by decide +kernel
theorem dX1_armsAt_18 : decode cX1_armsAt 18 = .ok (.bipush 10, 2) := by decide +kernel
theorem dX1_armsAt_20 : decode cX1_armsAt 20 = .ok (.imul, 1) := by decide +kernel
theorem dX1_armsAt_21 : decode cX1_armsAt 21 = .ok (.iload_n 2, 1) := by decide +kernel
theorem dX1_armsAt_22 : decode cX1_armsAt 22 = .ok (.iadd, 1) := by decide +kernel
theorem dX1_armsAt_23 : decode cX1_armsAt 23 = .ok (.iaload, 1) := by decide +kernel
theorem dX1_armsAt_24 : decode cX1_armsAt 24 = .ok (.goto 4, 3) := by decide +kernel
theorem dX1_armsAt_27 : decode cX1_armsAt 27 = .ok (.iconst (-1), 1) := by decide +kernel
theorem dX1_armsAt_28 : decode cX1_armsAt 28 = .ok (.ireturn, 1) := by decide +kernel
theorem dX1_throughAt_0 : decode cX1_throughAt 0 = .ok (.iload_n 2, 1) := by decide +kernel
theorem dX1_throughAt_1 : decode cX1_throughAt 1 = .ok (.ifCond .lt 26, 3) := by decide +kernel
theorem dX1_throughAt_4 : decode cX1_throughAt 4 = .ok (.iload_n 2, 1) := by decide +kernel
theorem dX1_throughAt_5 : decode cX1_throughAt 5 = .ok (.aload_n 0, 1) := by decide +kernel
theorem dX1_throughAt_6 : decode cX1_throughAt 6 = .ok (.iload_n 1, 1) := by decide +kernel
theorem dX1_throughAt_7 : decode cX1_throughAt 7 = .ok (.invokevirtual 56, 3) := by decide +kernel
theorem dX1_throughAt_10 : decode cX1_throughAt 10 = .ok (.if_icmp .ge 17, 3) := by decide +kernel
theorem dX1_throughAt_13 : decode cX1_throughAt 13 = .ok (.aload_n 0, 1) := by decide +kernel
theorem dX1_throughAt_14 : decode cX1_throughAt 14 = .ok (.getfield 18, 3) := by decide +kernel
theorem dX1_throughAt_17 : decode cX1_throughAt 17 = .ok (.iload_n 1, 1) := by decide +kernel
theorem dX1_throughAt_18 : decode cX1_throughAt 18 = .ok (.bipush 10, 2) := by decide +kernel
theorem dX1_throughAt_20 : decode cX1_throughAt 20 = .ok (.imul, 1) := by decide +kernel
theorem dX1_throughAt_21 : decode cX1_throughAt 21 = .ok (.iload_n 2, 1) := by decide +kernel
theorem dX1_throughAt_22 : decode cX1_throughAt 22 = .ok (.iadd, 1) := by decide +kernel
theorem dX1_throughAt_23 : decode cX1_throughAt 23 = .ok (.iaload, 1) := by decide +kernel
theorem dX1_throughAt_24 : decode cX1_throughAt 24 = .ok (.goto 4, 3) := by decide +kernel
theorem dX1_throughAt_27 : decode cX1_throughAt 27 = .ok (.iconst (-1), 1) := by decide +kernel
theorem dX1_throughAt_28 : decode cX1_throughAt 28 = .ok (.ireturn, 1) := by decide +kernel
theorem dX1_isSame_0 : decode cX1_isSame 0 = .ok (.aload_n 0, 1) := by decide +kernel
theorem dX1_isSame_1 : decode cX1_isSame 1 = .ok (.iload_n 1, 1) := by decide +kernel
theorem dX1_isSame_2 : decode cX1_isSame 2 = .ok (.invokevirtual 56, 3) := by decide +kernel
theorem dX1_isSame_5 : decode cX1_isSame 5 = .ok (.aload_n 0, 1) := by decide +kernel
theorem dX1_isSame_6 : decode cX1_isSame 6 = .ok (.iload_n 2, 1) := by decide +kernel
theorem dX1_isSame_7 : decode cX1_isSame 7 = .ok (.invokevirtual 56, 3) := by decide +kernel
theorem dX1_isSame_10 : decode cX1_isSame 10 = .ok (.if_icmp .eq 5, 3) := by decide +kernel
theorem dX1_isSame_13 : decode cX1_isSame 13 = .ok (.iconst 0, 1) := by decide +kernel
theorem dX1_isSame_14 : decode cX1_isSame 14 = .ok (.ireturn, 1) := by decide +kernel
theorem dX1_isSame_15 : decode cX1_isSame 15 = .ok (.iconst 0, 1) := by decide +kernel
theorem dX1_isSame_16 : decode cX1_isSame 16 = .ok (.istore_n 3, 1) := by decide +kernel
theorem dX1_isSame_17 : decode cX1_isSame 17 = .ok (.iload_n 3, 1) := by decide +kernel
theorem dX1_isSame_18 : decode cX1_isSame 18 = .ok (.aload_n 0, 1) := by decide +kernel
theorem dX1_isSame_19 : decode cX1_isSame 19 = .ok (.iload_n 1, 1) := by decide +kernel
theorem dX1_isSame_20 : decode cX1_isSame 20 = .ok (.invokevirtual 56, 3) := by decide +kernel
theorem dX1_isSame_23 : decode cX1_isSame 23 = .ok (.if_icmp .ge 26, 3) := by decide +kernel
theorem dX1_isSame_26 : decode cX1_isSame 26 = .ok (.aload_n 0, 1) := by decide +kernel
theorem dX1_isSame_27 : decode cX1_isSame 27 = .ok (.iload_n 1, 1) := by decide +kernel
theorem dX1_isSame_28 : decode cX1_isSame 28 = .ok (.iload_n 3, 1) := by decide +kernel
theorem dX1_isSame_29 : decode cX1_isSame 29 = .ok (.invokevirtual 67, 3) := by decide +kernel
theorem dX1_isSame_32 : decode cX1_isSame 32 = .ok (.aload_n 0, 1) := by decide +kernel
theorem dX1_isSame_33 : decode cX1_isSame 33 = .ok (.iload_n 2, 1) := by decide +kernel
theorem dX1_isSame_34 : decode cX1_isSame 34 = .ok (.iload_n 3, 1) := by decide +kernel
theorem dX1_isSame_35 : decode cX1_isSame 35 = .ok (.invokevirtual 67, 3) := by decide +kernel
theorem dX1_isSame_38 : decode cX1_isSame 38 = .ok (.if_icmp .eq 5, 3) := by decide +kernel
theorem dX1_isSame_41 : decode cX1_isSame 41 = .ok (.iconst 0, 1) := by decide +kernel
theorem dX1_isSame_42 : decode cX1_isSame 42 = .ok (.ireturn, 1) := by decide +kernel
theorem dX1_isSame_43 : decode cX1_isSame 43 = .ok (.iinc 3 1, 3) := by decide +kernel
theorem dX1_isSame_46 : decode cX1_isSame 46 = .ok (.goto (-29), 3) := by decide +kernel
theorem dX1_isSame_49 : decode cX1_isSame 49 = .ok (.iconst 1, 1) := by decide +kernel
theorem dX1_isSame_50 : decode cX1_isSame 50 = .ok (.ireturn, 1) := by decide +kernel
theorem dX1_sameAs_0 : decode cX1_sameAs 0 = .ok (.iconst 0, 1) := by decide +kernel
theorem dX1_sameAs_1 : decode cX1_sameAs 1 = .ok (.istore_n 2, 1) := by decide +kernel
theorem dX1_sameAs_2 : decode cX1_sameAs 2 = .ok (.iconst 0, 1) := by decide +kernel
theorem dX1_sameAs_3 : decode cX1_sameAs 3 = .ok (.istore_n 3, 1) := by decide +kernel
theorem dX1_sameAs_4 : decode cX1_sameAs 4 = .ok (.iload_n 3, 1) := by decide +kernel
theorem dX1_sameAs_5 : decode cX1_sameAs 5 = .ok (.aload_n 0, 1) := by decide +kernel
theorem dX1_sameAs_6 : decode cX1_sameAs 6 = .ok (.getfield 27, 3) := by decide +kernel
theorem dX1_sameAs_9 : decode cX1_sameAs 9 = .ok (.if_icmp .ge 24, 3) := by decide +kernel
theorem dX1_sameAs_12 : decode cX1_sameAs 12 = .ok (.aload_n 0, 1) := by decide +kernel
theorem dX1_sameAs_13 : decode cX1_sameAs 13 = .ok (.iload_n 1, 1) := by decide +kernel
theorem dX1_sameAs_14 : decode cX1_sameAs 14 = .ok (.iload_n 3, 1) := by decide +kernel
theorem dX1_sameAs_15 : decode cX1_sameAs 15 = .ok (.invokevirtual 76, 3) := by decide +kernel
theorem dX1_sameAs_18 : decode cX1_sameAs 18 = .ok (.ifCond .eq 9, 3) := by decide +kernel
theorem dX1_sameAs_21 : decode cX1_sameAs 21 = .ok (.iload_n 2, 1) := by decide +kernel
theorem dX1_sameAs_22 : decode cX1_sameAs 22 = .ok (.iconst 1, 1) := by decide +kernel
theorem dX1_sameAs_23 : decode cX1_sameAs 23 = .ok (.iload_n 3, 1) := by decide +kernel
theorem dX1_sameAs_24 : decode cX1_sameAs 24 = .ok (.ishl, 1) := by decide +kernel
theorem dX1_sameAs_25 : decode cX1_sameAs 25 = .ok (.ior, 1) := by decide +kernel
theorem dX1_sameAs_26 : decode cX1_sameAs 26 = .ok (.istore_n 2, 1) := by decide +kernel
theorem dX1_sameAs_27 : decode cX1_sameAs 27 = .ok (.iinc 3 1, 3) := by decide +kernel
theorem dX1_sameAs_30 : decode cX1_sameAs 30 = .ok (.goto (-26), 3) := by decide +kernel
theorem dX1_sameAs_33 : decode cX1_sameAs 33 = .ok (.iload_n 2, 1) := by decide +kernel
theorem dX1_sameAs_34 : decode cX1_sameAs 34 = .ok (.ireturn, 1) := by decide +kernel
theorem dX1_unlikeCoats_0 : decode cX1_unlikeCoats 0 = .ok (.iconst 0, 1) := by decide +kernel
theorem dX1_unlikeCoats_1 : decode cX1_unlikeCoats 1 = .ok (.istore_n 1, 1) := by decide +kernel
theorem dX1_unlikeCoats_2 : decode cX1_unlikeCoats 2 = .ok (.iconst 0, 1) := by decide +kernel
theorem dX1_unlikeCoats_3 : decode cX1_unlikeCoats 3 = .ok (.istore_n 2, 1) := by decide +kernel
theorem dX1_unlikeCoats_4 : decode cX1_unlikeCoats 4 = .ok (.iconst 0, 1) := by decide +kernel
theorem dX1_unlikeCoats_5 : decode cX1_unlikeCoats 5 = .ok (.istore_n 3, 1) := by decide +kernel
theorem dX1_unlikeCoats_6 : decode cX1_unlikeCoats 6 = .ok (.iload_n 3, 1) := by decide +kernel
theorem dX1_unlikeCoats_7 : decode cX1_unlikeCoats 7 = .ok (.aload_n 0, 1) := by decide +kernel
theorem dX1_unlikeCoats_8 : decode cX1_unlikeCoats 8 = .ok (.getfield 27, 3) := by decide +kernel
theorem dX1_unlikeCoats_11 : decode cX1_unlikeCoats 11 = .ok (.if_icmp .ge 28, 3) := by decide +kernel
theorem dX1_unlikeCoats_14 : decode cX1_unlikeCoats 14 = .ok (.iload_n 1, 1) := by decide +kernel
theorem dX1_unlikeCoats_15 : decode cX1_unlikeCoats 15 = .ok (.iload_n 3, 1) := by decide +kernel
theorem dX1_unlikeCoats_16 : decode cX1_unlikeCoats 16 = .ok (.invokestatic 52, 3) := by decide +kernel
theorem dX1_unlikeCoats_19 : decode cX1_unlikeCoats 19 = .ok (.ifCond .ne 14, 3) := by decide +kernel
theorem dX1_unlikeCoats_22 : decode cX1_unlikeCoats 22 = .ok (.iinc 2 1, 3) := by decide +kernel
theorem dX1_unlikeCoats_25 : decode cX1_unlikeCoats 25 = .ok (.iload_n 1, 1) := by decide +kernel
theorem dX1_unlikeCoats_26 : decode cX1_unlikeCoats 26 = .ok (.aload_n 0, 1) := by decide +kernel
theorem dX1_unlikeCoats_27 : decode cX1_unlikeCoats 27 = .ok (.iload_n 3, 1) := by decide +kernel
theorem dX1_unlikeCoats_28 : decode cX1_unlikeCoats 28 = .ok (.invokevirtual 79, 3) := by decide +kernel
theorem dX1_unlikeCoats_31 : decode cX1_unlikeCoats 31 = .ok (.ior, 1) := by decide +kernel
theorem dX1_unlikeCoats_32 : decode cX1_unlikeCoats 32 = .ok (.istore_n 1, 1) := by decide +kernel
theorem dX1_unlikeCoats_33 : decode cX1_unlikeCoats 33 = .ok (.iinc 3 1, 3) := by decide +kernel
theorem dX1_unlikeCoats_36 : decode cX1_unlikeCoats 36 = .ok (.goto (-30), 3) := by decide +kernel
theorem dX1_unlikeCoats_39 : decode cX1_unlikeCoats 39 = .ok (.iload_n 2, 1) := by decide +kernel
theorem dX1_unlikeCoats_40 : decode cX1_unlikeCoats 40 = .ok (.ireturn, 1) := by decide +kernel
theorem dX1_isIn_0 : decode cX1_isIn 0 = .ok (.iload_n 0, 1) := by decide +kernel
theorem dX1_isIn_1 : decode cX1_isIn 1 = .ok (.iload_n 1, 1) := by decide +kernel
theorem dX1_isIn_2 : decode cX1_isIn 2 = .ok (.ishr, 1) := by decide +kernel
theorem dX1_isIn_3 : decode cX1_isIn 3 = .ok (.iconst 1, 1) := by decide +kernel
theorem dX1_isIn_4 : decode cX1_isIn 4 = .ok (.iand, 1) := by decide +kernel
theorem dX1_isIn_5 : decode cX1_isIn 5 = .ok (.iconst 1, 1) := by decide +kernel
theorem dX1_isIn_6 : decode cX1_isIn 6 = .ok (.if_icmp .ne 7, 3) := by decide +kernel
theorem dX1_isIn_9 : decode cX1_isIn 9 = .ok (.iconst 1, 1) := by decide +kernel
theorem dX1_isIn_10 : decode cX1_isIn 10 = .ok (.goto 4, 3) := by decide +kernel
theorem dX1_isIn_13 : decode cX1_isIn 13 = .ok (.iconst 0, 1) := by decide +kernel
theorem dX1_isIn_14 : decode cX1_isIn 14 = .ok (.ireturn, 1) := by decide +kernel
theorem dX2_init_0 : decode cX2_init 0 = .ok (.aload_n 0, 1) := by decide +kernel
theorem dX2_init_1 : decode cX2_init 1 = .ok (.invokespecial 3, 3) := by decide +kernel
theorem dX2_init_4 : decode cX2_init 4 = .ok (.aload_n 0, 1) := by decide +kernel
theorem dX2_init_5 : decode cX2_init 5 = .ok (.iconst 0, 1) := by decide +kernel
theorem dX2_init_6 : decode cX2_init 6 = .ok (.putfield 9, 3) := by decide +kernel
theorem dX2_init_9 : decode cX2_init 9 = .ok (.return_, 1) := by decide +kernel
theorem dX2_draw_0 : decode cX2_draw 0 = .ok (.aload_n 0, 1) := by decide +kernel
theorem dX2_draw_1 : decode cX2_draw 1 = .ok (.aload_n 0, 1) := by decide +kernel
theorem dX2_draw_2 : decode cX2_draw 2 = .ok (.getfield 9, 3) := by decide +kernel
theorem dX2_draw_5 : decode cX2_draw 5 = .ok (.ldc 15, 2) := by decide +kernel
theorem dX2_draw_7 : decode cX2_draw 7 = .ok (.imul, 1) := by decide +kernel
theorem dX2_draw_8 : decode cX2_draw 8 = .ok (.sipush 12345, 3) := by decide +kernel
theorem dX2_draw_11 : decode cX2_draw 11 = .ok (.iadd, 1) := by decide +kernel
theorem dX2_draw_12 : decode cX2_draw 12 = .ok (.ldc 16, 2) := by decide +kernel
theorem dX2_draw_14 : decode cX2_draw 14 = .ok (.iand, 1) := by decide +kernel
theorem dX2_draw_15 : decode cX2_draw 15 = .ok (.putfield 9, 3) := by decide +kernel
theorem dX2_draw_18 : decode cX2_draw 18 = .ok (.iload_n 1, 1) := by decide +kernel
theorem dX2_draw_19 : decode cX2_draw 19 = .ok (.ifCond .le 15, 3) := by decide +kernel
theorem dX2_draw_22 : decode cX2_draw 22 = .ok (.aload_n 0, 1) := by decide +kernel
theorem dX2_draw_23 : decode cX2_draw 23 = .ok (.getfield 9, 3) := by decide +kernel
theorem dX2_draw_26 : decode cX2_draw 26 = .ok (.ldc 17, 2) := by decide +kernel
theorem dX2_draw_28 : decode cX2_draw 28 = .ok (.idiv, 1) := by decide +kernel
theorem dX2_draw_29 : decode cX2_draw 29 = .ok (.iload_n 1, 1) := by decide +kernel
theorem dX2_draw_30 : decode cX2_draw 30 = .ok (.irem, 1) := by decide +kernel
theorem dX2_draw_31 : decode cX2_draw 31 = .ok (.goto 4, 3) := by decide +kernel
theorem dX2_draw_34 : decode cX2_draw 34 = .ok (.iconst 0, 1) := by decide +kernel
theorem dX2_draw_35 : decode cX2_draw 35 = .ok (.ireturn, 1) := by decide +kernel
theorem dX2_addOne_0 : decode cX2_addOne 0 = .ok (.aload_n 0, 1) := by decide +kernel
theorem dX2_addOne_1 : decode cX2_addOne 1 = .ok (.iconst 2, 1) := by decide +kernel
theorem dX2_addOne_2 : decode cX2_addOne 2 = .ok (.invokevirtual 18, 3) := by decide +kernel
theorem dX2_addOne_5 : decode cX2_addOne 5 = .ok (.istore_n 2, 1) := by decide +kernel
theorem dX2_addOne_6 : decode cX2_addOne 6 = .ok (.aload_n 0, 1) := by decide +kernel
theorem dX2_addOne_7 : decode cX2_addOne 7 = .ok (.bipush 10, 2) := by decide +kernel
theorem dX2_addOne_9 : decode cX2_addOne 9 = .ok (.invokevirtual 18, 3) := by decide +kernel
theorem dX2_addOne_12 : decode cX2_addOne 12 = .ok (.istore_n 3, 1) := by decide +kernel
theorem dX2_addOne_13 : decode cX2_addOne 13 = .ok (.aload_n 0, 1) := by decide +kernel
theorem dX2_addOne_14 : decode cX2_addOne 14 = .ok (.aload_n 1, 1) := by decide +kernel
theorem dX2_addOne_15 : decode cX2_addOne 15 = .ok (.invokevirtual 22, 3) := by decide +kernel
theorem dX2_addOne_18 : decode cX2_addOne 18 = .ok (.iconst 1, 1) := by decide +kernel
theorem dX2_addOne_19 : decode cX2_addOne 19 = .ok (.iadd, 1) := by decide +kernel
theorem dX2_addOne_20 : decode cX2_addOne 20 = .ok (.invokevirtual 18, 3) := by decide +kernel
theorem dX2_addOne_23 : decode cX2_addOne 23 = .ok (.iconst 1, 1) := by decide +kernel
theorem dX2_addOne_24 : decode cX2_addOne 24 = .ok (.isub, 1) := by decide +kernel
theorem dX2_addOne_25 : decode cX2_addOne 25 = .ok (.istore 4, 2) := by decide +kernel
theorem dX2_addOne_27 : decode cX2_addOne 27 = .ok (.aload_n 0, 1) := by decide +kernel
theorem dX2_addOne_28 : decode cX2_addOne 28 = .ok (.aload_n 1, 1) := by decide +kernel
theorem dX2_addOne_29 : decode cX2_addOne 29 = .ok (.invokevirtual 22, 3) := by decide +kernel
theorem dX2_addOne_32 : decode cX2_addOne 32 = .ok (.iconst 1, 1) := by decide +kernel
theorem dX2_addOne_33 : decode cX2_addOne 33 = .ok (.iadd, 1) := by decide +kernel
theorem dX2_addOne_34 : decode cX2_addOne 34 = .ok (.invokevirtual 18, 3) := by decide +kernel
theorem dX2_addOne_37 : decode cX2_addOne 37 = .ok (.iconst 1, 1) := by decide +kernel
theorem dX2_addOne_38 : decode cX2_addOne 38 = .ok (.isub, 1) := by decide +kernel
theorem dX2_addOne_39 : decode cX2_addOne 39 = .ok (.istore 5, 2) := by decide +kernel
theorem dX2_addOne_41 : decode cX2_addOne 41 = .ok (.aload_n 1, 1) := by decide +kernel
theorem dX2_addOne_42 : decode cX2_addOne 42 = .ok (.iload_n 2, 1) := by decide +kernel
theorem dX2_addOne_43 : decode cX2_addOne 43 = .ok (.iload_n 3, 1) := by decide +kernel
theorem dX2_addOne_44 : decode cX2_addOne 44 = .ok (.aload_n 1, 1) := by decide +kernel
theorem dX2_addOne_45 : decode cX2_addOne 45 = .ok (.iload 4, 2) := by decide +kernel
theorem dX2_addOne_47 : decode cX2_addOne 47 = .ok (.invokevirtual 28, 3) := by decide +kernel
theorem dX2_addOne_50 : decode cX2_addOne 50 = .ok (.ifCond .eq 8, 3) := by decide +kernel
theorem dX2_addOne_53 : decode cX2_addOne 53 = .ok (.iload 4, 2) := by decide +kernel
theorem dX2_addOne_55 : decode cX2_addOne 55 = .ok (.goto 4, 3) := by decide +kernel
theorem dX2_addOne_58 : decode cX2_addOne 58 = .ok (.iconst (-1), 1) := by decide +kernel
theorem dX2_addOne_59 : decode cX2_addOne 59 = .ok (.aload_n 1, 1) := by decide +kernel
theorem dX2_addOne_60 : decode cX2_addOne 60 = .ok (.iload 5, 2) := by decide +kernel
theorem dX2_addOne_62 : decode cX2_addOne 62 = .ok (.invokevirtual 32, 3) := by decide +kernel
theorem dX2_addOne_65 : decode cX2_addOne 65 = .ok (.ifCond .eq 8, 3) := by decide +kernel
theorem dX2_addOne_68 : decode cX2_addOne 68 = .ok (.iload 5, 2) := by decide +kernel
theorem dX2_addOne_70 : decode cX2_addOne 70 = .ok (.goto 4, 3) := by decide +kernel
theorem dX2_addOne_73 : decode cX2_addOne 73 = .ok (.iconst (-1), 1) := by decide +kernel
theorem dX2_addOne_74 : decode cX2_addOne 74 = .ok (.invokevirtual 35, 3) := by decide +kernel
theorem dX2_addOne_77 : decode cX2_addOne 77 = .ok (.return_, 1) := by decide +kernel
theorem dX3_init_0 : decode cX3_init 0 = .ok (.aload_n 0, 1) := by decide +kernel
theorem dX3_init_1 : decode cX3_init 1 = .ok (.invokespecial 3, 3) := by decide +kernel
theorem dX3_init_4 : decode cX3_init 4 = .ok (.aload_n 0, 1) := by decide +kernel
theorem dX3_init_5 : decode cX3_init 5 = .ok (.new 9, 3) := by decide +kernel
theorem dX3_init_8 : decode cX3_init 8 = .ok (.dup, 1) := by decide +kernel
theorem dX3_init_9 : decode cX3_init 9 = .ok (.iconst 2, 1) := by decide +kernel
theorem dX3_init_10 : decode cX3_init 10 = .ok (.invokespecial 11, 3) := by decide +kernel
theorem dX3_init_13 : decode cX3_init 13 = .ok (.putfield 14, 3) := by decide +kernel
theorem dX3_init_16 : decode cX3_init 16 = .ok (.aload_n 0, 1) := by decide +kernel
theorem dX3_init_17 : decode cX3_init 17 = .ok (.iconst 2, 1) := by decide +kernel
theorem dX3_init_18 : decode cX3_init 18 = .ok (.newarray .int, 2) := by decide +kernel
theorem dX3_init_20 : decode cX3_init 20 = .ok (.putfield 20, 3) := by decide +kernel
theorem dX3_init_23 : decode cX3_init 23 = .ok (.aload_n 0, 1) := by decide +kernel
theorem dX3_init_24 : decode cX3_init 24 = .ok (.iconst 2, 1) := by decide +kernel
theorem dX3_init_25 : decode cX3_init 25 = .ok (.newarray .boolean, 2) := by decide +kernel
theorem dX3_init_27 : decode cX3_init 27 = .ok (.putfield 24, 3) := by decide +kernel
theorem dX3_init_30 : decode cX3_init 30 = .ok (.return_, 1) := by decide +kernel
theorem dX3_isStored_0 : decode cX3_isStored 0 = .ok (.iload_n 1, 1) := by decide +kernel
theorem dX3_isStored_1 : decode cX3_isStored 1 = .ok (.ifCond .lt 21, 3) := by decide +kernel
theorem dX3_isStored_4 : decode cX3_isStored 4 = .ok (.iload_n 1, 1) := by decide +kernel
theorem dX3_isStored_5 : decode cX3_isStored 5 = .ok (.iconst 2, 1) := by decide +kernel
theorem dX3_isStored_6 : decode cX3_isStored 6 = .ok (.if_icmp .ge 16, 3) := by decide +kernel
theorem dX3_isStored_9 : decode cX3_isStored 9 = .ok (.aload_n 0, 1) := by decide +kernel
theorem dX3_isStored_10 : decode cX3_isStored 10 = .ok (.getfield 24, 3) := by decide +kernel
theorem dX3_isStored_13 : decode cX3_isStored 13 = .ok (.iload_n 1, 1) := by decide +kernel
theorem dX3_isStored_14 : decode cX3_isStored 14 = .ok (.baload, 1) := by decide +kernel
theorem dX3_isStored_15 : decode cX3_isStored 15 = .ok (.ifCond .eq 7, 3) := by decide +kernel
theorem dX3_isStored_18 : decode cX3_isStored 18 = .ok (.iconst 1, 1) := by decide +kernel
theorem dX3_isStored_19 : decode cX3_isStored 19 = .ok (.goto 4, 3) := by decide +kernel
theorem dX3_isStored_22 : decode cX3_isStored 22 = .ok (.iconst 0, 1) := by decide +kernel
theorem dX3_isStored_23 : decode cX3_isStored 23 = .ok (.ireturn, 1) := by decide +kernel
theorem dX3_store_0 : decode cX3_store 0 = .ok (.iload_n 1, 1) := by decide +kernel
theorem dX3_store_1 : decode cX3_store 1 = .ok (.ifCond .lt 8, 3) := by decide +kernel
theorem dX3_store_4 : decode cX3_store 4 = .ok (.iload_n 1, 1) := by decide +kernel
theorem dX3_store_5 : decode cX3_store 5 = .ok (.iconst 2, 1) := by decide +kernel
theorem dX3_store_6 : decode cX3_store 6 = .ok (.if_icmp .lt 4, 3) := by decide +kernel
theorem dX3_store_9 : decode cX3_store 9 = .ok (.return_, 1) := by decide +kernel
theorem dX3_store_10 : decode cX3_store 10 = .ok (.aload_n 0, 1) := by decide +kernel
theorem dX3_store_11 : decode cX3_store 11 = .ok (.getfield 14, 3) := by decide +kernel
theorem dX3_store_14 : decode cX3_store 14 = .ok (.iload_n 1, 1) := by decide +kernel
theorem dX3_store_15 : decode cX3_store 15 = .ok (.aload_n 2, 1) := by decide +kernel
theorem dX3_store_16 : decode cX3_store 16 = .ok (.invokevirtual 28, 3) := by decide +kernel
theorem dX3_store_19 : decode cX3_store 19 = .ok (.aload_n 0, 1) := by decide +kernel
theorem dX3_store_20 : decode cX3_store 20 = .ok (.getfield 20, 3) := by decide +kernel
theorem dX3_store_23 : decode cX3_store 23 = .ok (.iload_n 1, 1) := by decide +kernel
theorem dX3_store_24 : decode cX3_store 24 = .ok (.aload_n 3, 1) := by decide +kernel
theorem dX3_store_25 : decode cX3_store 25 = .ok (.getfield 32, 3) := by decide +kernel
theorem dX3_store_28 : decode cX3_store 28 = .ok (.iastore, 1) := by decide +kernel
theorem dX3_store_29 : decode cX3_store 29 = .ok (.aload_n 0, 1) := by decide +kernel
theorem dX3_store_30 : decode cX3_store 30 = .ok (.getfield 24, 3) := by decide +kernel
theorem dX3_store_33 : decode cX3_store 33 = .ok (.iload_n 1, 1) := by decide +kernel
theorem dX3_store_34 : decode cX3_store 34 = .ok (.iconst 1, 1) := by decide +kernel
theorem dX3_store_35 : decode cX3_store 35 = .ok (.bastore, 1) := by decide +kernel
theorem dX3_store_36 : decode cX3_store 36 = .ok (.return_, 1) := by decide +kernel
theorem dX3_restore_0 : decode cX3_restore 0 = .ok (.aload_n 0, 1) := by decide +kernel
theorem dX3_restore_1 : decode cX3_restore 1 = .ok (.iload_n 1, 1) := by decide +kernel
theorem dX3_restore_2 : decode cX3_restore 2 = .ok (.invokevirtual 38, 3) := by decide +kernel
theorem dX3_restore_5 : decode cX3_restore 5 = .ok (.ifCond .ne 4, 3) := by decide +kernel
theorem dX3_restore_8 : decode cX3_restore 8 = .ok (.return_, 1) := by decide +kernel
theorem dX3_restore_9 : decode cX3_restore 9 = .ok (.aload_n 0, 1) := by decide +kernel
theorem dX3_restore_10 : decode cX3_restore 10 = .ok (.getfield 14, 3) := by decide +kernel
theorem dX3_restore_13 : decode cX3_restore 13 = .ok (.iload_n 1, 1) := by decide +kernel
theorem dX3_restore_14 : decode cX3_restore 14 = .ok (.aload_n 2, 1) := by decide +kernel
theorem dX3_restore_15 : decode cX3_restore 15 = .ok (.invokevirtual 42, 3) := by decide +kernel
theorem dX3_restore_18 : decode cX3_restore 18 = .ok (.aload_n 3, 1) := by decide +kernel
theorem dX3_restore_19 : decode cX3_restore 19 = .ok (.aload_n 0, 1) := by decide +kernel
theorem dX3_restore_20 : decode cX3_restore 20 = .ok (.getfield 20, 3) := by decide +kernel
theorem dX3_restore_23 : decode cX3_restore 23 = .ok (.iload_n 1, 1) := by decide +kernel
theorem dX3_restore_24 : decode cX3_restore 24 = .ok (.iaload, 1) := by decide +kernel
theorem dX3_restore_25 : decode cX3_restore 25 = .ok (.putfield 32, 3) := by decide +kernel
theorem dX3_restore_28 : decode cX3_restore 28 = .ok (.return_, 1) := by decide +kernel
theorem dX4_init_0 : decode cX4_init 0 = .ok (.aload_n 0, 1) := by decide +kernel
theorem dX4_init_1 : decode cX4_init 1 = .ok (.invokespecial 3, 3) := by decide +kernel
theorem dX4_init_4 : decode cX4_init 4 = .ok (.aload_n 0, 1) := by decide +kernel
theorem dX4_init_5 : decode cX4_init 5 = .ok (.bipush 16, 2) := by decide +kernel
theorem dX4_init_7 : decode cX4_init 7 = .ok (.newarray .int, 2) := by decide +kernel
theorem dX4_init_9 : decode cX4_init 9 = .ok (.putfield 9, 3) := by decide +kernel
theorem dX4_init_12 : decode cX4_init 12 = .ok (.aload_n 0, 1) := by decide +kernel
theorem dX4_init_13 : decode cX4_init 13 = .ok (.bipush 16, 2) := by decide +kernel
theorem dX4_init_15 : decode cX4_init 15 = .ok (.newarray .int, 2) := by decide +kernel
theorem dX4_init_17 : decode cX4_init 17 = .ok (.putfield 15, 3) := by decide +kernel
theorem dX4_init_20 : decode cX4_init 20 = .ok (.aload_n 0, 1) := by decide +kernel
theorem dX4_init_21 : decode cX4_init 21 = .ok (.iconst (-1), 1) := by decide +kernel
theorem dX4_init_22 : decode cX4_init 22 = .ok (.putfield 18, 3) := by decide +kernel
theorem dX4_init_25 : decode cX4_init 25 = .ok (.aload_n 0, 1) := by decide +kernel
theorem dX4_init_26 : decode cX4_init 26 = .ok (.iconst (-1), 1) := by decide +kernel
theorem dX4_init_27 : decode cX4_init 27 = .ok (.putfield 22, 3) := by decide +kernel
theorem dX4_init_30 : decode cX4_init 30 = .ok (.return_, 1) := by decide +kernel
theorem dX4_seek_0 : decode cX4_seek 0 = .ok (.aload_n 1, 1) := by decide +kernel
theorem dX4_seek_1 : decode cX4_seek 1 = .ok (.iload_n 2, 1) := by decide +kernel
theorem dX4_seek_2 : decode cX4_seek 2 = .ok (.aload_n 0, 1) := by decide +kernel
theorem dX4_seek_3 : decode cX4_seek 3 = .ok (.getfield 9, 3) := by decide +kernel
theorem dX4_seek_6 : decode cX4_seek 6 = .ok (.invokestatic 25, 3) := by decide +kernel
theorem dX4_seek_9 : decode cX4_seek 9 = .ok (.aload_n 1, 1) := by decide +kernel
theorem dX4_seek_10 : decode cX4_seek 10 = .ok (.iload_n 3, 1) := by decide +kernel
theorem dX4_seek_11 : decode cX4_seek 11 = .ok (.aload_n 0, 1) := by decide +kernel
theorem dX4_seek_12 : decode cX4_seek 12 = .ok (.getfield 15, 3) := by decide +kernel
theorem dX4_seek_15 : decode cX4_seek 15 = .ok (.invokestatic 25, 3) := by decide +kernel
theorem dX4_seek_18 : decode cX4_seek 18 = .ok (.aload_n 0, 1) := by decide +kernel
theorem dX4_seek_19 : decode cX4_seek 19 = .ok (.iconst (-1), 1) := by decide +kernel
theorem dX4_seek_20 : decode cX4_seek 20 = .ok (.putfield 18, 3) := by decide +kernel
theorem dX4_seek_23 : decode cX4_seek 23 = .ok (.aload_n 0, 1) := by decide +kernel
theorem dX4_seek_24 : decode cX4_seek 24 = .ok (.iconst (-1), 1) := by decide +kernel
theorem dX4_seek_25 : decode cX4_seek 25 = .ok (.putfield 22, 3) := by decide +kernel
theorem dX4_seek_28 : decode cX4_seek 28 = .ok (.iconst 0, 1) := by decide +kernel
theorem dX4_seek_29 : decode cX4_seek 29 = .ok (.istore 4, 2) := by decide +kernel
theorem dX4_seek_31 : decode cX4_seek 31 = .ok (.iload 4, 2) := by decide +kernel
theorem dX4_seek_33 : decode cX4_seek 33 = .ok (.aload_n 1, 1) := by decide +kernel
theorem dX4_seek_34 : decode cX4_seek 34 = .ok (.invokevirtual 29, 3) := by decide +kernel
theorem dX4_seek_37 : decode cX4_seek 37 = .ok (.if_icmp .ge 84, 3) := by decide +kernel
theorem dX4_seek_40 : decode cX4_seek 40 = .ok (.iload 4, 2) := by decide +kernel
theorem dX4_seek_42 : decode cX4_seek 42 = .ok (.bipush 16, 2) := by decide +kernel
theorem dX4_seek_44 : decode cX4_seek 44 = .ok (.if_icmp .ge 77, 3) := by decide +kernel
theorem dX4_seek_47 : decode cX4_seek 47 = .ok (.aload_n 0, 1) := by decide +kernel
theorem dX4_seek_48 : decode cX4_seek 48 = .ok (.getfield 9, 3) := by decide +kernel
theorem dX4_seek_51 : decode cX4_seek 51 = .ok (.iload 4, 2) := by decide +kernel
theorem dX4_seek_53 : decode cX4_seek 53 = .ok (.iaload, 1) := by decide +kernel
theorem dX4_seek_54 : decode cX4_seek 54 = .ok (.aload_n 0, 1) := by decide +kernel
theorem dX4_seek_55 : decode cX4_seek 55 = .ok (.getfield 15, 3) := by decide +kernel
theorem dX4_seek_58 : decode cX4_seek 58 = .ok (.iload 4, 2) := by decide +kernel
theorem dX4_seek_60 : decode cX4_seek 60 = .ok (.iaload, 1) := by decide +kernel
theorem dX4_seek_61 : decode cX4_seek 61 = .ok (.iadd, 1) := by decide +kernel
theorem dX4_seek_62 : decode cX4_seek 62 = .ok (.istore 5, 2) := by decide +kernel
theorem dX4_seek_64 : decode cX4_seek 64 = .ok (.aload_n 0, 1) := by decide +kernel
theorem dX4_seek_65 : decode cX4_seek 65 = .ok (.getfield 9, 3) := by decide +kernel
theorem dX4_seek_68 : decode cX4_seek 68 = .ok (.iload 4, 2) := by decide +kernel
theorem dX4_seek_70 : decode cX4_seek 70 = .ok (.iaload, 1) := by decide +kernel
theorem dX4_seek_71 : decode cX4_seek 71 = .ok (.iconst (-1), 1) := by decide +kernel
theorem dX4_seek_72 : decode cX4_seek 72 = .ok (.if_icmp .eq 43, 3) := by decide +kernel
theorem dX4_seek_75 : decode cX4_seek 75 = .ok (.aload_n 0, 1) := by decide +kernel
theorem dX4_seek_76 : decode cX4_seek 76 = .ok (.getfield 15, 3) := by decide +kernel
theorem dX4_seek_79 : decode cX4_seek 79 = .ok (.iload 4, 2) := by decide +kernel
theorem dX4_seek_81 : decode cX4_seek 81 = .ok (.iaload, 1) := by decide +kernel
theorem dX4_seek_82 : decode cX4_seek 82 = .ok (.iconst (-1), 1) := by decide +kernel
theorem dX4_seek_83 : decode cX4_seek 83 = .ok (.if_icmp .eq 32, 3) := by decide +kernel
theorem dX4_seek_86 : decode cX4_seek 86 = .ok (.aload_n 0, 1) := by decide +kernel
theorem dX4_seek_87 : decode cX4_seek 87 = .ok (.getfield 18, 3) := by decide +kernel
theorem dX4_seek_90 : decode cX4_seek 90 = .ok (.iconst (-1), 1) := by decide +kernel
theorem dX4_seek_91 : decode cX4_seek 91 = .ok (.if_icmp .eq 12, 3) := by decide +kernel
theorem dX4_seek_94 : decode cX4_seek 94 = .ok (.iload 5, 2) := by decide +kernel
theorem dX4_seek_96 : decode cX4_seek 96 = .ok (.aload_n 0, 1) := by decide +kernel
theorem dX4_seek_97 : decode cX4_seek 97 = .ok (.getfield 18, 3) := by decide +kernel
theorem dX4_seek_100 : decode cX4_seek 100 = .ok (.if_icmp .gt 15, 3) := by decide +kernel
theorem dX4_seek_103 : decode cX4_seek 103 = .ok (.aload_n 0, 1) := by decide +kernel
theorem dX4_seek_104 : decode cX4_seek 104 = .ok (.iload 5, 2) := by decide +kernel
theorem dX4_seek_106 : decode cX4_seek 106 = .ok (.putfield 18, 3) := by decide +kernel
theorem dX4_seek_109 : decode cX4_seek 109 = .ok (.aload_n 0, 1) := by decide +kernel
theorem dX4_seek_110 : decode cX4_seek 110 = .ok (.iload 4, 2) := by decide +kernel
theorem dX4_seek_112 : decode cX4_seek 112 = .ok (.putfield 22, 3) := by decide +kernel
theorem dX4_seek_115 : decode cX4_seek 115 = .ok (.iinc 4 1, 3) := by decide +kernel
theorem dX4_seek_118 : decode cX4_seek 118 = .ok (.goto (-87), 3) := by decide +kernel
theorem dX4_seek_121 : decode cX4_seek 121 = .ok (.return_, 1) := by decide +kernel
theorem dX4_countSteps_0 : decode cX4_countSteps 0 = .ok (.iconst 0, 1) := by decide +kernel
theorem dX4_countSteps_1 : decode cX4_countSteps 1 = .ok (.istore_n 3, 1) := by decide +kernel
theorem dX4_countSteps_2 : decode cX4_countSteps 2 = .ok (.iload_n 3, 1) := by decide +kernel
theorem dX4_countSteps_3 : decode cX4_countSteps 3 = .ok (.aload_n 2, 1) := by decide +kernel
theorem dX4_countSteps_4 : decode cX4_countSteps 4 = .ok (.arraylength, 1) := by decide +kernel
theorem dX4_countSteps_5 : decode cX4_countSteps 5 = .ok (.if_icmp .ge 22, 3) := by decide +kernel
theorem dX4_countSteps_8 : decode cX4_countSteps 8 = .ok (.aload_n 2, 1) := by decide +kernel
theorem dX4_countSteps_9 : decode cX4_countSteps 9 = .ok (.iload_n 3, 1) := by decide +kernel
theorem dX4_countSteps_10 : decode cX4_countSteps 10 = .ok (.iload_n 3, 1) := by decide +kernel
theorem dX4_countSteps_11 : decode cX4_countSteps 11 = .ok (.iload_n 1, 1) := by decide +kernel
theorem dX4_countSteps_12 : decode cX4_countSteps 12 = .ok (.if_icmp .ne 7, 3) := by decide +kernel
theorem dX4_countSteps_15 : decode cX4_countSteps 15 = .ok (.iconst 0, 1) := by decide +kernel
theorem dX4_countSteps_16 : decode cX4_countSteps 16 = .ok (.goto 4, 3) := by decide +kernel
theorem dX4_countSteps_19 : decode cX4_countSteps 19 = .ok (.iconst (-1), 1) := by decide +kernel
theorem dX4_countSteps_20 : decode cX4_countSteps 20 = .ok (.iastore, 1) := by decide +kernel
theorem dX4_countSteps_21 : decode cX4_countSteps 21 = .ok (.iinc 3 1, 3) := by decide +kernel
theorem dX4_countSteps_24 : decode cX4_countSteps 24 = .ok (.goto (-22), 3) := by decide +kernel
theorem dX4_countSteps_27 : decode cX4_countSteps 27 = .ok (.iload_n 1, 1) := by decide +kernel
theorem dX4_countSteps_28 : decode cX4_countSteps 28 = .ok (.aload_n 2, 1) := by decide +kernel
theorem dX4_countSteps_29 : decode cX4_countSteps 29 = .ok (.arraylength, 1) := by decide +kernel
theorem dX4_countSteps_30 : decode cX4_countSteps 30 = .ok (.iconst 1, 1) := by decide +kernel
theorem dX4_countSteps_31 : decode cX4_countSteps 31 = .ok (.isub, 1) := by decide +kernel
theorem dX4_countSteps_32 : decode cX4_countSteps 32 = .ok (.invokestatic 35, 3) := by decide +kernel
theorem dX4_countSteps_35 : decode cX4_countSteps 35 = .ok (.istore_n 3, 1) := by decide +kernel
theorem dX4_countSteps_36 : decode cX4_countSteps 36 = .ok (.iload_n 3, 1) := by decide +kernel
theorem dX4_countSteps_37 : decode cX4_countSteps 37 = .ok (.ifCond .lt 46, 3) := by decide +kernel
theorem dX4_countSteps_40 : decode cX4_countSteps 40 = .ok (.aload_n 2, 1) := by decide +kernel
theorem dX4_countSteps_41 : decode cX4_countSteps 41 = .ok (.iload_n 3, 1) := by decide +kernel
theorem dX4_countSteps_42 : decode cX4_countSteps 42 = .ok (.iaload, 1) := by decide +kernel
theorem dX4_countSteps_43 : decode cX4_countSteps 43 = .ok (.iconst (-1), 1) := by decide +kernel
theorem dX4_countSteps_44 : decode cX4_countSteps 44 = .ok (.if_icmp .eq 33, 3) := by decide +kernel
theorem dX4_countSteps_47 : decode cX4_countSteps 47 = .ok (.aload_n 2, 1) := by decide +kernel
theorem dX4_countSteps_48 : decode cX4_countSteps 48 = .ok (.aload_n 0, 1) := by decide +kernel
theorem dX4_countSteps_49 : decode cX4_countSteps 49 = .ok (.iload_n 3, 1) := by decide +kernel
theorem dX4_countSteps_50 : decode cX4_countSteps 50 = .ok (.iconst 2, 1) := by decide +kernel
theorem dX4_countSteps_51 : decode cX4_countSteps 51 = .ok (.invokevirtual 41, 3) := by decide +kernel
theorem dX4_countSteps_54 : decode cX4_countSteps 54 = .ok (.aload_n 2, 1) := by decide +kernel
theorem dX4_countSteps_55 : decode cX4_countSteps 55 = .ok (.iload_n 3, 1) := by decide +kernel
theorem dX4_countSteps_56 : decode cX4_countSteps 56 = .ok (.iaload, 1) := by decide +kernel
theorem dX4_countSteps_57 : decode cX4_countSteps 57 = .ok (.iconst 1, 1) := by decide +kernel
theorem dX4_countSteps_58 : decode cX4_countSteps 58 = .ok (.iadd, 1) := by decide +kernel
theorem dX4_countSteps_59 : decode cX4_countSteps 59 = .ok (.invokestatic 44, 3) := by decide +kernel
theorem dX4_countSteps_62 : decode cX4_countSteps 62 = .ok (.aload_n 2, 1) := by decide +kernel
theorem dX4_countSteps_63 : decode cX4_countSteps 63 = .ok (.aload_n 0, 1) := by decide +kernel
theorem dX4_countSteps_64 : decode cX4_countSteps 64 = .ok (.iload_n 3, 1) := by decide +kernel
theorem dX4_countSteps_65 : decode cX4_countSteps 65 = .ok (.iconst 3, 1) := by decide +kernel
theorem dX4_countSteps_66 : decode cX4_countSteps 66 = .ok (.invokevirtual 41, 3) := by decide +kernel
theorem dX4_countSteps_69 : decode cX4_countSteps 69 = .ok (.aload_n 2, 1) := by decide +kernel
theorem dX4_countSteps_70 : decode cX4_countSteps 70 = .ok (.iload_n 3, 1) := by decide +kernel
theorem dX4_countSteps_71 : decode cX4_countSteps 71 = .ok (.iaload, 1) := by decide +kernel
theorem dX4_countSteps_72 : decode cX4_countSteps 72 = .ok (.iconst 1, 1) := by decide +kernel
theorem dX4_countSteps_73 : decode cX4_countSteps 73 = .ok (.iadd, 1) := by decide +kernel
theorem dX4_countSteps_74 : decode cX4_countSteps 74 = .ok (.invokestatic 44, 3) := by decide +kernel
theorem dX4_countSteps_77 : decode cX4_countSteps 77 = .ok (.iinc 3 (-1), 3) := by decide +kernel
theorem dX4_countSteps_80 : decode cX4_countSteps 80 = .ok (.goto (-44), 3) := by decide +kernel
theorem dX4_countSteps_83 : decode cX4_countSteps 83 = .ok (.return_, 1) := by decide +kernel
theorem dX4_handOn_0 : decode cX4_handOn 0 = .ok (.iload_n 1, 1) := by decide +kernel
theorem dX4_handOn_1 : decode cX4_handOn 1 = .ok (.ifCond .lt 27, 3) := by decide +kernel
theorem dX4_handOn_4 : decode cX4_handOn 4 = .ok (.iload_n 1, 1) := by decide +kernel
theorem dX4_handOn_5 : decode cX4_handOn 5 = .ok (.aload_n 0, 1) := by decide +kernel
theorem dX4_handOn_6 : decode cX4_handOn 6 = .ok (.arraylength, 1) := by decide +kernel
theorem dX4_handOn_7 : decode cX4_handOn 7 = .ok (.if_icmp .ge 21, 3) := by decide +kernel
theorem dX4_handOn_10 : decode cX4_handOn 10 = .ok (.aload_n 0, 1) := by decide +kernel
theorem dX4_handOn_11 : decode cX4_handOn 11 = .ok (.iload_n 1, 1) := by decide +kernel
theorem dX4_handOn_12 : decode cX4_handOn 12 = .ok (.iaload, 1) := by decide +kernel
theorem dX4_handOn_13 : decode cX4_handOn 13 = .ok (.iconst (-1), 1) := by decide +kernel
theorem dX4_handOn_14 : decode cX4_handOn 14 = .ok (.if_icmp .eq 10, 3) := by decide +kernel
theorem dX4_handOn_17 : decode cX4_handOn 17 = .ok (.iload_n 2, 1) := by decide +kernel
theorem dX4_handOn_18 : decode cX4_handOn 18 = .ok (.aload_n 0, 1) := by decide +kernel
theorem dX4_handOn_19 : decode cX4_handOn 19 = .ok (.iload_n 1, 1) := by decide +kernel
theorem dX4_handOn_20 : decode cX4_handOn 20 = .ok (.iaload, 1) := by decide +kernel
theorem dX4_handOn_21 : decode cX4_handOn 21 = .ok (.if_icmp .ge 7, 3) := by decide +kernel
theorem dX4_handOn_24 : decode cX4_handOn 24 = .ok (.aload_n 0, 1) := by decide +kernel
theorem dX4_handOn_25 : decode cX4_handOn 25 = .ok (.iload_n 1, 1) := by decide +kernel
theorem dX4_handOn_26 : decode cX4_handOn 26 = .ok (.iload_n 2, 1) := by decide +kernel
theorem dX4_handOn_27 : decode cX4_handOn 27 = .ok (.iastore, 1) := by decide +kernel
theorem dX4_handOn_28 : decode cX4_handOn 28 = .ok (.return_, 1) := by decide +kernel
theorem dX5_init_0 : decode cX5_init 0 = .ok (.aload_n 0, 1) := by decide +kernel
theorem dX5_init_1 : decode cX5_init 1 = .ok (.invokespecial 3, 3) := by decide +kernel
theorem dX5_init_4 : decode cX5_init 4 = .ok (.aload_n 0, 1) := by decide +kernel
theorem dX5_init_5 : decode cX5_init 5 = .ok (.new 9, 3) := by decide +kernel
theorem dX5_init_8 : decode cX5_init 8 = .ok (.dup, 1) := by decide +kernel
theorem dX5_init_9 : decode cX5_init 9 = .ok (.bipush 20, 2) := by decide +kernel
theorem dX5_init_11 : decode cX5_init 11 = .ok (.invokespecial 11, 3) := by decide +kernel
theorem dX5_init_14 : decode cX5_init 14 = .ok (.putfield 14, 3) := by decide +kernel
theorem dX5_init_17 : decode cX5_init 17 = .ok (.return_, 1) := by decide +kernel
theorem dX5_remember_0 : decode cX5_remember 0 = .ok (.aload_n 0, 1) := by decide +kernel
theorem dX5_remember_1 : decode cX5_remember 1 = .ok (.getfield 14, 3) := by decide +kernel
theorem dX5_remember_4 : decode cX5_remember 4 = .ok (.aload_n 0, 1) := by decide +kernel
theorem dX5_remember_5 : decode cX5_remember 5 = .ok (.getfield 20, 3) := by decide +kernel
theorem dX5_remember_8 : decode cX5_remember 8 = .ok (.aload_n 1, 1) := by decide +kernel
theorem dX5_remember_9 : decode cX5_remember 9 = .ok (.invokevirtual 24, 3) := by decide +kernel
theorem dX5_remember_12 : decode cX5_remember 12 = .ok (.aload_n 0, 1) := by decide +kernel
theorem dX5_remember_13 : decode cX5_remember 13 = .ok (.aload_n 0, 1) := by decide +kernel
theorem dX5_remember_14 : decode cX5_remember 14 = .ok (.getfield 20, 3) := by decide +kernel
theorem dX5_remember_17 : decode cX5_remember 17 = .ok (.iconst 1, 1) := by decide +kernel
theorem dX5_remember_18 : decode cX5_remember 18 = .ok (.iadd, 1) := by decide +kernel
theorem dX5_remember_19 : decode cX5_remember 19 = .ok (.bipush 20, 2) := by decide +kernel
theorem dX5_remember_21 : decode cX5_remember 21 = .ok (.irem, 1) := by decide +kernel
theorem dX5_remember_22 : decode cX5_remember 22 = .ok (.putfield 20, 3) := by decide +kernel
theorem dX5_remember_25 : decode cX5_remember 25 = .ok (.aload_n 0, 1) := by decide +kernel
theorem dX5_remember_26 : decode cX5_remember 26 = .ok (.aload_n 0, 1) := by decide +kernel
theorem dX5_remember_27 : decode cX5_remember 27 = .ok (.getfield 28, 3) := by decide +kernel
theorem dX5_remember_30 : decode cX5_remember 30 = .ok (.iconst 1, 1) := by decide +kernel
theorem dX5_remember_31 : decode cX5_remember 31 = .ok (.iadd, 1) := by decide +kernel
theorem dX5_remember_32 : decode cX5_remember 32 = .ok (.bipush 20, 2) := by decide +kernel
theorem dX5_remember_34 : decode cX5_remember 34 = .ok (.invokestatic 31, 3) := by decide +kernel
theorem dX5_remember_37 : decode cX5_remember 37 = .ok (.putfield 28, 3) := by decide +kernel
theorem dX5_remember_40 : decode cX5_remember 40 = .ok (.return_, 1) := by decide +kernel
theorem dX5_stepBack_0 : decode cX5_stepBack 0 = .ok (.iload_n 2, 1) := by decide +kernel
theorem dX5_stepBack_1 : decode cX5_stepBack 1 = .ok (.iconst 1, 1) := by decide +kernel
theorem dX5_stepBack_2 : decode cX5_stepBack 2 = .ok (.if_icmp .lt 11, 3) := by decide +kernel
theorem dX5_stepBack_5 : decode cX5_stepBack 5 = .ok (.iload_n 2, 1) := by decide +kernel
theorem dX5_stepBack_6 : decode cX5_stepBack 6 = .ok (.aload_n 0, 1) := by decide +kernel
theorem dX5_stepBack_7 : decode cX5_stepBack 7 = .ok (.getfield 28, 3) := by decide +kernel
theorem dX5_stepBack_10 : decode cX5_stepBack 10 = .ok (.if_icmp .le 4, 3) := by decide +kernel
theorem dX5_stepBack_13 : decode cX5_stepBack 13 = .ok (.return_, 1) := by decide +kernel
theorem dX5_stepBack_14 : decode cX5_stepBack 14 = .ok (.aload_n 0, 1) := by decide +kernel
theorem dX5_stepBack_15 : decode cX5_stepBack 15 = .ok (.aload_n 0, 1) := by decide +kernel
theorem dX5_stepBack_16 : decode cX5_stepBack 16 = .ok (.getfield 20, 3) := by decide +kernel
theorem dX5_stepBack_19 : decode cX5_stepBack 19 = .ok (.bipush 20, 2) := by decide +kernel
theorem dX5_stepBack_21 : decode cX5_stepBack 21 = .ok (.iadd, 1) := by decide +kernel
theorem dX5_stepBack_22 : decode cX5_stepBack 22 = .ok (.iload_n 2, 1) := by decide +kernel
theorem dX5_stepBack_23 : decode cX5_stepBack 23 = .ok (.isub, 1) := by decide +kernel
theorem dX5_stepBack_24 : decode cX5_stepBack 24 = .ok (.bipush 20, 2) := by decide +kernel
theorem dX5_stepBack_26 : decode cX5_stepBack 26 = .ok (.irem, 1) := by decide +kernel
theorem dX5_stepBack_27 : decode cX5_stepBack 27 = .ok (.putfield 20, 3) := by decide +kernel
theorem dX5_stepBack_30 : decode cX5_stepBack 30 = .ok (.aload_n 0, 1) := by decide +kernel
theorem dX5_stepBack_31 : decode cX5_stepBack 31 = .ok (.dup, 1) := by decide +kernel
theorem dX5_stepBack_32 : decode cX5_stepBack 32 = .ok (.getfield 28, 3) := by decide +kernel
theorem dX5_stepBack_35 : decode cX5_stepBack 35 = .ok (.iload_n 2, 1) := by decide +kernel
theorem dX5_stepBack_36 : decode cX5_stepBack 36 = .ok (.isub, 1) := by decide +kernel
theorem dX5_stepBack_37 : decode cX5_stepBack 37 = .ok (.putfield 28, 3) := by decide +kernel
theorem dX5_stepBack_40 : decode cX5_stepBack 40 = .ok (.aload_n 0, 1) := by decide +kernel
theorem dX5_stepBack_41 : decode cX5_stepBack 41 = .ok (.getfield 14, 3) := by decide +kernel
theorem dX5_stepBack_44 : decode cX5_stepBack 44 = .ok (.aload_n 0, 1) := by decide +kernel
theorem dX5_stepBack_45 : decode cX5_stepBack 45 = .ok (.getfield 20, 3) := by decide +kernel
theorem dX5_stepBack_48 : decode cX5_stepBack 48 = .ok (.aload_n 1, 1) := by decide +kernel
theorem dX5_stepBack_49 : decode cX5_stepBack 49 = .ok (.invokevirtual 37, 3) := by decide +kernel
theorem dX5_stepBack_52 : decode cX5_stepBack 52 = .ok (.return_, 1) := by decide +kernel
theorem dX6_init_0 : decode cX6_init 0 = .ok (.aload_n 0, 1) := by decide +kernel
theorem dX6_init_1 : decode cX6_init 1 = .ok (.invokespecial 1, 3) := by decide +kernel
theorem dX6_init_4 : decode cX6_init 4 = .ok (.aload_n 0, 1) := by decide +kernel
theorem dX6_init_5 : decode cX6_init 5 = .ok (.iload_n 1, 1) := by decide +kernel
theorem dX6_init_6 : decode cX6_init 6 = .ok (.iconst 0, 1) := by decide +kernel
theorem dX6_init_7 : decode cX6_init 7 = .ok (.invokestatic 7, 3) := by decide +kernel
theorem dX6_init_10 : decode cX6_init 10 = .ok (.putfield 13, 3) := by decide +kernel
theorem dX6_init_13 : decode cX6_init 13 = .ok (.aload_n 0, 1) := by decide +kernel
theorem dX6_init_14 : decode cX6_init 14 = .ok (.aload_n 0, 1) := by decide +kernel
theorem dX6_init_15 : decode cX6_init 15 = .ok (.getfield 13, 3) := by decide +kernel
theorem dX6_init_18 : decode cX6_init 18 = .ok (.sipush 141, 3) := by decide +kernel
theorem dX6_init_21 : decode cX6_init 21 = .ok (.imul, 1) := by decide +kernel
theorem dX6_init_22 : decode cX6_init 22 = .ok (.newarray .int, 2) := by decide +kernel
theorem dX6_init_24 : decode cX6_init 24 = .ok (.putfield 21, 3) := by decide +kernel
theorem dX6_init_27 : decode cX6_init 27 = .ok (.return_, 1) := by decide +kernel
theorem dX6_lay_0 : decode cX6_lay 0 = .ok (.iload_n 1, 1) := by decide +kernel
theorem dX6_lay_1 : decode cX6_lay 1 = .ok (.ifCond .lt 31, 3) := by decide +kernel
theorem dX6_lay_4 : decode cX6_lay 4 = .ok (.iload_n 1, 1) := by decide +kernel
theorem dX6_lay_5 : decode cX6_lay 5 = .ok (.aload_n 0, 1) := by decide +kernel
theorem dX6_lay_6 : decode cX6_lay 6 = .ok (.getfield 13, 3) := by decide +kernel
theorem dX6_lay_9 : decode cX6_lay 9 = .ok (.if_icmp .ge 23, 3) := by decide +kernel
theorem dX6_lay_12 : decode cX6_lay 12 = .ok (.aload_n 2, 1) := by decide +kernel
theorem dX6_lay_13 : decode cX6_lay 13 = .ok (.getfield 25, 3) := by decide +kernel
theorem dX6_lay_16 : decode cX6_lay 16 = .ok (.iconst 0, 1) := by decide +kernel
theorem dX6_lay_17 : decode cX6_lay 17 = .ok (.aload_n 0, 1) := by decide +kernel
theorem dX6_lay_18 : decode cX6_lay 18 = .ok (.getfield 21, 3) := by decide +kernel
theorem dX6_lay_21 : decode cX6_lay 21 = .ok (.iload_n 1, 1) := by decide +kernel
theorem dX6_lay_22 : decode cX6_lay 22 = .ok (.sipush 141, 3) := by decide +kernel
theorem dX6_lay_25 : decode cX6_lay 25 = .ok (.imul, 1) := by decide +kernel
theorem dX6_lay_26 : decode cX6_lay 26 = .ok (.sipush 141, 3) := by decide +kernel
theorem dX6_lay_29 : decode cX6_lay 29 = .ok (.invokestatic 28, 3) := by decide +kernel
theorem dX6_lay_32 : decode cX6_lay 32 = .ok (.return_, 1) := by decide +kernel
theorem dX6_fetch_0 : decode cX6_fetch 0 = .ok (.iload_n 1, 1) := by decide +kernel
theorem dX6_fetch_1 : decode cX6_fetch 1 = .ok (.ifCond .lt 31, 3) := by decide +kernel
theorem dX6_fetch_4 : decode cX6_fetch 4 = .ok (.iload_n 1, 1) := by decide +kernel
theorem dX6_fetch_5 : decode cX6_fetch 5 = .ok (.aload_n 0, 1) := by decide +kernel
theorem dX6_fetch_6 : decode cX6_fetch 6 = .ok (.getfield 13, 3) := by decide +kernel
theorem dX6_fetch_9 : decode cX6_fetch 9 = .ok (.if_icmp .ge 23, 3) := by decide +kernel
theorem dX6_fetch_12 : decode cX6_fetch 12 = .ok (.aload_n 0, 1) := by decide +kernel
theorem dX6_fetch_13 : decode cX6_fetch 13 = .ok (.getfield 21, 3) := by decide +kernel
theorem dX6_fetch_16 : decode cX6_fetch 16 = .ok (.iload_n 1, 1) := by decide +kernel
theorem dX6_fetch_17 : decode cX6_fetch 17 = .ok (.sipush 141, 3) := by decide +kernel
theorem dX6_fetch_20 : decode cX6_fetch 20 = .ok (.imul, 1) := by decide +kernel
theorem dX6_fetch_21 : decode cX6_fetch 21 = .ok (.aload_n 2, 1) := by decide +kernel
theorem dX6_fetch_22 : decode cX6_fetch 22 = .ok (.getfield 25, 3) := by decide +kernel
theorem dX6_fetch_25 : decode cX6_fetch 25 = .ok (.iconst 0, 1) := by decide +kernel
theorem dX6_fetch_26 : decode cX6_fetch 26 = .ok (.sipush 141, 3) := by decide +kernel
theorem dX6_fetch_29 : decode cX6_fetch 29 = .ok (.invokestatic 28, 3) := by decide +kernel
theorem dX6_fetch_32 : decode cX6_fetch 32 = .ok (.return_, 1) := by decide +kernel
theorem dX7_init_0 : decode cX7_init 0 = .ok (.aload_n 0, 1) := by decide +kernel
theorem dX7_init_1 : decode cX7_init 1 = .ok (.invokespecial 5, 3) := by decide +kernel
theorem dX7_init_4 : decode cX7_init 4 = .ok (.aload_n 0, 1) := by decide +kernel
theorem dX7_init_5 : decode cX7_init 5 = .ok (.sipush 141, 3) := by decide +kernel
theorem dX7_init_8 : decode cX7_init 8 = .ok (.newarray .int, 2) := by decide +kernel
theorem dX7_init_10 : decode cX7_init 10 = .ok (.putfield 11, 3) := by decide +kernel
theorem dX7_init_13 : decode cX7_init 13 = .ok (.return_, 1) := by decide +kernel
theorem dX7_people_0 : decode cX7_people 0 = .ok (.aload_n 0, 1) := by decide +kernel
theorem dX7_people_1 : decode cX7_people 1 = .ok (.getfield 11, 3) := by decide +kernel
theorem dX7_people_4 : decode cX7_people 4 = .ok (.iconst 0, 1) := by decide +kernel
theorem dX7_people_5 : decode cX7_people 5 = .ok (.iaload, 1) := by decide +kernel
theorem dX7_people_6 : decode cX7_people 6 = .ok (.ireturn, 1) := by decide +kernel
theorem dX7_has_0 : decode cX7_has 0 = .ok (.iload_n 1, 1) := by decide +kernel
theorem dX7_has_1 : decode cX7_has 1 = .ok (.ifCond .lt 23, 3) := by decide +kernel
theorem dX7_has_4 : decode cX7_has 4 = .ok (.iload_n 1, 1) := by decide +kernel
theorem dX7_has_5 : decode cX7_has 5 = .ok (.bipush 16, 2) := by decide +kernel
theorem dX7_has_7 : decode cX7_has 7 = .ok (.if_icmp .ge 17, 3) := by decide +kernel
theorem dX7_has_10 : decode cX7_has 10 = .ok (.iload_n 1, 1) := by decide +kernel
theorem dX7_has_11 : decode cX7_has 11 = .ok (.aload_n 0, 1) := by decide +kernel
theorem dX7_has_12 : decode cX7_has 12 = .ok (.getfield 11, 3) := by decide +kernel
theorem dX7_has_15 : decode cX7_has 15 = .ok (.iconst 0, 1) := by decide +kernel
theorem dX7_has_16 : decode cX7_has 16 = .ok (.iaload, 1) := by decide +kernel
theorem dX7_has_17 : decode cX7_has 17 = .ok (.if_icmp .ge 7, 3) := by decide +kernel
theorem dX7_has_20 : decode cX7_has 20 = .ok (.iconst 1, 1) := by decide +kernel
theorem dX7_has_21 : decode cX7_has 21 = .ok (.goto 4, 3) := by decide +kernel
theorem dX7_has_24 : decode cX7_has 24 = .ok (.iconst 0, 1) := by decide +kernel
theorem dX7_has_25 : decode cX7_has 25 = .ok (.ireturn, 1) := by decide +kernel
theorem dX7_hasOrNone_0 : decode cX7_hasOrNone 0 = .ok (.iload_n 1, 1) := by decide +kernel
theorem dX7_hasOrNone_1 : decode cX7_hasOrNone 1 = .ok (.iconst (-1), 1) := by decide +kernel
theorem dX7_hasOrNone_2 : decode cX7_hasOrNone 2 = .ok (.if_icmp .eq 11, 3) := by decide +kernel
theorem dX7_hasOrNone_5 : decode cX7_hasOrNone 5 = .ok (.aload_n 0, 1) := by decide +kernel
theorem dX7_hasOrNone_6 : decode cX7_hasOrNone 6 = .ok (.iload_n 1, 1) := by decide +kernel
theorem dX7_hasOrNone_7 : decode cX7_hasOrNone 7 = .ok (.invokevirtual 15, 3) := by decide +kernel
theorem dX7_hasOrNone_10 : decode cX7_hasOrNone 10 = .ok (.ifCond .eq 7, 3) := by decide +kernel
theorem dX7_hasOrNone_13 : decode cX7_hasOrNone 13 = .ok (.iconst 1, 1) := by decide +kernel
theorem dX7_hasOrNone_14 : decode cX7_hasOrNone 14 = .ok (.goto 4, 3) := by decide +kernel
theorem dX7_hasOrNone_17 : decode cX7_hasOrNone 17 = .ok (.iconst 0, 1) := by decide +kernel
theorem dX7_hasOrNone_18 : decode cX7_hasOrNone 18 = .ok (.ireturn, 1) := by decide +kernel
theorem dX7_hasRoom_0 : decode cX7_hasRoom 0 = .ok (.aload_n 0, 1) := by decide +kernel
theorem dX7_hasRoom_1 : decode cX7_hasRoom 1 = .ok (.invokevirtual 19, 3) := by decide +kernel
theorem dX7_hasRoom_4 : decode cX7_hasRoom 4 = .ok (.bipush 16, 2) := by decide +kernel
theorem dX7_hasRoom_6 : decode cX7_hasRoom 6 = .ok (.if_icmp .ge 7, 3) := by decide +kernel
theorem dX7_hasRoom_9 : decode cX7_hasRoom 9 = .ok (.iconst 1, 1) := by decide +kernel
theorem dX7_hasRoom_10 : decode cX7_hasRoom 10 = .ok (.goto 4, 3) := by decide +kernel
theorem dX7_hasRoom_13 : decode cX7_hasRoom 13 = .ok (.iconst 0, 1) := by decide +kernel
theorem dX7_hasRoom_14 : decode cX7_hasRoom 14 = .ok (.ireturn, 1) := by decide +kernel
theorem dX7_fact_0 : decode cX7_fact 0 = .ok (.aload_n 0, 1) := by decide +kernel
theorem dX7_fact_1 : decode cX7_fact 1 = .ok (.iload_n 1, 1) := by decide +kernel
theorem dX7_fact_2 : decode cX7_fact 2 = .ok (.invokevirtual 15, 3) := by decide +kernel
theorem dX7_fact_5 : decode cX7_fact 5 = .ok (.ifCond .eq 13, 3) := by decide +kernel
theorem dX7_fact_8 : decode cX7_fact 8 = .ok (.iload_n 2, 1) := by decide +kernel
theorem dX7_fact_9 : decode cX7_fact 9 = .ok (.ifCond .lt 9, 3) := by decide +kernel
theorem dX7_fact_12 : decode cX7_fact 12 = .ok (.iload_n 2, 1) := by decide +kernel
theorem dX7_fact_13 : decode cX7_fact 13 = .ok (.bipush 8, 2) := by decide +kernel
theorem dX7_fact_15 : decode cX7_fact 15 = .ok (.if_icmp .lt 5, 3) := by decide +kernel
theorem dX7_fact_18 : decode cX7_fact 18 = .ok (.iconst (-1), 1) := by decide +kernel
theorem dX7_fact_19 : decode cX7_fact 19 = .ok (.ireturn, 1) := by decide +kernel
theorem dX7_fact_20 : decode cX7_fact 20 = .ok (.aload_n 0, 1) := by decide +kernel
theorem dX7_fact_21 : decode cX7_fact 21 = .ok (.getfield 11, 3) := by decide +kernel
theorem dX7_fact_24 : decode cX7_fact 24 = .ok (.bipush 13, 2) := by decide +kernel
theorem dX7_fact_26 : decode cX7_fact 26 = .ok (.iload_n 1, 1) := by decide +kernel
theorem dX7_fact_27 : decode cX7_fact 27 = .ok (.bipush 8, 2) := by decide +kernel
theorem dX7_fact_29 : decode cX7_fact 29 = .ok (.imul, 1) := by decide +kernel
theorem dX7_fact_30 : decode cX7_fact 30 = .ok (.iadd, 1) := by decide +kernel
theorem dX7_fact_31 : decode cX7_fact 31 = .ok (.iload_n 2, 1) := by decide +kernel
theorem dX7_fact_32 : decode cX7_fact 32 = .ok (.iadd, 1) := by decide +kernel
theorem dX7_fact_33 : decode cX7_fact 33 = .ok (.iaload, 1) := by decide +kernel
theorem dX7_fact_34 : decode cX7_fact 34 = .ok (.ireturn, 1) := by decide +kernel
theorem dX7_isMan_0 : decode cX7_isMan 0 = .ok (.aload_n 0, 1) := by decide +kernel
theorem dX7_isMan_1 : decode cX7_isMan 1 = .ok (.iload_n 1, 1) := by decide +kernel
theorem dX7_isMan_2 : decode cX7_isMan 2 = .ok (.iconst 0, 1) := by decide +kernel
theorem dX7_isMan_3 : decode cX7_isMan 3 = .ok (.invokevirtual 23, 3) := by decide +kernel
theorem dX7_isMan_6 : decode cX7_isMan 6 = .ok (.ifCond .ne 7, 3) := by decide +kernel
theorem dX7_isMan_9 : decode cX7_isMan 9 = .ok (.iconst 1, 1) := by decide +kernel
theorem dX7_isMan_10 : decode cX7_isMan 10 = .ok (.goto 4, 3) := by decide +kernel
theorem dX7_isMan_13 : decode cX7_isMan 13 = .ok (.iconst 0, 1) := by decide +kernel
theorem dX7_isMan_14 : decode cX7_isMan 14 = .ok (.ireturn, 1) := by decide +kernel
theorem dX7_isWoman_0 : decode cX7_isWoman 0 = .ok (.aload_n 0, 1) := by decide +kernel
theorem dX7_isWoman_1 : decode cX7_isWoman 1 = .ok (.iload_n 1, 1) := by decide +kernel
theorem dX7_isWoman_2 : decode cX7_isWoman 2 = .ok (.iconst 0, 1) := by decide +kernel
theorem dX7_isWoman_3 : decode cX7_isWoman 3 = .ok (.invokevirtual 23, 3) := by decide +kernel
theorem dX7_isWoman_6 : decode cX7_isWoman 6 = .ok (.iconst 1, 1) := by decide +kernel
theorem dX7_isWoman_7 : decode cX7_isWoman 7 = .ok (.if_icmp .ne 7, 3) := by decide +kernel
theorem dX7_isWoman_10 : decode cX7_isWoman 10 = .ok (.iconst 1, 1) := by decide +kernel
theorem dX7_isWoman_11 : decode cX7_isWoman 11 = .ok (.goto 4, 3) := by decide +kernel
theorem dX7_isWoman_14 : decode cX7_isWoman 14 = .ok (.iconst 0, 1) := by decide +kernel
theorem dX7_isWoman_15 : decode cX7_isWoman 15 = .ok (.ireturn, 1) := by decide +kernel
theorem dX7_childrenOf_0 : decode cX7_childrenOf 0 = .ok (.iconst 0, 1) := by decide +kernel
theorem dX7_childrenOf_1 : decode cX7_childrenOf 1 = .ok (.istore_n 2, 1) := by decide +kernel
theorem dX7_childrenOf_2 : decode cX7_childrenOf 2 = .ok (.iconst 0, 1) := by decide +kernel
theorem dX7_childrenOf_3 : decode cX7_childrenOf 3 = .ok (.istore_n 3, 1) := by decide +kernel
theorem dX7_childrenOf_4 : decode cX7_childrenOf 4 = .ok (.iload_n 3, 1) := by decide +kernel
theorem dX7_childrenOf_5 : decode cX7_childrenOf 5 = .ok (.aload_n 0, 1) := by decide +kernel
theorem dX7_childrenOf_6 : decode cX7_childrenOf 6 = .ok (.invokevirtual 19, 3) := by decide +kernel
theorem dX7_childrenOf_9 : decode cX7_childrenOf 9 = .ok (.if_icmp .ge 35, 3) := by decide +kernel
theorem dX7_childrenOf_12 : decode cX7_childrenOf 12 = .ok (.aload_n 0, 1) := by decide +kernel
theorem dX7_childrenOf_13 : decode cX7_childrenOf 13 = .ok (.iload_n 3, 1) := by decide +kernel
theorem dX7_childrenOf_14 : decode cX7_childrenOf 14 = .ok (.iconst 2, 1) := by decide +kernel
theorem dX7_childrenOf_15 : decode cX7_childrenOf 15 = .ok (.invokevirtual 23, 3) := by decide +kernel
theorem dX7_childrenOf_18 : decode cX7_childrenOf 18 = .ok (.iload_n 1, 1) := by decide +kernel
theorem dX7_childrenOf_19 : decode cX7_childrenOf 19 = .ok (.if_icmp .eq 13, 3) := by decide +kernel
theorem dX7_childrenOf_22 : decode cX7_childrenOf 22 = .ok (.aload_n 0, 1) := by decide +kernel
theorem dX7_childrenOf_23 : decode cX7_childrenOf 23 = .ok (.iload_n 3, 1) := by decide +kernel
theorem dX7_childrenOf_24 : decode cX7_childrenOf 24 = .ok (.iconst 3, 1) := by decide +kernel
theorem dX7_childrenOf_25 : decode cX7_childrenOf 25 = .ok (.invokevirtual 23, 3) := by decide +kernel
theorem dX7_childrenOf_28 : decode cX7_childrenOf 28 = .ok (.iload_n 1, 1) := by decide +kernel
theorem dX7_childrenOf_29 : decode cX7_childrenOf 29 = .ok (.if_icmp .ne 9, 3) := by decide +kernel
theorem dX7_childrenOf_32 : decode cX7_childrenOf 32 = .ok (.iload_n 2, 1) := by decide +kernel
theorem dX7_childrenOf_33 : decode cX7_childrenOf 33 = .ok (.iconst 1, 1) := by decide +kernel
theorem dX7_childrenOf_34 : decode cX7_childrenOf 34 = .ok (.iload_n 3, 1) := by decide +kernel
theorem dX7_childrenOf_35 : decode cX7_childrenOf 35 = .ok (.ishl, 1) := by decide +kernel
theorem dX7_childrenOf_36 : decode cX7_childrenOf 36 = .ok (.ior, 1) := by decide +kernel
theorem dX7_childrenOf_37 : decode cX7_childrenOf 37 = .ok (.istore_n 2, 1) := by decide +kernel
theorem dX7_childrenOf_38 : decode cX7_childrenOf 38 = .ok (.iinc 3 1, 3) := by decide +kernel
theorem dX7_childrenOf_41 : decode cX7_childrenOf 41 = .ok (.goto (-37), 3) := by decide +kernel
theorem dX7_childrenOf_44 : decode cX7_childrenOf 44 = .ok (.iload_n 2, 1) := by decide +kernel
theorem dX7_childrenOf_45 : decode cX7_childrenOf 45 = .ok (.ireturn, 1) := by decide +kernel
theorem dX7_addPerson_0 : decode cX7_addPerson 0 = .ok (.aload_n 0, 1) := by decide +kernel
theorem dX7_addPerson_1 : decode cX7_addPerson 1 = .ok (.invokevirtual 27, 3) := by decide +kernel
theorem dX7_addPerson_4 : decode cX7_addPerson 4 = .ok (.ifCond .ne 4, 3) := by decide +kernel
theorem dX7_addPerson_7 : decode cX7_addPerson 7 = .ok (.return_, 1) := by decide +kernel
theorem dX7_addPerson_8 : decode cX7_addPerson 8 = .ok (.bipush 13, 2) := by decide +kernel
theorem dX7_addPerson_10 : decode cX7_addPerson 10 = .ok (.aload_n 0, 1) := by decide +kernel
theorem dX7_addPerson_11 : decode cX7_addPerson 11 = .ok (.invokevirtual 19, 3) := by decide +kernel
theorem dX7_addPerson_14 : decode cX7_addPerson 14 = .ok (.bipush 8, 2) := by decide +kernel
theorem dX7_addPerson_16 : decode cX7_addPerson 16 = .ok (.imul, 1) := by decide +kernel
theorem dX7_addPerson_17 : decode cX7_addPerson 17 = .ok (.iadd, 1) := by decide +kernel
theorem dX7_addPerson_18 : decode cX7_addPerson 18 = .ok (.istore 5, 2) := by decide +kernel
theorem dX7_addPerson_20 : decode cX7_addPerson 20 = .ok (.aload_n 0, 1) := by decide +kernel
theorem dX7_addPerson_21 : decode cX7_addPerson 21 = .ok (.getfield 11, 3) := by decide +kernel
theorem dX7_addPerson_24 : decode cX7_addPerson 24 = .ok (.iload 5, 2) := by decide +kernel
theorem dX7_addPerson_26 : decode cX7_addPerson 26 = .ok (.iconst 0, 1) := by decide +kernel
theorem dX7_addPerson_27 : decode cX7_addPerson 27 = .ok (.iadd, 1) := by decide +kernel
theorem dX7_addPerson_28 : decode cX7_addPerson 28 = .ok (.iload_n 1, 1) := by decide +kernel
theorem dX7_addPerson_29 : decode cX7_addPerson 29 = .ok (.iastore, 1) := by decide +kernel
theorem dX7_addPerson_30 : decode cX7_addPerson 30 = .ok (.aload_n 0, 1) := by decide +kernel
theorem dX7_addPerson_31 : decode cX7_addPerson 31 = .ok (.getfield 11, 3) := by decide +kernel
theorem dX7_addPerson_34 : decode cX7_addPerson 34 = .ok (.iload 5, 2) := by decide +kernel
theorem dX7_addPerson_36 : decode cX7_addPerson 36 = .ok (.iconst 1, 1) := by decide +kernel
theorem dX7_addPerson_37 : decode cX7_addPerson 37 = .ok (.iadd, 1) := by decide +kernel
theorem dX7_addPerson_38 : decode cX7_addPerson 38 = .ok (.iload_n 3, 1) := by decide +kernel
theorem dX7_addPerson_39 : decode cX7_addPerson 39 = .ok (.iconst (-1), 1) := by decide +kernel
theorem dX7_addPerson_40 : decode cX7_addPerson 40 = .ok (.if_icmp .ne 7, 3) := by decide +kernel
theorem dX7_addPerson_43 : decode cX7_addPerson 43 = .ok (.iload_n 2, 1) := by decide +kernel
theorem dX7_addPerson_44 : decode cX7_addPerson 44 = .ok (.goto 9, 3) := by decide +kernel
theorem dX7_addPerson_47 : decode cX7_addPerson 47 = .ok (.aload_n 0, 1) := by decide +kernel
theorem dX7_addPerson_48 : decode cX7_addPerson 48 = .ok (.iload_n 3, 1) := by decide +kernel
theorem dX7_addPerson_49 : decode cX7_addPerson 49 = .ok (.iconst 1, 1) := by decide +kernel
theorem dX7_addPerson_50 : decode cX7_addPerson 50 = .ok (.invokevirtual 23, 3) := by decide +kernel
theorem dX7_addPerson_53 : decode cX7_addPerson 53 = .ok (.iastore, 1) := by decide +kernel
theorem dX7_addPerson_54 : decode cX7_addPerson 54 = .ok (.aload_n 0, 1) := by decide +kernel
theorem dX7_addPerson_55 : decode cX7_addPerson 55 = .ok (.getfield 11, 3) := by decide +kernel
theorem dX7_addPerson_58 : decode cX7_addPerson 58 = .ok (.iload 5, 2) := by decide +kernel
theorem dX7_addPerson_60 : decode cX7_addPerson 60 = .ok (.iconst 2, 1) := by decide +kernel
theorem dX7_addPerson_61 : decode cX7_addPerson 61 = .ok (.iadd, 1) := by decide +kernel
theorem dX7_addPerson_62 : decode cX7_addPerson 62 = .ok (.iload_n 3, 1) := by decide +kernel
theorem dX7_addPerson_63 : decode cX7_addPerson 63 = .ok (.iastore, 1) := by decide +kernel
theorem dX7_addPerson_64 : decode cX7_addPerson 64 = .ok (.aload_n 0, 1) := by decide +kernel
theorem dX7_addPerson_65 : decode cX7_addPerson 65 = .ok (.getfield 11, 3) := by decide +kernel
theorem dX7_addPerson_68 : decode cX7_addPerson 68 = .ok (.iload 5, 2) := by decide +kernel
theorem dX7_addPerson_70 : decode cX7_addPerson 70 = .ok (.iconst 3, 1) := by decide +kernel
theorem dX7_addPerson_71 : decode cX7_addPerson 71 = .ok (.iadd, 1) := by decide +kernel
theorem dX7_addPerson_72 : decode cX7_addPerson 72 = .ok (.iload 4, 2) := by decide +kernel
theorem dX7_addPerson_74 : decode cX7_addPerson 74 = .ok (.iastore, 1) := by decide +kernel
theorem dX7_addPerson_75 : decode cX7_addPerson 75 = .ok (.aload_n 0, 1) := by decide +kernel
theorem dX7_addPerson_76 : decode cX7_addPerson 76 = .ok (.getfield 11, 3) := by decide +kernel
theorem dX7_addPerson_79 : decode cX7_addPerson 79 = .ok (.iload 5, 2) := by decide +kernel
theorem dX7_addPerson_81 : decode cX7_addPerson 81 = .ok (.iconst 4, 1) := by decide +kernel
theorem dX7_addPerson_82 : decode cX7_addPerson 82 = .ok (.iadd, 1) := by decide +kernel
theorem dX7_addPerson_83 : decode cX7_addPerson 83 = .ok (.iconst 0, 1) := by decide +kernel
theorem dX7_addPerson_84 : decode cX7_addPerson 84 = .ok (.iastore, 1) := by decide +kernel
theorem dX7_addPerson_85 : decode cX7_addPerson 85 = .ok (.aload_n 0, 1) := by decide +kernel
theorem dX7_addPerson_86 : decode cX7_addPerson 86 = .ok (.getfield 11, 3) := by decide +kernel
theorem dX7_addPerson_89 : decode cX7_addPerson 89 = .ok (.iload 5, 2) := by decide +kernel
theorem dX7_addPerson_91 : decode cX7_addPerson 91 = .ok (.iconst 5, 1) := by decide +kernel
theorem dX7_addPerson_92 : decode cX7_addPerson 92 = .ok (.iadd, 1) := by decide +kernel
theorem dX7_addPerson_93 : decode cX7_addPerson 93 = .ok (.sipush 999, 3) := by decide +kernel
theorem dX7_addPerson_96 : decode cX7_addPerson 96 = .ok (.iastore, 1) := by decide +kernel
theorem dX7_addPerson_97 : decode cX7_addPerson 97 = .ok (.aload_n 0, 1) := by decide +kernel
theorem dX7_addPerson_98 : decode cX7_addPerson 98 = .ok (.getfield 11, 3) := by decide +kernel
theorem dX7_addPerson_101 : decode cX7_addPerson 101 = .ok (.iload 5, 2) := by decide +kernel
theorem dX7_addPerson_103 : decode cX7_addPerson 103 = .ok (.bipush 6, 2) := by decide +kernel
theorem dX7_addPerson_105 : decode cX7_addPerson 105 = .ok (.iadd, 1) := by decide +kernel
theorem dX7_addPerson_106 : decode cX7_addPerson 106 = .ok (.iconst 0, 1) := by decide +kernel
theorem dX7_addPerson_107 : decode cX7_addPerson 107 = .ok (.iastore, 1) := by decide +kernel
theorem dX7_addPerson_108 : decode cX7_addPerson 108 = .ok (.aload_n 0, 1) := by decide +kernel
theorem dX7_addPerson_109 : decode cX7_addPerson 109 = .ok (.getfield 11, 3) := by decide +kernel
theorem dX7_addPerson_112 : decode cX7_addPerson 112 = .ok (.iload 5, 2) := by decide +kernel
theorem dX7_addPerson_114 : decode cX7_addPerson 114 = .ok (.bipush 7, 2) := by decide +kernel
theorem dX7_addPerson_116 : decode cX7_addPerson 116 = .ok (.iadd, 1) := by decide +kernel
theorem dX7_addPerson_117 : decode cX7_addPerson 117 = .ok (.sipush 999, 3) := by decide +kernel
theorem dX7_addPerson_120 : decode cX7_addPerson 120 = .ok (.iastore, 1) := by decide +kernel
theorem dX7_addPerson_121 : decode cX7_addPerson 121 = .ok (.aload_n 0, 1) := by decide +kernel
theorem dX7_addPerson_122 : decode cX7_addPerson 122 = .ok (.getfield 11, 3) := by decide +kernel
theorem dX7_addPerson_125 : decode cX7_addPerson 125 = .ok (.iconst 0, 1) := by decide +kernel
theorem dX7_addPerson_126 : decode cX7_addPerson 126 = .ok (.dup2, 1) := by decide +kernel
theorem dX7_addPerson_127 : decode cX7_addPerson 127 = .ok (.iaload, 1) := by decide +kernel
theorem dX7_addPerson_128 : decode cX7_addPerson 128 = .ok (.iconst 1, 1) := by decide +kernel
theorem dX7_addPerson_129 : decode cX7_addPerson 129 = .ok (.iadd, 1) := by decide +kernel
theorem dX7_addPerson_130 : decode cX7_addPerson 130 = .ok (.iastore, 1) := by decide +kernel
theorem dX7_addPerson_131 : decode cX7_addPerson 131 = .ok (.return_, 1) := by decide +kernel
theorem dX7_setBounds_0 : decode cX7_setBounds 0 = .ok (.aload_n 0, 1) := by decide +kernel
theorem dX7_setBounds_1 : decode cX7_setBounds 1 = .ok (.iload_n 1, 1) := by decide +kernel
theorem dX7_setBounds_2 : decode cX7_setBounds 2 = .ok (.invokevirtual 15, 3) := by decide +kernel
theorem dX7_setBounds_5 : decode cX7_setBounds 5 = .ok (.ifCond .eq 14, 3) := by decide +kernel
theorem dX7_setBounds_8 : decode cX7_setBounds 8 = .ok (.iload_n 2, 1) := by decide +kernel
theorem dX7_setBounds_9 : decode cX7_setBounds 9 = .ok (.iconst 4, 1) := by decide +kernel
theorem dX7_setBounds_10 : decode cX7_setBounds 10 = .ok (.if_icmp .lt 9, 3) := by decide +kernel
theorem dX7_setBounds_13 : decode cX7_setBounds 13 = .ok (.iload_n 2, 1) := by decide +kernel
theorem dX7_setBounds_14 : decode cX7_setBounds 14 = .ok (.bipush 6, 2) := by decide +kernel
theorem dX7_setBounds_16 : decode cX7_setBounds 16 = .ok (.if_icmp .le 4, 3) := by decide +kernel
theorem dX7_setBounds_19 : decode cX7_setBounds 19 = .ok (.return_, 1) := by decide +kernel
theorem dX7_setBounds_20 : decode cX7_setBounds 20 = .ok (.bipush 13, 2) := by decide +kernel
theorem dX7_setBounds_22 : decode cX7_setBounds 22 = .ok (.iload_n 1, 1) := by decide +kernel
theorem dX7_setBounds_23 : decode cX7_setBounds 23 = .ok (.bipush 8, 2) := by decide +kernel
theorem dX7_setBounds_25 : decode cX7_setBounds 25 = .ok (.imul, 1) := by decide +kernel
theorem dX7_setBounds_26 : decode cX7_setBounds 26 = .ok (.iadd, 1) := by decide +kernel
theorem dX7_setBounds_27 : decode cX7_setBounds 27 = .ok (.iload_n 2, 1) := by decide +kernel
theorem dX7_setBounds_28 : decode cX7_setBounds 28 = .ok (.iadd, 1) := by decide +kernel
theorem dX7_setBounds_29 : decode cX7_setBounds 29 = .ok (.istore 5, 2) := by decide +kernel
theorem dX7_setBounds_31 : decode cX7_setBounds 31 = .ok (.aload_n 0, 1) := by decide +kernel
theorem dX7_setBounds_32 : decode cX7_setBounds 32 = .ok (.getfield 11, 3) := by decide +kernel
theorem dX7_setBounds_35 : decode cX7_setBounds 35 = .ok (.iload 5, 2) := by decide +kernel
theorem dX7_setBounds_37 : decode cX7_setBounds 37 = .ok (.iload_n 3, 1) := by decide +kernel
theorem dX7_setBounds_38 : decode cX7_setBounds 38 = .ok (.iastore, 1) := by decide +kernel
theorem dX7_setBounds_39 : decode cX7_setBounds 39 = .ok (.aload_n 0, 1) := by decide +kernel
theorem dX7_setBounds_40 : decode cX7_setBounds 40 = .ok (.getfield 11, 3) := by decide +kernel
theorem dX7_setBounds_43 : decode cX7_setBounds 43 = .ok (.iload 5, 2) := by decide +kernel
theorem dX7_setBounds_45 : decode cX7_setBounds 45 = .ok (.iconst 1, 1) := by decide +kernel
theorem dX7_setBounds_46 : decode cX7_setBounds 46 = .ok (.iadd, 1) := by decide +kernel
theorem dX7_setBounds_47 : decode cX7_setBounds 47 = .ok (.iload 4, 2) := by decide +kernel
theorem dX7_setBounds_49 : decode cX7_setBounds 49 = .ok (.iastore, 1) := by decide +kernel
theorem dX7_setBounds_50 : decode cX7_setBounds 50 = .ok (.return_, 1) := by decide +kernel
theorem dX7_ruleNow_0 : decode cX7_ruleNow 0 = .ok (.aload_n 0, 1) := by decide +kernel
theorem dX7_ruleNow_1 : decode cX7_ruleNow 1 = .ok (.getfield 11, 3) := by decide +kernel
theorem dX7_ruleNow_4 : decode cX7_ruleNow 4 = .ok (.iconst 1, 1) := by decide +kernel
theorem dX7_ruleNow_5 : decode cX7_ruleNow 5 = .ok (.iaload, 1) := by decide +kernel
theorem dX7_ruleNow_6 : decode cX7_ruleNow 6 = .ok (.ireturn, 1) := by decide +kernel
theorem dX7_setRule_0 : decode cX7_setRule 0 = .ok (.aload_n 0, 1) := by decide +kernel
theorem dX7_setRule_1 : decode cX7_setRule 1 = .ok (.getfield 11, 3) := by decide +kernel
theorem dX7_setRule_4 : decode cX7_setRule 4 = .ok (.iconst 1, 1) := by decide +kernel
theorem dX7_setRule_5 : decode cX7_setRule 5 = .ok (.iload_n 1, 1) := by decide +kernel
theorem dX7_setRule_6 : decode cX7_setRule 6 = .ok (.iastore, 1) := by decide +kernel
theorem dX7_setRule_7 : decode cX7_setRule 7 = .ok (.return_, 1) := by decide +kernel
theorem dX7_signs_0 : decode cX7_signs 0 = .ok (.aload_n 0, 1) := by decide +kernel
theorem dX7_signs_1 : decode cX7_signs 1 = .ok (.getfield 11, 3) := by decide +kernel
theorem dX7_signs_4 : decode cX7_signs 4 = .ok (.iconst 2, 1) := by decide +kernel
theorem dX7_signs_5 : decode cX7_signs 5 = .ok (.iaload, 1) := by decide +kernel
theorem dX7_signs_6 : decode cX7_signs 6 = .ok (.ireturn, 1) := by decide +kernel
theorem dX7_signNumber_0 : decode cX7_signNumber 0 = .ok (.iload_n 1, 1) := by decide +kernel
theorem dX7_signNumber_1 : decode cX7_signNumber 1 = .ok (.ifCond .lt 28, 3) := by decide +kernel
theorem dX7_signNumber_4 : decode cX7_signNumber 4 = .ok (.iload_n 1, 1) := by decide +kernel
theorem dX7_signNumber_5 : decode cX7_signNumber 5 = .ok (.bipush 10, 2) := by decide +kernel
theorem dX7_signNumber_7 : decode cX7_signNumber 7 = .ok (.if_icmp .ge 22, 3) := by decide +kernel
theorem dX7_signNumber_10 : decode cX7_signNumber 10 = .ok (.iload_n 1, 1) := by decide +kernel
theorem dX7_signNumber_11 : decode cX7_signNumber 11 = .ok (.aload_n 0, 1) := by decide +kernel
theorem dX7_signNumber_12 : decode cX7_signNumber 12 = .ok (.invokevirtual 31, 3) := by decide +kernel
theorem dX7_signNumber_15 : decode cX7_signNumber 15 = .ok (.if_icmp .ge 14, 3) := by decide +kernel
theorem dX7_signNumber_18 : decode cX7_signNumber 18 = .ok (.aload_n 0, 1) := by decide +kernel
theorem dX7_signNumber_19 : decode cX7_signNumber 19 = .ok (.getfield 11, 3) := by decide +kernel
theorem dX7_signNumber_22 : decode cX7_signNumber 22 = .ok (.iconst 3, 1) := by decide +kernel
theorem dX7_signNumber_23 : decode cX7_signNumber 23 = .ok (.iload_n 1, 1) := by decide +kernel
theorem dX7_signNumber_24 : decode cX7_signNumber 24 = .ok (.iadd, 1) := by decide +kernel
theorem dX7_signNumber_25 : decode cX7_signNumber 25 = .ok (.iaload, 1) := by decide +kernel
theorem dX7_signNumber_26 : decode cX7_signNumber 26 = .ok (.goto 4, 3) := by decide +kernel
theorem dX7_signNumber_29 : decode cX7_signNumber 29 = .ok (.iconst (-1), 1) := by decide +kernel
theorem dX7_signNumber_30 : decode cX7_signNumber 30 = .ok (.ireturn, 1) := by decide +kernel
theorem dX7_addSign_0 : decode cX7_addSign 0 = .ok (.aload_n 0, 1) := by decide +kernel
theorem dX7_addSign_1 : decode cX7_addSign 1 = .ok (.invokevirtual 31, 3) := by decide +kernel
theorem dX7_addSign_4 : decode cX7_addSign 4 = .ok (.bipush 10, 2) := by decide +kernel
theorem dX7_addSign_6 : decode cX7_addSign 6 = .ok (.if_icmp .ge 25, 3) := by decide +kernel
theorem dX7_addSign_9 : decode cX7_addSign 9 = .ok (.aload_n 0, 1) := by decide +kernel
theorem dX7_addSign_10 : decode cX7_addSign 10 = .ok (.getfield 11, 3) := by decide +kernel
theorem dX7_addSign_13 : decode cX7_addSign 13 = .ok (.iconst 3, 1) := by decide +kernel
theorem dX7_addSign_14 : decode cX7_addSign 14 = .ok (.aload_n 0, 1) := by decide +kernel
theorem dX7_addSign_15 : decode cX7_addSign 15 = .ok (.invokevirtual 31, 3) := by decide +kernel
theorem dX7_addSign_18 : decode cX7_addSign 18 = .ok (.iadd, 1) := by decide +kernel
theorem dX7_addSign_19 : decode cX7_addSign 19 = .ok (.iload_n 1, 1) := by decide +kernel
theorem dX7_addSign_20 : decode cX7_addSign 20 = .ok (.iastore, 1) := by decide +kernel
theorem dX7_addSign_21 : decode cX7_addSign 21 = .ok (.aload_n 0, 1) := by decide +kernel
theorem dX7_addSign_22 : decode cX7_addSign 22 = .ok (.getfield 11, 3) := by decide +kernel
theorem dX7_addSign_25 : decode cX7_addSign 25 = .ok (.iconst 2, 1) := by decide +kernel
theorem dX7_addSign_26 : decode cX7_addSign 26 = .ok (.dup2, 1) := by decide +kernel
theorem dX7_addSign_27 : decode cX7_addSign 27 = .ok (.iaload, 1) := by decide +kernel
theorem dX7_addSign_28 : decode cX7_addSign 28 = .ok (.iconst 1, 1) := by decide +kernel
theorem dX7_addSign_29 : decode cX7_addSign 29 = .ok (.iadd, 1) := by decide +kernel
theorem dX7_addSign_30 : decode cX7_addSign 30 = .ok (.iastore, 1) := by decide +kernel
theorem dX7_addSign_31 : decode cX7_addSign 31 = .ok (.return_, 1) := by decide +kernel
theorem dX7_clearSigns_0 : decode cX7_clearSigns 0 = .ok (.aload_n 0, 1) := by decide +kernel
theorem dX7_clearSigns_1 : decode cX7_clearSigns 1 = .ok (.getfield 11, 3) := by decide +kernel
theorem dX7_clearSigns_4 : decode cX7_clearSigns 4 = .ok (.iconst 2, 1) := by decide +kernel
theorem dX7_clearSigns_5 : decode cX7_clearSigns 5 = .ok (.iconst 0, 1) := by decide +kernel
theorem dX7_clearSigns_6 : decode cX7_clearSigns 6 = .ok (.iastore, 1) := by decide +kernel
theorem dX7_clearSigns_7 : decode cX7_clearSigns 7 = .ok (.return_, 1) := by decide +kernel
theorem dX8_init_0 : decode cX8_init 0 = .ok (.aload_n 0, 1) := by decide +kernel
theorem dX8_init_1 : decode cX8_init 1 = .ok (.invokespecial 3, 3) := by decide +kernel
theorem dX8_init_4 : decode cX8_init 4 = .ok (.aload_n 0, 1) := by decide +kernel
theorem dX8_init_5 : decode cX8_init 5 = .ok (.bipush 11, 2) := by decide +kernel
theorem dX8_init_7 : decode cX8_init 7 = .ok (.newarray .int, 2) := by decide +kernel
theorem dX8_init_9 : decode cX8_init 9 = .ok (.putfield 9, 3) := by decide +kernel
theorem dX8_init_12 : decode cX8_init 12 = .ok (.return_, 1) := by decide +kernel
theorem dX8_fits_0 : decode cX8_fits 0 = .ok (.iload_n 0, 1) := by decide +kernel
theorem dX8_fits_1 : decode cX8_fits 1 = .ok (.bipush 10, 2) := by decide +kernel
theorem dX8_fits_3 : decode cX8_fits 3 = .ok (.if_icmp .eq 8, 3) := by decide +kernel
theorem dX8_fits_6 : decode cX8_fits 6 = .ok (.iload_n 0, 1) := by decide +kernel
theorem dX8_fits_7 : decode cX8_fits 7 = .ok (.iload_n 1, 1) := by decide +kernel
theorem dX8_fits_8 : decode cX8_fits 8 = .ok (.if_icmp .ne 7, 3) := by decide +kernel
theorem dX8_fits_11 : decode cX8_fits 11 = .ok (.iconst 1, 1) := by decide +kernel
theorem dX8_fits_12 : decode cX8_fits 12 = .ok (.goto 4, 3) := by decide +kernel
theorem dX8_fits_15 : decode cX8_fits 15 = .ok (.iconst 0, 1) := by decide +kernel
theorem dX8_fits_16 : decode cX8_fits 16 = .ok (.ireturn, 1) := by decide +kernel
theorem dX8_meantByAll_0 : decode cX8_meantByAll 0 = .ok (.iconst 0, 1) := by decide +kernel
theorem dX8_meantByAll_1 : decode cX8_meantByAll 1 = .ok (.istore_n 3, 1) := by decide +kernel
theorem dX8_meantByAll_2 : decode cX8_meantByAll 2 = .ok (.iconst 0, 1) := by decide +kernel
theorem dX8_meantByAll_3 : decode cX8_meantByAll 3 = .ok (.istore 4, 2) := by decide +kernel
theorem dX8_meantByAll_5 : decode cX8_meantByAll 5 = .ok (.iload 4, 2) := by decide +kernel
theorem dX8_meantByAll_7 : decode cX8_meantByAll 7 = .ok (.aload_n 1, 1) := by decide +kernel
theorem dX8_meantByAll_8 : decode cX8_meantByAll 8 = .ok (.invokevirtual 15, 3) := by decide +kernel
theorem dX8_meantByAll_11 : decode cX8_meantByAll 11 = .ok (.if_icmp .ge 46, 3) := by decide +kernel
theorem dX8_meantByAll_14 : decode cX8_meantByAll 14 = .ok (.aload_n 1, 1) := by decide +kernel
theorem dX8_meantByAll_15 : decode cX8_meantByAll 15 = .ok (.invokevirtual 21, 3) := by decide +kernel
theorem dX8_meantByAll_18 : decode cX8_meantByAll 18 = .ok (.ifCond .le 33, 3) := by decide +kernel
theorem dX8_meantByAll_21 : decode cX8_meantByAll 21 = .ok (.aload_n 2, 1) := by decide +kernel
theorem dX8_meantByAll_22 : decode cX8_meantByAll 22 = .ok (.iload 4, 2) := by decide +kernel
theorem dX8_meantByAll_24 : decode cX8_meantByAll 24 = .ok (.invokevirtual 24, 3) := by decide +kernel
theorem dX8_meantByAll_27 : decode cX8_meantByAll 27 = .ok (.aload_n 1, 1) := by decide +kernel
theorem dX8_meantByAll_28 : decode cX8_meantByAll 28 = .ok (.invokevirtual 21, 3) := by decide +kernel
theorem dX8_meantByAll_31 : decode cX8_meantByAll 31 = .ok (.if_icmp .ne 20, 3) := by decide +kernel
theorem dX8_meantByAll_34 : decode cX8_meantByAll 34 = .ok (.aload_n 1, 1) := by decide +kernel
theorem dX8_meantByAll_35 : decode cX8_meantByAll 35 = .ok (.aload_n 2, 1) := by decide +kernel
theorem dX8_meantByAll_36 : decode cX8_meantByAll 36 = .ok (.iload 4, 2) := by decide +kernel
theorem dX8_meantByAll_38 : decode cX8_meantByAll 38 = .ok (.invokestatic 30, 3) := by decide +kernel
theorem dX8_meantByAll_41 : decode cX8_meantByAll 41 = .ok (.ifCond .eq 10, 3) := by decide +kernel
theorem dX8_meantByAll_44 : decode cX8_meantByAll 44 = .ok (.iload_n 3, 1) := by decide +kernel
theorem dX8_meantByAll_45 : decode cX8_meantByAll 45 = .ok (.iconst 1, 1) := by decide +kernel
theorem dX8_meantByAll_46 : decode cX8_meantByAll 46 = .ok (.iload 4, 2) := by decide +kernel
theorem dX8_meantByAll_48 : decode cX8_meantByAll 48 = .ok (.ishl, 1) := by decide +kernel
theorem dX8_meantByAll_49 : decode cX8_meantByAll 49 = .ok (.ior, 1) := by decide +kernel
theorem dX8_meantByAll_50 : decode cX8_meantByAll 50 = .ok (.istore_n 3, 1) := by decide +kernel
theorem dX8_meantByAll_51 : decode cX8_meantByAll 51 = .ok (.iinc 4 1, 3) := by decide +kernel
theorem dX8_meantByAll_54 : decode cX8_meantByAll 54 = .ok (.goto (-49), 3) := by decide +kernel
theorem dX8_meantByAll_57 : decode cX8_meantByAll 57 = .ok (.iload_n 3, 1) := by decide +kernel
theorem dX8_meantByAll_58 : decode cX8_meantByAll 58 = .ok (.ireturn, 1) := by decide +kernel
theorem dX8_fitsEach_0 : decode cX8_fitsEach 0 = .ok (.iconst 0, 1) := by decide +kernel
theorem dX8_fitsEach_1 : decode cX8_fitsEach 1 = .ok (.istore_n 3, 1) := by decide +kernel
theorem dX8_fitsEach_2 : decode cX8_fitsEach 2 = .ok (.iload_n 3, 1) := by decide +kernel
theorem dX8_fitsEach_3 : decode cX8_fitsEach 3 = .ok (.aload_n 0, 1) := by decide +kernel
theorem dX8_fitsEach_4 : decode cX8_fitsEach 4 = .ok (.invokevirtual 21, 3) := by decide +kernel
theorem dX8_fitsEach_7 : decode cX8_fitsEach 7 = .ok (.if_icmp .ge 28, 3) := by decide +kernel
theorem dX8_fitsEach_10 : decode cX8_fitsEach 10 = .ok (.aload_n 0, 1) := by decide +kernel
theorem dX8_fitsEach_11 : decode cX8_fitsEach 11 = .ok (.iload_n 3, 1) := by decide +kernel
theorem dX8_fitsEach_12 : decode cX8_fitsEach 12 = .ok (.invokevirtual 34, 3) := by decide +kernel
theorem dX8_fitsEach_15 : decode cX8_fitsEach 15 = .ok (.aload_n 1, 1) := by decide +kernel
theorem dX8_fitsEach_16 : decode cX8_fitsEach 16 = .ok (.iload_n 2, 1) := by decide +kernel
theorem dX8_fitsEach_17 : decode cX8_fitsEach 17 = .ok (.iload_n 3, 1) := by decide +kernel
theorem dX8_fitsEach_18 : decode cX8_fitsEach 18 = .ok (.invokevirtual 37, 3) := by decide +kernel
theorem dX8_fitsEach_21 : decode cX8_fitsEach 21 = .ok (.invokestatic 41, 3) := by decide +kernel
theorem dX8_fitsEach_24 : decode cX8_fitsEach 24 = .ok (.ifCond .ne 5, 3) := by decide +kernel
theorem dX8_fitsEach_27 : decode cX8_fitsEach 27 = .ok (.iconst 0, 1) := by decide +kernel
theorem dX8_fitsEach_28 : decode cX8_fitsEach 28 = .ok (.ireturn, 1) := by decide +kernel
theorem dX8_fitsEach_29 : decode cX8_fitsEach 29 = .ok (.iinc 3 1, 3) := by decide +kernel
theorem dX8_fitsEach_32 : decode cX8_fitsEach 32 = .ok (.goto (-30), 3) := by decide +kernel
theorem dX8_fitsEach_35 : decode cX8_fitsEach 35 = .ok (.iconst 1, 1) := by decide +kernel
theorem dX8_fitsEach_36 : decode cX8_fitsEach 36 = .ok (.ireturn, 1) := by decide +kernel
theorem dX8_meantBySome_0 : decode cX8_meantBySome 0 = .ok (.iconst 0, 1) := by decide +kernel
theorem dX8_meantBySome_1 : decode cX8_meantBySome 1 = .ok (.istore_n 3, 1) := by decide +kernel
theorem dX8_meantBySome_2 : decode cX8_meantBySome 2 = .ok (.iconst 0, 1) := by decide +kernel
theorem dX8_meantBySome_3 : decode cX8_meantBySome 3 = .ok (.istore 4, 2) := by decide +kernel
theorem dX8_meantBySome_5 : decode cX8_meantBySome 5 = .ok (.iload 4, 2) := by decide +kernel
theorem dX8_meantBySome_7 : decode cX8_meantBySome 7 = .ok (.aload_n 1, 1) := by decide +kernel
theorem dX8_meantBySome_8 : decode cX8_meantBySome 8 = .ok (.invokevirtual 15, 3) := by decide +kernel
theorem dX8_meantBySome_11 : decode cX8_meantBySome 11 = .ok (.if_icmp .ge 51, 3) := by decide +kernel
theorem dX8_meantBySome_14 : decode cX8_meantBySome 14 = .ok (.aload_n 1, 1) := by decide +kernel
theorem dX8_meantBySome_15 : decode cX8_meantBySome 15 = .ok (.invokevirtual 21, 3) := by decide +kernel
theorem dX8_meantBySome_18 : decode cX8_meantBySome 18 = .ok (.ifCond .le 38, 3) := by decide +kernel
theorem dX8_meantBySome_21 : decode cX8_meantBySome 21 = .ok (.aload_n 1, 1) := by decide +kernel
theorem dX8_meantBySome_22 : decode cX8_meantBySome 22 = .ok (.iconst 0, 1) := by decide +kernel
theorem dX8_meantBySome_23 : decode cX8_meantBySome 23 = .ok (.invokevirtual 34, 3) := by decide +kernel
theorem dX8_meantBySome_26 : decode cX8_meantBySome 26 = .ok (.aload_n 2, 1) := by decide +kernel
theorem dX8_meantBySome_27 : decode cX8_meantBySome 27 = .ok (.iload 4, 2) := by decide +kernel
theorem dX8_meantBySome_29 : decode cX8_meantBySome 29 = .ok (.iconst 0, 1) := by decide +kernel
theorem dX8_meantBySome_30 : decode cX8_meantBySome 30 = .ok (.invokevirtual 37, 3) := by decide +kernel
theorem dX8_meantBySome_33 : decode cX8_meantBySome 33 = .ok (.invokestatic 41, 3) := by decide +kernel
theorem dX8_meantBySome_36 : decode cX8_meantBySome 36 = .ok (.ifCond .eq 20, 3) := by decide +kernel
theorem dX8_meantBySome_39 : decode cX8_meantBySome 39 = .ok (.aload_n 1, 1) := by decide +kernel
theorem dX8_meantBySome_40 : decode cX8_meantBySome 40 = .ok (.aload_n 2, 1) := by decide +kernel
theorem dX8_meantBySome_41 : decode cX8_meantBySome 41 = .ok (.iload 4, 2) := by decide +kernel
theorem dX8_meantBySome_43 : decode cX8_meantBySome 43 = .ok (.invokestatic 45, 3) := by decide +kernel
theorem dX8_meantBySome_46 : decode cX8_meantBySome 46 = .ok (.ifCond .eq 10, 3) := by decide +kernel
theorem dX8_meantBySome_49 : decode cX8_meantBySome 49 = .ok (.iload_n 3, 1) := by decide +kernel
theorem dX8_meantBySome_50 : decode cX8_meantBySome 50 = .ok (.iconst 1, 1) := by decide +kernel
theorem dX8_meantBySome_51 : decode cX8_meantBySome 51 = .ok (.iload 4, 2) := by decide +kernel
theorem dX8_meantBySome_53 : decode cX8_meantBySome 53 = .ok (.ishl, 1) := by decide +kernel
theorem dX8_meantBySome_54 : decode cX8_meantBySome 54 = .ok (.ior, 1) := by decide +kernel
theorem dX8_meantBySome_55 : decode cX8_meantBySome 55 = .ok (.istore_n 3, 1) := by decide +kernel
theorem dX8_meantBySome_56 : decode cX8_meantBySome 56 = .ok (.iinc 4 1, 3) := by decide +kernel
theorem dX8_meantBySome_59 : decode cX8_meantBySome 59 = .ok (.goto (-54), 3) := by decide +kernel
theorem dX8_meantBySome_62 : decode cX8_meantBySome 62 = .ok (.iload_n 3, 1) := by decide +kernel
theorem dX8_meantBySome_63 : decode cX8_meantBySome 63 = .ok (.ireturn, 1) := by decide +kernel
theorem dX8_holdsRest_0 : decode cX8_holdsRest 0 = .ok (.iconst 1, 1) := by decide +kernel
theorem dX8_holdsRest_1 : decode cX8_holdsRest 1 = .ok (.istore_n 3, 1) := by decide +kernel
theorem dX8_holdsRest_2 : decode cX8_holdsRest 2 = .ok (.iconst 1, 1) := by decide +kernel
theorem dX8_holdsRest_3 : decode cX8_holdsRest 3 = .ok (.istore 4, 2) := by decide +kernel
theorem dX8_holdsRest_5 : decode cX8_holdsRest 5 = .ok (.iload 4, 2) := by decide +kernel
theorem dX8_holdsRest_7 : decode cX8_holdsRest 7 = .ok (.aload_n 1, 1) := by decide +kernel
theorem dX8_holdsRest_8 : decode cX8_holdsRest 8 = .ok (.iload_n 2, 1) := by decide +kernel
theorem dX8_holdsRest_9 : decode cX8_holdsRest 9 = .ok (.invokevirtual 24, 3) := by decide +kernel
theorem dX8_holdsRest_12 : decode cX8_holdsRest 12 = .ok (.if_icmp .ge 38, 3) := by decide +kernel
theorem dX8_holdsRest_15 : decode cX8_holdsRest 15 = .ok (.iload_n 3, 1) := by decide +kernel
theorem dX8_holdsRest_16 : decode cX8_holdsRest 16 = .ok (.aload_n 0, 1) := by decide +kernel
theorem dX8_holdsRest_17 : decode cX8_holdsRest 17 = .ok (.invokevirtual 21, 3) := by decide +kernel
theorem dX8_holdsRest_20 : decode cX8_holdsRest 20 = .ok (.if_icmp .ge 30, 3) := by decide +kernel
theorem dX8_holdsRest_23 : decode cX8_holdsRest 23 = .ok (.aload_n 0, 1) := by decide +kernel
theorem dX8_holdsRest_24 : decode cX8_holdsRest 24 = .ok (.iload_n 3, 1) := by decide +kernel
theorem dX8_holdsRest_25 : decode cX8_holdsRest 25 = .ok (.invokevirtual 34, 3) := by decide +kernel
theorem dX8_holdsRest_28 : decode cX8_holdsRest 28 = .ok (.aload_n 1, 1) := by decide +kernel
theorem dX8_holdsRest_29 : decode cX8_holdsRest 29 = .ok (.iload_n 2, 1) := by decide +kernel
theorem dX8_holdsRest_30 : decode cX8_holdsRest 30 = .ok (.iload 4, 2) := by decide +kernel
theorem dX8_holdsRest_32 : decode cX8_holdsRest 32 = .ok (.invokevirtual 37, 3) := by decide +kernel
theorem dX8_holdsRest_35 : decode cX8_holdsRest 35 = .ok (.invokestatic 41, 3) := by decide +kernel
theorem dX8_holdsRest_38 : decode cX8_holdsRest 38 = .ok (.ifCond .eq 6, 3) := by decide +kernel
theorem dX8_holdsRest_41 : decode cX8_holdsRest 41 = .ok (.iinc 3 1, 3) := by decide +kernel
theorem dX8_holdsRest_44 : decode cX8_holdsRest 44 = .ok (.iinc 4 1, 3) := by decide +kernel
theorem dX8_holdsRest_47 : decode cX8_holdsRest 47 = .ok (.goto (-42), 3) := by decide +kernel
theorem dX8_holdsRest_50 : decode cX8_holdsRest 50 = .ok (.iload_n 3, 1) := by decide +kernel
theorem dX8_holdsRest_51 : decode cX8_holdsRest 51 = .ok (.aload_n 0, 1) := by decide +kernel
theorem dX8_holdsRest_52 : decode cX8_holdsRest 52 = .ok (.invokevirtual 21, 3) := by decide +kernel
theorem dX8_holdsRest_55 : decode cX8_holdsRest 55 = .ok (.if_icmp .lt 7, 3) := by decide +kernel
theorem dX8_holdsRest_58 : decode cX8_holdsRest 58 = .ok (.iconst 1, 1) := by decide +kernel
theorem dX8_holdsRest_59 : decode cX8_holdsRest 59 = .ok (.goto 4, 3) := by decide +kernel
theorem dX8_holdsRest_62 : decode cX8_holdsRest 62 = .ok (.iconst 0, 1) := by decide +kernel
theorem dX8_holdsRest_63 : decode cX8_holdsRest 63 = .ok (.ireturn, 1) := by decide +kernel
theorem dX8_like_0 : decode cX8_like 0 = .ok (.aload_n 2, 1) := by decide +kernel
theorem dX8_like_1 : decode cX8_like 1 = .ok (.iload_n 3, 1) := by decide +kernel
theorem dX8_like_2 : decode cX8_like 2 = .ok (.invokevirtual 24, 3) := by decide +kernel
theorem dX8_like_5 : decode cX8_like 5 = .ok (.bipush 10, 2) := by decide +kernel
theorem dX8_like_7 : decode cX8_like 7 = .ok (.invokestatic 48, 3) := by decide +kernel
theorem dX8_like_10 : decode cX8_like 10 = .ok (.istore 4, 2) := by decide +kernel
theorem dX8_like_12 : decode cX8_like 12 = .ok (.iconst 0, 1) := by decide +kernel
theorem dX8_like_13 : decode cX8_like 13 = .ok (.istore 5, 2) := by decide +kernel
theorem dX8_like_15 : decode cX8_like 15 = .ok (.iload 5, 2) := by decide +kernel
theorem dX8_like_17 : decode cX8_like 17 = .ok (.iload 4, 2) := by decide +kernel
theorem dX8_like_19 : decode cX8_like 19 = .ok (.if_icmp .gt 17, 3) := by decide +kernel
theorem dX8_like_22 : decode cX8_like 22 = .ok (.aload_n 0, 1) := by decide +kernel
theorem dX8_like_23 : decode cX8_like 23 = .ok (.getfield 9, 3) := by decide +kernel
theorem dX8_like_26 : decode cX8_like 26 = .ok (.iload 5, 2) := by decide +kernel
theorem dX8_like_28 : decode cX8_like 28 = .ok (.iconst 0, 1) := by decide +kernel
theorem dX8_like_29 : decode cX8_like 29 = .ok (.iastore, 1) := by decide +kernel
theorem dX8_like_30 : decode cX8_like 30 = .ok (.iinc 5 1, 3) := by decide +kernel
theorem dX8_like_33 : decode cX8_like 33 = .ok (.goto (-18), 3) := by decide +kernel
theorem dX8_like_36 : decode cX8_like 36 = .ok (.iconst 0, 1) := by decide +kernel
theorem dX8_like_37 : decode cX8_like 37 = .ok (.istore 5, 2) := by decide +kernel
theorem dX8_like_39 : decode cX8_like 39 = .ok (.iload 5, 2) := by decide +kernel
theorem dX8_like_41 : decode cX8_like 41 = .ok (.aload_n 1, 1) := by decide +kernel
theorem dX8_like_42 : decode cX8_like 42 = .ok (.invokevirtual 21, 3) := by decide +kernel
theorem dX8_like_45 : decode cX8_like 45 = .ok (.if_icmp .ge 34, 3) := by decide +kernel
theorem dX8_like_48 : decode cX8_like 48 = .ok (.aload_n 1, 1) := by decide +kernel
theorem dX8_like_49 : decode cX8_like 49 = .ok (.iload 5, 2) := by decide +kernel
theorem dX8_like_51 : decode cX8_like 51 = .ok (.invokevirtual 34, 3) := by decide +kernel
theorem dX8_like_54 : decode cX8_like 54 = .ok (.bipush 10, 2) := by decide +kernel
theorem dX8_like_56 : decode cX8_like 56 = .ok (.if_icmp .eq 17, 3) := by decide +kernel
theorem dX8_like_59 : decode cX8_like 59 = .ok (.aload_n 0, 1) := by decide +kernel
theorem dX8_like_60 : decode cX8_like 60 = .ok (.aload_n 1, 1) := by decide +kernel
theorem dX8_like_61 : decode cX8_like 61 = .ok (.iload 5, 2) := by decide +kernel
theorem dX8_like_63 : decode cX8_like 63 = .ok (.invokevirtual 34, 3) := by decide +kernel
theorem dX8_like_66 : decode cX8_like 66 = .ok (.aload_n 2, 1) := by decide +kernel
theorem dX8_like_67 : decode cX8_like 67 = .ok (.iload_n 3, 1) := by decide +kernel
theorem dX8_like_68 : decode cX8_like 68 = .ok (.iload 4, 2) := by decide +kernel
theorem dX8_like_70 : decode cX8_like 70 = .ok (.invokevirtual 53, 3) := by decide +kernel
theorem dX8_like_73 : decode cX8_like 73 = .ok (.iinc 5 1, 3) := by decide +kernel
theorem dX8_like_76 : decode cX8_like 76 = .ok (.goto (-37), 3) := by decide +kernel
theorem dX8_like_79 : decode cX8_like 79 = .ok (.aload_n 0, 1) := by decide +kernel
theorem dX8_like_80 : decode cX8_like 80 = .ok (.getfield 9, 3) := by decide +kernel
theorem dX8_like_83 : decode cX8_like 83 = .ok (.iload 4, 2) := by decide +kernel
theorem dX8_like_85 : decode cX8_like 85 = .ok (.iaload, 1) := by decide +kernel
theorem dX8_like_86 : decode cX8_like 86 = .ok (.ireturn, 1) := by decide +kernel
theorem dX8_countOneMore_0 : decode cX8_countOneMore 0 = .ok (.iconst 0, 1) := by decide +kernel
theorem dX8_countOneMore_1 : decode cX8_countOneMore 1 = .ok (.istore 5, 2) := by decide +kernel
theorem dX8_countOneMore_3 : decode cX8_countOneMore 3 = .ok (.iconst 1, 1) := by decide +kernel
theorem dX8_countOneMore_4 : decode cX8_countOneMore 4 = .ok (.istore 6, 2) := by decide +kernel
theorem dX8_countOneMore_6 : decode cX8_countOneMore 6 = .ok (.iload 6, 2) := by decide +kernel
theorem dX8_countOneMore_8 : decode cX8_countOneMore 8 = .ok (.iload 4, 2) := by decide +kernel
theorem dX8_countOneMore_10 : decode cX8_countOneMore 10 = .ok (.if_icmp .gt 85, 3) := by decide +kernel
theorem dX8_countOneMore_13 : decode cX8_countOneMore 13 = .ok (.iload 6, 2) := by decide +kernel
theorem dX8_countOneMore_15 : decode cX8_countOneMore 15 = .ok (.aload_n 0, 1) := by decide +kernel
theorem dX8_countOneMore_16 : decode cX8_countOneMore 16 = .ok (.getfield 9, 3) := by decide +kernel
theorem dX8_countOneMore_19 : decode cX8_countOneMore 19 = .ok (.arraylength, 1) := by decide +kernel
theorem dX8_countOneMore_20 : decode cX8_countOneMore 20 = .ok (.if_icmp .ge 75, 3) := by decide +kernel
theorem dX8_countOneMore_23 : decode cX8_countOneMore 23 = .ok (.aload_n 0, 1) := by decide +kernel
theorem dX8_countOneMore_24 : decode cX8_countOneMore 24 = .ok (.getfield 9, 3) := by decide +kernel
theorem dX8_countOneMore_27 : decode cX8_countOneMore 27 = .ok (.iload 6, 2) := by decide +kernel
theorem dX8_countOneMore_29 : decode cX8_countOneMore 29 = .ok (.iaload, 1) := by decide +kernel
theorem dX8_countOneMore_30 : decode cX8_countOneMore 30 = .ok (.istore 7, 2) := by decide +kernel
theorem dX8_countOneMore_32 : decode cX8_countOneMore 32 = .ok (.aload_n 2, 1) := by decide +kernel
theorem dX8_countOneMore_33 : decode cX8_countOneMore 33 = .ok (.iload_n 3, 1) := by decide +kernel
theorem dX8_countOneMore_34 : decode cX8_countOneMore 34 = .ok (.iload 6, 2) := by decide +kernel
theorem dX8_countOneMore_36 : decode cX8_countOneMore 36 = .ok (.iconst 1, 1) := by decide +kernel
theorem dX8_countOneMore_37 : decode cX8_countOneMore 37 = .ok (.isub, 1) := by decide +kernel
theorem dX8_countOneMore_38 : decode cX8_countOneMore 38 = .ok (.invokevirtual 37, 3) := by decide +kernel
theorem dX8_countOneMore_41 : decode cX8_countOneMore 41 = .ok (.iload_n 1, 1) := by decide +kernel
theorem dX8_countOneMore_42 : decode cX8_countOneMore 42 = .ok (.if_icmp .ne 17, 3) := by decide +kernel
theorem dX8_countOneMore_45 : decode cX8_countOneMore 45 = .ok (.aload_n 0, 1) := by decide +kernel
theorem dX8_countOneMore_46 : decode cX8_countOneMore 46 = .ok (.getfield 9, 3) := by decide +kernel
theorem dX8_countOneMore_49 : decode cX8_countOneMore 49 = .ok (.iload 6, 2) := by decide +kernel
theorem dX8_countOneMore_51 : decode cX8_countOneMore 51 = .ok (.iload 5, 2) := by decide +kernel
theorem dX8_countOneMore_53 : decode cX8_countOneMore 53 = .ok (.iconst 1, 1) := by decide +kernel
theorem dX8_countOneMore_54 : decode cX8_countOneMore 54 = .ok (.iadd, 1) := by decide +kernel
theorem dX8_countOneMore_55 : decode cX8_countOneMore 55 = .ok (.iastore, 1) := by decide +kernel
theorem dX8_countOneMore_56 : decode cX8_countOneMore 56 = .ok (.goto 29, 3) := by decide +kernel
theorem dX8_countOneMore_59 : decode cX8_countOneMore 59 = .ok (.aload_n 0, 1) := by decide +kernel
theorem dX8_countOneMore_60 : decode cX8_countOneMore 60 = .ok (.getfield 9, 3) := by decide +kernel
theorem dX8_countOneMore_63 : decode cX8_countOneMore 63 = .ok (.iload 6, 2) := by decide +kernel
theorem dX8_countOneMore_65 : decode cX8_countOneMore 65 = .ok (.aload_n 0, 1) := by decide +kernel
theorem dX8_countOneMore_66 : decode cX8_countOneMore 66 = .ok (.getfield 9, 3) := by decide +kernel
theorem dX8_countOneMore_69 : decode cX8_countOneMore 69 = .ok (.iload 6, 2) := by decide +kernel
theorem dX8_countOneMore_71 : decode cX8_countOneMore 71 = .ok (.iaload, 1) := by decide +kernel
theorem dX8_countOneMore_72 : decode cX8_countOneMore 72 = .ok (.aload_n 0, 1) := by decide +kernel
theorem dX8_countOneMore_73 : decode cX8_countOneMore 73 = .ok (.getfield 9, 3) := by decide +kernel
theorem dX8_countOneMore_76 : decode cX8_countOneMore 76 = .ok (.iload 6, 2) := by decide +kernel
theorem dX8_countOneMore_78 : decode cX8_countOneMore 78 = .ok (.iconst 1, 1) := by decide +kernel
theorem dX8_countOneMore_79 : decode cX8_countOneMore 79 = .ok (.isub, 1) := by decide +kernel
theorem dX8_countOneMore_80 : decode cX8_countOneMore 80 = .ok (.iaload, 1) := by decide +kernel
theorem dX8_countOneMore_81 : decode cX8_countOneMore 81 = .ok (.invokestatic 57, 3) := by decide +kernel
theorem dX8_countOneMore_84 : decode cX8_countOneMore 84 = .ok (.iastore, 1) := by decide +kernel
theorem dX8_countOneMore_85 : decode cX8_countOneMore 85 = .ok (.iload 7, 2) := by decide +kernel
theorem dX8_countOneMore_87 : decode cX8_countOneMore 87 = .ok (.istore 5, 2) := by decide +kernel
theorem dX8_countOneMore_89 : decode cX8_countOneMore 89 = .ok (.iinc 6 1, 3) := by decide +kernel
theorem dX8_countOneMore_92 : decode cX8_countOneMore 92 = .ok (.goto (-86), 3) := by decide +kernel
theorem dX8_countOneMore_95 : decode cX8_countOneMore 95 = .ok (.return_, 1) := by decide +kernel
theorem dX8_likely_0 : decode cX8_likely 0 = .ok (.iconst (-1), 1) := by decide +kernel
theorem dX8_likely_1 : decode cX8_likely 1 = .ok (.istore_n 3, 1) := by decide +kernel
theorem dX8_likely_2 : decode cX8_likely 2 = .ok (.iconst 0, 1) := by decide +kernel
theorem dX8_likely_3 : decode cX8_likely 3 = .ok (.istore 4, 2) := by decide +kernel
theorem dX8_likely_5 : decode cX8_likely 5 = .ok (.iconst 0, 1) := by decide +kernel
theorem dX8_likely_6 : decode cX8_likely 6 = .ok (.istore 5, 2) := by decide +kernel
theorem dX8_likely_8 : decode cX8_likely 8 = .ok (.iload 5, 2) := by decide +kernel
theorem dX8_likely_10 : decode cX8_likely 10 = .ok (.aload_n 1, 1) := by decide +kernel
theorem dX8_likely_11 : decode cX8_likely 11 = .ok (.invokevirtual 15, 3) := by decide +kernel
theorem dX8_likely_14 : decode cX8_likely 14 = .ok (.if_icmp .ge 71, 3) := by decide +kernel
theorem dX8_likely_17 : decode cX8_likely 17 = .ok (.aload_n 0, 1) := by decide +kernel
theorem dX8_likely_18 : decode cX8_likely 18 = .ok (.aload_n 1, 1) := by decide +kernel
theorem dX8_likely_19 : decode cX8_likely 19 = .ok (.aload_n 2, 1) := by decide +kernel
theorem dX8_likely_20 : decode cX8_likely 20 = .ok (.iload 5, 2) := by decide +kernel
theorem dX8_likely_22 : decode cX8_likely 22 = .ok (.invokevirtual 60, 3) := by decide +kernel
theorem dX8_likely_25 : decode cX8_likely 25 = .ok (.istore 6, 2) := by decide +kernel
theorem dX8_likely_27 : decode cX8_likely 27 = .ok (.iload_n 3, 1) := by decide +kernel
theorem dX8_likely_28 : decode cX8_likely 28 = .ok (.iconst (-1), 1) := by decide +kernel
theorem dX8_likely_29 : decode cX8_likely 29 = .ok (.if_icmp .eq 28, 3) := by decide +kernel
theorem dX8_likely_32 : decode cX8_likely 32 = .ok (.iload 6, 2) := by decide +kernel
theorem dX8_likely_34 : decode cX8_likely 34 = .ok (.iload 4, 2) := by decide +kernel
theorem dX8_likely_36 : decode cX8_likely 36 = .ok (.if_icmp .ne 21, 3) := by decide +kernel
theorem dX8_likely_39 : decode cX8_likely 39 = .ok (.aload_n 2, 1) := by decide +kernel
theorem dX8_likely_40 : decode cX8_likely 40 = .ok (.iload 5, 2) := by decide +kernel
theorem dX8_likely_42 : decode cX8_likely 42 = .ok (.invokevirtual 24, 3) := by decide +kernel
theorem dX8_likely_45 : decode cX8_likely 45 = .ok (.aload_n 2, 1) := by decide +kernel
theorem dX8_likely_46 : decode cX8_likely 46 = .ok (.iload_n 3, 1) := by decide +kernel
theorem dX8_likely_47 : decode cX8_likely 47 = .ok (.invokevirtual 24, 3) := by decide +kernel
theorem dX8_likely_50 : decode cX8_likely 50 = .ok (.if_icmp .ge 7, 3) := by decide +kernel
theorem dX8_likely_53 : decode cX8_likely 53 = .ok (.iconst 1, 1) := by decide +kernel
theorem dX8_likely_54 : decode cX8_likely 54 = .ok (.goto 4, 3) := by decide +kernel
theorem dX8_likely_57 : decode cX8_likely 57 = .ok (.iconst 0, 1) := by decide +kernel
theorem dX8_likely_58 : decode cX8_likely 58 = .ok (.istore 7, 2) := by decide +kernel
theorem dX8_likely_60 : decode cX8_likely 60 = .ok (.iload 6, 2) := by decide +kernel
theorem dX8_likely_62 : decode cX8_likely 62 = .ok (.iload 4, 2) := by decide +kernel
theorem dX8_likely_64 : decode cX8_likely 64 = .ok (.if_icmp .gt 8, 3) := by decide +kernel
theorem dX8_likely_67 : decode cX8_likely 67 = .ok (.iload 7, 2) := by decide +kernel
theorem dX8_likely_69 : decode cX8_likely 69 = .ok (.ifCond .eq 10, 3) := by decide +kernel
theorem dX8_likely_72 : decode cX8_likely 72 = .ok (.iload 5, 2) := by decide +kernel
theorem dX8_likely_74 : decode cX8_likely 74 = .ok (.istore_n 3, 1) := by decide +kernel
theorem dX8_likely_75 : decode cX8_likely 75 = .ok (.iload 6, 2) := by decide +kernel
theorem dX8_likely_77 : decode cX8_likely 77 = .ok (.istore 4, 2) := by decide +kernel
theorem dX8_likely_79 : decode cX8_likely 79 = .ok (.iinc 5 1, 3) := by decide +kernel
theorem dX8_likely_82 : decode cX8_likely 82 = .ok (.goto (-74), 3) := by decide +kernel
theorem dX8_likely_85 : decode cX8_likely 85 = .ok (.iload_n 3, 1) := by decide +kernel
theorem dX8_likely_86 : decode cX8_likely 86 = .ok (.ireturn, 1) := by decide +kernel
theorem dX9_init_0 : decode cX9_init 0 = .ok (.aload_n 0, 1) := by decide +kernel
theorem dX9_init_1 : decode cX9_init 1 = .ok (.invokespecial 3, 3) := by decide +kernel
theorem dX9_init_4 : decode cX9_init 4 = .ok (.aload_n 0, 1) := by decide +kernel
theorem dX9_init_5 : decode cX9_init 5 = .ok (.bipush 32, 2) := by decide +kernel
theorem dX9_init_7 : decode cX9_init 7 = .ok (.newarray .int, 2) := by decide +kernel
theorem dX9_init_9 : decode cX9_init 9 = .ok (.putfield 9, 3) := by decide +kernel
theorem dX9_init_12 : decode cX9_init 12 = .ok (.aload_n 0, 1) := by decide +kernel
theorem dX9_init_13 : decode cX9_init 13 = .ok (.bipush 32, 2) := by decide +kernel
theorem dX9_init_15 : decode cX9_init 15 = .ok (.newarray .int, 2) := by decide +kernel
theorem dX9_init_17 : decode cX9_init 17 = .ok (.putfield 15, 3) := by decide +kernel
theorem dX9_init_20 : decode cX9_init 20 = .ok (.aload_n 0, 1) := by decide +kernel
theorem dX9_init_21 : decode cX9_init 21 = .ok (.bipush 112, 2) := by decide +kernel
theorem dX9_init_23 : decode cX9_init 23 = .ok (.newarray .int, 2) := by decide +kernel
theorem dX9_init_25 : decode cX9_init 25 = .ok (.putfield 18, 3) := by decide +kernel
theorem dX9_init_28 : decode cX9_init 28 = .ok (.aload_n 0, 1) := by decide +kernel
theorem dX9_init_29 : decode cX9_init 29 = .ok (.bipush 112, 2) := by decide +kernel
theorem dX9_init_31 : decode cX9_init 31 = .ok (.newarray .int, 2) := by decide +kernel
theorem dX9_init_33 : decode cX9_init 33 = .ok (.putfield 21, 3) := by decide +kernel
theorem dX9_init_36 : decode cX9_init 36 = .ok (.aload_n 0, 1) := by decide +kernel
theorem dX9_init_37 : decode cX9_init 37 = .ok (.bipush 112, 2) := by decide +kernel
theorem dX9_init_39 : decode cX9_init 39 = .ok (.newarray .int, 2) := by decide +kernel
theorem dX9_init_41 : decode cX9_init 41 = .ok (.putfield 24, 3) := by decide +kernel
theorem dX9_init_44 : decode cX9_init 44 = .ok (.return_, 1) := by decide +kernel
theorem dX9_birth_0 : decode cX9_birth 0 = .ok (.iconst 2, 1) := by decide +kernel
theorem dX9_birth_1 : decode cX9_birth 1 = .ok (.iload_n 0, 1) := by decide +kernel
theorem dX9_birth_2 : decode cX9_birth 2 = .ok (.imul, 1) := by decide +kernel
theorem dX9_birth_3 : decode cX9_birth 3 = .ok (.ireturn, 1) := by decide +kernel
theorem dX9_death_0 : decode cX9_death 0 = .ok (.iconst 2, 1) := by decide +kernel
theorem dX9_death_1 : decode cX9_death 1 = .ok (.iload_n 0, 1) := by decide +kernel
theorem dX9_death_2 : decode cX9_death 2 = .ok (.imul, 1) := by decide +kernel
theorem dX9_death_3 : decode cX9_death 3 = .ok (.iconst 1, 1) := by decide +kernel
theorem dX9_death_4 : decode cX9_death 4 = .ok (.iadd, 1) := by decide +kernel
theorem dX9_death_5 : decode cX9_death 5 = .ok (.ireturn, 1) := by decide +kernel
theorem dX9_reckon_0 : decode cX9_reckon 0 = .ok (.aload_n 0, 1) := by decide +kernel
theorem dX9_reckon_1 : decode cX9_reckon 1 = .ok (.iconst 2, 1) := by decide +kernel
theorem dX9_reckon_2 : decode cX9_reckon 2 = .ok (.aload_n 1, 1) := by decide +kernel
theorem dX9_reckon_3 : decode cX9_reckon 3 = .ok (.invokevirtual 27, 3) := by decide +kernel
theorem dX9_reckon_6 : decode cX9_reckon 6 = .ok (.imul, 1) := by decide +kernel
theorem dX9_reckon_7 : decode cX9_reckon 7 = .ok (.bipush 32, 2) := by decide +kernel
theorem dX9_reckon_9 : decode cX9_reckon 9 = .ok (.invokestatic 33, 3) := by decide +kernel
theorem dX9_reckon_12 : decode cX9_reckon 12 = .ok (.putfield 39, 3) := by decide +kernel
theorem dX9_reckon_15 : decode cX9_reckon 15 = .ok (.aload_n 0, 1) := by decide +kernel
theorem dX9_reckon_16 : decode cX9_reckon 16 = .ok (.aload_n 1, 1) := by decide +kernel
theorem dX9_reckon_17 : decode cX9_reckon 17 = .ok (.invokevirtual 43, 3) := by decide +kernel
theorem dX9_reckon_20 : decode cX9_reckon 20 = .ok (.aload_n 0, 1) := by decide +kernel
theorem dX9_reckon_21 : decode cX9_reckon 21 = .ok (.aload_n 1, 1) := by decide +kernel
theorem dX9_reckon_22 : decode cX9_reckon 22 = .ok (.invokevirtual 47, 3) := by decide +kernel
theorem dX9_reckon_25 : decode cX9_reckon 25 = .ok (.aload_n 0, 1) := by decide +kernel
theorem dX9_reckon_26 : decode cX9_reckon 26 = .ok (.aload_n 0, 1) := by decide +kernel
theorem dX9_reckon_27 : decode cX9_reckon 27 = .ok (.invokevirtual 50, 3) := by decide +kernel
theorem dX9_reckon_30 : decode cX9_reckon 30 = .ok (.ifCond .eq 10, 3) := by decide +kernel
theorem dX9_reckon_33 : decode cX9_reckon 33 = .ok (.aload_n 0, 1) := by decide +kernel
theorem dX9_reckon_34 : decode cX9_reckon 34 = .ok (.invokevirtual 54, 3) := by decide +kernel
theorem dX9_reckon_37 : decode cX9_reckon 37 = .ok (.ifCond .eq 7, 3) := by decide +kernel
theorem dX9_reckon_40 : decode cX9_reckon 40 = .ok (.iconst 1, 1) := by decide +kernel
theorem dX9_reckon_41 : decode cX9_reckon 41 = .ok (.goto 4, 3) := by decide +kernel
theorem dX9_reckon_44 : decode cX9_reckon 44 = .ok (.iconst 0, 1) := by decide +kernel
theorem dX9_reckon_45 : decode cX9_reckon 45 = .ok (.putfield 57, 3) := by decide +kernel
theorem dX9_reckon_48 : decode cX9_reckon 48 = .ok (.aload_n 0, 1) := by decide +kernel
theorem dX9_reckon_49 : decode cX9_reckon 49 = .ok (.getfield 57, 3) := by decide +kernel
theorem dX9_reckon_52 : decode cX9_reckon 52 = .ok (.ifCond .ne 7, 3) := by decide +kernel
theorem dX9_reckon_55 : decode cX9_reckon 55 = .ok (.aload_n 0, 1) := by decide +kernel
theorem dX9_reckon_56 : decode cX9_reckon 56 = .ok (.invokevirtual 61, 3) := by decide +kernel
theorem dX9_reckon_59 : decode cX9_reckon 59 = .ok (.return_, 1) := by decide +kernel
theorem dX9_layBounds_0 : decode cX9_layBounds 0 = .ok (.iconst 0, 1) := by decide +kernel
theorem dX9_layBounds_1 : decode cX9_layBounds 1 = .ok (.istore_n 2, 1) := by decide +kernel
theorem dX9_layBounds_2 : decode cX9_layBounds 2 = .ok (.iload_n 2, 1) := by decide +kernel
theorem dX9_layBounds_3 : decode cX9_layBounds 3 = .ok (.aload_n 0, 1) := by decide +kernel
theorem dX9_layBounds_4 : decode cX9_layBounds 4 = .ok (.getfield 39, 3) := by decide +kernel
theorem dX9_layBounds_7 : decode cX9_layBounds 7 = .ok (.iconst 2, 1) := by decide +kernel
theorem dX9_layBounds_8 : decode cX9_layBounds 8 = .ok (.idiv, 1) := by decide +kernel
theorem dX9_layBounds_9 : decode cX9_layBounds 9 = .ok (.if_icmp .ge 71, 3) := by decide +kernel
theorem dX9_layBounds_12 : decode cX9_layBounds 12 = .ok (.aload_n 0, 1) := by decide +kernel
theorem dX9_layBounds_13 : decode cX9_layBounds 13 = .ok (.getfield 9, 3) := by decide +kernel
theorem dX9_layBounds_16 : decode cX9_layBounds 16 = .ok (.iload_n 2, 1) := by decide +kernel
theorem dX9_layBounds_17 : decode cX9_layBounds 17 = .ok (.invokestatic 64, 3) := by decide +kernel
theorem dX9_layBounds_20 : decode cX9_layBounds 20 = .ok (.aload_n 1, 1) := by decide +kernel
theorem dX9_layBounds_21 : decode cX9_layBounds 21 = .ok (.iload_n 2, 1) := by decide +kernel
theorem dX9_layBounds_22 : decode cX9_layBounds 22 = .ok (.iconst 4, 1) := by decide +kernel
theorem dX9_layBounds_23 : decode cX9_layBounds 23 = .ok (.invokevirtual 68, 3) := by decide +kernel
theorem dX9_layBounds_26 : decode cX9_layBounds 26 = .ok (.iastore, 1) := by decide +kernel
theorem dX9_layBounds_27 : decode cX9_layBounds 27 = .ok (.aload_n 0, 1) := by decide +kernel
theorem dX9_layBounds_28 : decode cX9_layBounds 28 = .ok (.getfield 15, 3) := by decide +kernel
theorem dX9_layBounds_31 : decode cX9_layBounds 31 = .ok (.iload_n 2, 1) := by decide +kernel
theorem dX9_layBounds_32 : decode cX9_layBounds 32 = .ok (.invokestatic 64, 3) := by decide +kernel
theorem dX9_layBounds_35 : decode cX9_layBounds 35 = .ok (.aload_n 1, 1) := by decide +kernel
theorem dX9_layBounds_36 : decode cX9_layBounds 36 = .ok (.iload_n 2, 1) := by decide +kernel
theorem dX9_layBounds_37 : decode cX9_layBounds 37 = .ok (.iconst 5, 1) := by decide +kernel
theorem dX9_layBounds_38 : decode cX9_layBounds 38 = .ok (.invokevirtual 68, 3) := by decide +kernel
theorem dX9_layBounds_41 : decode cX9_layBounds 41 = .ok (.iastore, 1) := by decide +kernel
theorem dX9_layBounds_42 : decode cX9_layBounds 42 = .ok (.aload_n 0, 1) := by decide +kernel
theorem dX9_layBounds_43 : decode cX9_layBounds 43 = .ok (.getfield 9, 3) := by decide +kernel
theorem dX9_layBounds_46 : decode cX9_layBounds 46 = .ok (.iload_n 2, 1) := by decide +kernel
theorem dX9_layBounds_47 : decode cX9_layBounds 47 = .ok (.invokestatic 71, 3) := by decide +kernel
theorem dX9_layBounds_50 : decode cX9_layBounds 50 = .ok (.aload_n 1, 1) := by decide +kernel
theorem dX9_layBounds_51 : decode cX9_layBounds 51 = .ok (.iload_n 2, 1) := by decide +kernel
theorem dX9_layBounds_52 : decode cX9_layBounds 52 = .ok (.bipush 6, 2) := by decide +kernel
theorem dX9_layBounds_54 : decode cX9_layBounds 54 = .ok (.invokevirtual 68, 3) := by decide +kernel
theorem dX9_layBounds_57 : decode cX9_layBounds 57 = .ok (.iastore, 1) := by decide +kernel
theorem dX9_layBounds_58 : decode cX9_layBounds 58 = .ok (.aload_n 0, 1) := by decide +kernel
theorem dX9_layBounds_59 : decode cX9_layBounds 59 = .ok (.getfield 15, 3) := by decide +kernel
theorem dX9_layBounds_62 : decode cX9_layBounds 62 = .ok (.iload_n 2, 1) := by decide +kernel
theorem dX9_layBounds_63 : decode cX9_layBounds 63 = .ok (.invokestatic 71, 3) := by decide +kernel
theorem dX9_layBounds_66 : decode cX9_layBounds 66 = .ok (.aload_n 1, 1) := by decide +kernel
theorem dX9_layBounds_67 : decode cX9_layBounds 67 = .ok (.iload_n 2, 1) := by decide +kernel
theorem dX9_layBounds_68 : decode cX9_layBounds 68 = .ok (.bipush 7, 2) := by decide +kernel
theorem dX9_layBounds_70 : decode cX9_layBounds 70 = .ok (.invokevirtual 68, 3) := by decide +kernel
theorem dX9_layBounds_73 : decode cX9_layBounds 73 = .ok (.iastore, 1) := by decide +kernel
theorem dX9_layBounds_74 : decode cX9_layBounds 74 = .ok (.iinc 2 1, 3) := by decide +kernel
theorem dX9_layBounds_77 : decode cX9_layBounds 77 = .ok (.goto (-75), 3) := by decide +kernel
theorem dX9_layBounds_80 : decode cX9_layBounds 80 = .ok (.return_, 1) := by decide +kernel
theorem dX9_layGaps_0 : decode cX9_layGaps 0 = .ok (.aload_n 0, 1) := by decide +kernel
theorem dX9_layGaps_1 : decode cX9_layGaps 1 = .ok (.iconst 0, 1) := by decide +kernel
theorem dX9_layGaps_2 : decode cX9_layGaps 2 = .ok (.putfield 74, 3) := by decide +kernel
theorem dX9_layGaps_5 : decode cX9_layGaps 5 = .ok (.iconst 0, 1) := by decide +kernel
theorem dX9_layGaps_6 : decode cX9_layGaps 6 = .ok (.istore_n 2, 1) := by decide +kernel
theorem dX9_layGaps_7 : decode cX9_layGaps 7 = .ok (.iload_n 2, 1) := by decide +kernel
theorem dX9_layGaps_8 : decode cX9_layGaps 8 = .ok (.aload_n 0, 1) := by decide +kernel
theorem dX9_layGaps_9 : decode cX9_layGaps 9 = .ok (.getfield 39, 3) := by decide +kernel
theorem dX9_layGaps_12 : decode cX9_layGaps 12 = .ok (.iconst 2, 1) := by decide +kernel
theorem dX9_layGaps_13 : decode cX9_layGaps 13 = .ok (.idiv, 1) := by decide +kernel
theorem dX9_layGaps_14 : decode cX9_layGaps 14 = .ok (.if_icmp .ge 133, 3) := by decide +kernel
theorem dX9_layGaps_17 : decode cX9_layGaps 17 = .ok (.aload_n 1, 1) := by decide +kernel
theorem dX9_layGaps_18 : decode cX9_layGaps 18 = .ok (.iload_n 2, 1) := by decide +kernel
theorem dX9_layGaps_19 : decode cX9_layGaps 19 = .ok (.iconst 2, 1) := by decide +kernel
theorem dX9_layGaps_20 : decode cX9_layGaps 20 = .ok (.invokevirtual 68, 3) := by decide +kernel
theorem dX9_layGaps_23 : decode cX9_layGaps 23 = .ok (.istore_n 3, 1) := by decide +kernel
theorem dX9_layGaps_24 : decode cX9_layGaps 24 = .ok (.aload_n 1, 1) := by decide +kernel
theorem dX9_layGaps_25 : decode cX9_layGaps 25 = .ok (.iload_n 2, 1) := by decide +kernel
theorem dX9_layGaps_26 : decode cX9_layGaps 26 = .ok (.iconst 3, 1) := by decide +kernel
theorem dX9_layGaps_27 : decode cX9_layGaps 27 = .ok (.invokevirtual 68, 3) := by decide +kernel
theorem dX9_layGaps_30 : decode cX9_layGaps 30 = .ok (.istore 4, 2) := by decide +kernel
theorem dX9_layGaps_32 : decode cX9_layGaps 32 = .ok (.aload_n 0, 1) := by decide +kernel
theorem dX9_layGaps_33 : decode cX9_layGaps 33 = .ok (.iload_n 2, 1) := by decide +kernel
theorem dX9_layGaps_34 : decode cX9_layGaps 34 = .ok (.invokestatic 64, 3) := by decide +kernel
theorem dX9_layGaps_37 : decode cX9_layGaps 37 = .ok (.iload_n 2, 1) := by decide +kernel
theorem dX9_layGaps_38 : decode cX9_layGaps 38 = .ok (.invokestatic 71, 3) := by decide +kernel
theorem dX9_layGaps_41 : decode cX9_layGaps 41 = .ok (.iconst 0, 1) := by decide +kernel
theorem dX9_layGaps_42 : decode cX9_layGaps 42 = .ok (.invokevirtual 77, 3) := by decide +kernel
theorem dX9_layGaps_45 : decode cX9_layGaps 45 = .ok (.aload_n 0, 1) := by decide +kernel
theorem dX9_layGaps_46 : decode cX9_layGaps 46 = .ok (.iload_n 2, 1) := by decide +kernel
theorem dX9_layGaps_47 : decode cX9_layGaps 47 = .ok (.invokestatic 71, 3) := by decide +kernel
theorem dX9_layGaps_50 : decode cX9_layGaps 50 = .ok (.iload_n 2, 1) := by decide +kernel
theorem dX9_layGaps_51 : decode cX9_layGaps 51 = .ok (.invokestatic 64, 3) := by decide +kernel
theorem dX9_layGaps_54 : decode cX9_layGaps 54 = .ok (.bipush (-100), 2) := by decide +kernel
theorem dX9_layGaps_56 : decode cX9_layGaps 56 = .ok (.invokevirtual 77, 3) := by decide +kernel
theorem dX9_layGaps_59 : decode cX9_layGaps 59 = .ok (.iload_n 3, 1) := by decide +kernel
theorem dX9_layGaps_60 : decode cX9_layGaps 60 = .ok (.iconst (-1), 1) := by decide +kernel
theorem dX9_layGaps_61 : decode cX9_layGaps 61 = .ok (.if_icmp .eq 30, 3) := by decide +kernel
theorem dX9_layGaps_64 : decode cX9_layGaps 64 = .ok (.aload_n 0, 1) := by decide +kernel
theorem dX9_layGaps_65 : decode cX9_layGaps 65 = .ok (.iload_n 3, 1) := by decide +kernel
theorem dX9_layGaps_66 : decode cX9_layGaps 66 = .ok (.invokestatic 64, 3) := by decide +kernel
theorem dX9_layGaps_69 : decode cX9_layGaps 69 = .ok (.iload_n 2, 1) := by decide +kernel
theorem dX9_layGaps_70 : decode cX9_layGaps 70 = .ok (.invokestatic 64, 3) := by decide +kernel
theorem dX9_layGaps_73 : decode cX9_layGaps 73 = .ok (.bipush 15, 2) := by decide +kernel
theorem dX9_layGaps_75 : decode cX9_layGaps 75 = .ok (.invokevirtual 77, 3) := by decide +kernel
theorem dX9_layGaps_78 : decode cX9_layGaps 78 = .ok (.aload_n 0, 1) := by decide +kernel
theorem dX9_layGaps_79 : decode cX9_layGaps 79 = .ok (.iload_n 2, 1) := by decide +kernel
theorem dX9_layGaps_80 : decode cX9_layGaps 80 = .ok (.invokestatic 64, 3) := by decide +kernel
theorem dX9_layGaps_83 : decode cX9_layGaps 83 = .ok (.iload_n 3, 1) := by decide +kernel
theorem dX9_layGaps_84 : decode cX9_layGaps 84 = .ok (.invokestatic 71, 3) := by decide +kernel
theorem dX9_layGaps_87 : decode cX9_layGaps 87 = .ok (.iconst (-1), 1) := by decide +kernel
theorem dX9_layGaps_88 : decode cX9_layGaps 88 = .ok (.invokevirtual 77, 3) := by decide +kernel
theorem dX9_layGaps_91 : decode cX9_layGaps 91 = .ok (.iload 4, 2) := by decide +kernel
theorem dX9_layGaps_93 : decode cX9_layGaps 93 = .ok (.iconst (-1), 1) := by decide +kernel
theorem dX9_layGaps_94 : decode cX9_layGaps 94 = .ok (.if_icmp .eq 47, 3) := by decide +kernel
theorem dX9_layGaps_97 : decode cX9_layGaps 97 = .ok (.aload_n 0, 1) := by decide +kernel
theorem dX9_layGaps_98 : decode cX9_layGaps 98 = .ok (.iload 4, 2) := by decide +kernel
theorem dX9_layGaps_100 : decode cX9_layGaps 100 = .ok (.invokestatic 64, 3) := by decide +kernel
theorem dX9_layGaps_103 : decode cX9_layGaps 103 = .ok (.iload_n 2, 1) := by decide +kernel
theorem dX9_layGaps_104 : decode cX9_layGaps 104 = .ok (.invokestatic 64, 3) := by decide +kernel
theorem dX9_layGaps_107 : decode cX9_layGaps 107 = .ok (.bipush 15, 2) := by decide +kernel
theorem dX9_layGaps_109 : decode cX9_layGaps 109 = .ok (.invokevirtual 77, 3) := by decide +kernel
theorem dX9_layGaps_112 : decode cX9_layGaps 112 = .ok (.aload_n 0, 1) := by decide +kernel
theorem dX9_layGaps_113 : decode cX9_layGaps 113 = .ok (.iload_n 2, 1) := by decide +kernel
theorem dX9_layGaps_114 : decode cX9_layGaps 114 = .ok (.invokestatic 64, 3) := by decide +kernel
theorem dX9_layGaps_117 : decode cX9_layGaps 117 = .ok (.iload 4, 2) := by decide +kernel
theorem dX9_layGaps_119 : decode cX9_layGaps 119 = .ok (.invokestatic 64, 3) := by decide +kernel
theorem dX9_layGaps_122 : decode cX9_layGaps 122 = .ok (.bipush (-50), 2) := by decide +kernel
theorem dX9_layGaps_124 : decode cX9_layGaps 124 = .ok (.invokevirtual 77, 3) := by decide +kernel
theorem dX9_layGaps_127 : decode cX9_layGaps 127 = .ok (.aload_n 0, 1) := by decide +kernel
theorem dX9_layGaps_128 : decode cX9_layGaps 128 = .ok (.iload_n 2, 1) := by decide +kernel
theorem dX9_layGaps_129 : decode cX9_layGaps 129 = .ok (.invokestatic 64, 3) := by decide +kernel
theorem dX9_layGaps_132 : decode cX9_layGaps 132 = .ok (.iload 4, 2) := by decide +kernel
theorem dX9_layGaps_134 : decode cX9_layGaps 134 = .ok (.invokestatic 71, 3) := by decide +kernel
theorem dX9_layGaps_137 : decode cX9_layGaps 137 = .ok (.iconst 0, 1) := by decide +kernel
theorem dX9_layGaps_138 : decode cX9_layGaps 138 = .ok (.invokevirtual 77, 3) := by decide +kernel
theorem dX9_layGaps_141 : decode cX9_layGaps 141 = .ok (.iinc 2 1, 3) := by decide +kernel
theorem dX9_layGaps_144 : decode cX9_layGaps 144 = .ok (.goto (-137), 3) := by decide +kernel
theorem dX9_layGaps_147 : decode cX9_layGaps 147 = .ok (.return_, 1) := by decide +kernel
theorem dX9_addGap_0 : decode cX9_addGap 0 = .ok (.aload_n 0, 1) := by decide +kernel
theorem dX9_addGap_1 : decode cX9_addGap 1 = .ok (.getfield 74, 3) := by decide +kernel
theorem dX9_addGap_4 : decode cX9_addGap 4 = .ok (.aload_n 0, 1) := by decide +kernel
theorem dX9_addGap_5 : decode cX9_addGap 5 = .ok (.getfield 24, 3) := by decide +kernel
theorem dX9_addGap_8 : decode cX9_addGap 8 = .ok (.arraylength, 1) := by decide +kernel
theorem dX9_addGap_9 : decode cX9_addGap 9 = .ok (.if_icmp .ge 59, 3) := by decide +kernel
theorem dX9_addGap_12 : decode cX9_addGap 12 = .ok (.aload_n 0, 1) := by decide +kernel
theorem dX9_addGap_13 : decode cX9_addGap 13 = .ok (.iload_n 1, 1) := by decide +kernel
theorem dX9_addGap_14 : decode cX9_addGap 14 = .ok (.invokevirtual 81, 3) := by decide +kernel
theorem dX9_addGap_17 : decode cX9_addGap 17 = .ok (.ifCond .eq 51, 3) := by decide +kernel
theorem dX9_addGap_20 : decode cX9_addGap 20 = .ok (.aload_n 0, 1) := by decide +kernel
theorem dX9_addGap_21 : decode cX9_addGap 21 = .ok (.iload_n 2, 1) := by decide +kernel
theorem dX9_addGap_22 : decode cX9_addGap 22 = .ok (.invokevirtual 81, 3) := by decide +kernel
theorem dX9_addGap_25 : decode cX9_addGap 25 = .ok (.ifCond .eq 43, 3) := by decide +kernel
theorem dX9_addGap_28 : decode cX9_addGap 28 = .ok (.aload_n 0, 1) := by decide +kernel
theorem dX9_addGap_29 : decode cX9_addGap 29 = .ok (.getfield 18, 3) := by decide +kernel
theorem dX9_addGap_32 : decode cX9_addGap 32 = .ok (.aload_n 0, 1) := by decide +kernel
theorem dX9_addGap_33 : decode cX9_addGap 33 = .ok (.getfield 74, 3) := by decide +kernel
theorem dX9_addGap_36 : decode cX9_addGap 36 = .ok (.iload_n 1, 1) := by decide +kernel
theorem dX9_addGap_37 : decode cX9_addGap 37 = .ok (.iastore, 1) := by decide +kernel
theorem dX9_addGap_38 : decode cX9_addGap 38 = .ok (.aload_n 0, 1) := by decide +kernel
theorem dX9_addGap_39 : decode cX9_addGap 39 = .ok (.getfield 21, 3) := by decide +kernel
theorem dX9_addGap_42 : decode cX9_addGap 42 = .ok (.aload_n 0, 1) := by decide +kernel
theorem dX9_addGap_43 : decode cX9_addGap 43 = .ok (.getfield 74, 3) := by decide +kernel
theorem dX9_addGap_46 : decode cX9_addGap 46 = .ok (.iload_n 2, 1) := by decide +kernel
theorem dX9_addGap_47 : decode cX9_addGap 47 = .ok (.iastore, 1) := by decide +kernel
theorem dX9_addGap_48 : decode cX9_addGap 48 = .ok (.aload_n 0, 1) := by decide +kernel
theorem dX9_addGap_49 : decode cX9_addGap 49 = .ok (.getfield 24, 3) := by decide +kernel
theorem dX9_addGap_52 : decode cX9_addGap 52 = .ok (.aload_n 0, 1) := by decide +kernel
theorem dX9_addGap_53 : decode cX9_addGap 53 = .ok (.getfield 74, 3) := by decide +kernel
theorem dX9_addGap_56 : decode cX9_addGap 56 = .ok (.iload_n 3, 1) := by decide +kernel
theorem dX9_addGap_57 : decode cX9_addGap 57 = .ok (.iastore, 1) := by decide +kernel
theorem dX9_addGap_58 : decode cX9_addGap 58 = .ok (.aload_n 0, 1) := by decide +kernel
theorem dX9_addGap_59 : decode cX9_addGap 59 = .ok (.dup, 1) := by decide +kernel
theorem dX9_addGap_60 : decode cX9_addGap 60 = .ok (.getfield 74, 3) := by decide +kernel
theorem dX9_addGap_63 : decode cX9_addGap 63 = .ok (.iconst 1, 1) := by decide +kernel
theorem dX9_addGap_64 : decode cX9_addGap 64 = .ok (.iadd, 1) := by decide +kernel
theorem dX9_addGap_65 : decode cX9_addGap 65 = .ok (.putfield 74, 3) := by decide +kernel
theorem dX9_addGap_68 : decode cX9_addGap 68 = .ok (.return_, 1) := by decide +kernel
theorem dX9_raiseLeast_0 : decode cX9_raiseLeast 0 = .ok (.iconst 0, 1) := by decide +kernel
theorem dX9_raiseLeast_1 : decode cX9_raiseLeast 1 = .ok (.istore_n 1, 1) := by decide +kernel
theorem dX9_raiseLeast_2 : decode cX9_raiseLeast 2 = .ok (.iconst 0, 1) := by decide +kernel
theorem dX9_raiseLeast_3 : decode cX9_raiseLeast 3 = .ok (.istore_n 2, 1) := by decide +kernel
theorem dX9_raiseLeast_4 : decode cX9_raiseLeast 4 = .ok (.iload_n 2, 1) := by decide +kernel
theorem dX9_raiseLeast_5 : decode cX9_raiseLeast 5 = .ok (.aload_n 0, 1) := by decide +kernel
theorem dX9_raiseLeast_6 : decode cX9_raiseLeast 6 = .ok (.getfield 39, 3) := by decide +kernel
theorem dX9_raiseLeast_9 : decode cX9_raiseLeast 9 = .ok (.if_icmp .ge 84, 3) := by decide +kernel
theorem dX9_raiseLeast_12 : decode cX9_raiseLeast 12 = .ok (.iconst 0, 1) := by decide +kernel
theorem dX9_raiseLeast_13 : decode cX9_raiseLeast 13 = .ok (.istore_n 1, 1) := by decide +kernel
theorem dX9_raiseLeast_14 : decode cX9_raiseLeast 14 = .ok (.iconst 0, 1) := by decide +kernel
theorem dX9_raiseLeast_15 : decode cX9_raiseLeast 15 = .ok (.istore_n 3, 1) := by decide +kernel
theorem dX9_raiseLeast_16 : decode cX9_raiseLeast 16 = .ok (.iload_n 3, 1) := by decide +kernel
theorem dX9_raiseLeast_17 : decode cX9_raiseLeast 17 = .ok (.aload_n 0, 1) := by decide +kernel
theorem dX9_raiseLeast_18 : decode cX9_raiseLeast 18 = .ok (.getfield 74, 3) := by decide +kernel
theorem dX9_raiseLeast_21 : decode cX9_raiseLeast 21 = .ok (.if_icmp .ge 60, 3) := by decide +kernel
theorem dX9_raiseLeast_24 : decode cX9_raiseLeast 24 = .ok (.aload_n 0, 1) := by decide +kernel
theorem dX9_raiseLeast_25 : decode cX9_raiseLeast 25 = .ok (.getfield 9, 3) := by decide +kernel
theorem dX9_raiseLeast_28 : decode cX9_raiseLeast 28 = .ok (.aload_n 0, 1) := by decide +kernel
theorem dX9_raiseLeast_29 : decode cX9_raiseLeast 29 = .ok (.getfield 18, 3) := by decide +kernel
theorem dX9_raiseLeast_32 : decode cX9_raiseLeast 32 = .ok (.iload_n 3, 1) := by decide +kernel
theorem dX9_raiseLeast_33 : decode cX9_raiseLeast 33 = .ok (.iaload, 1) := by decide +kernel
theorem dX9_raiseLeast_34 : decode cX9_raiseLeast 34 = .ok (.iaload, 1) := by decide +kernel
theorem dX9_raiseLeast_35 : decode cX9_raiseLeast 35 = .ok (.aload_n 0, 1) := by decide +kernel
theorem dX9_raiseLeast_36 : decode cX9_raiseLeast 36 = .ok (.getfield 24, 3) := by decide +kernel
theorem dX9_raiseLeast_39 : decode cX9_raiseLeast 39 = .ok (.iload_n 3, 1) := by decide +kernel
theorem dX9_raiseLeast_40 : decode cX9_raiseLeast 40 = .ok (.iaload, 1) := by decide +kernel
theorem dX9_raiseLeast_41 : decode cX9_raiseLeast 41 = .ok (.iadd, 1) := by decide +kernel
theorem dX9_raiseLeast_42 : decode cX9_raiseLeast 42 = .ok (.istore 4, 2) := by decide +kernel
theorem dX9_raiseLeast_44 : decode cX9_raiseLeast 44 = .ok (.iload 4, 2) := by decide +kernel
theorem dX9_raiseLeast_46 : decode cX9_raiseLeast 46 = .ok (.aload_n 0, 1) := by decide +kernel
theorem dX9_raiseLeast_47 : decode cX9_raiseLeast 47 = .ok (.getfield 9, 3) := by decide +kernel
theorem dX9_raiseLeast_50 : decode cX9_raiseLeast 50 = .ok (.aload_n 0, 1) := by decide +kernel
theorem dX9_raiseLeast_51 : decode cX9_raiseLeast 51 = .ok (.getfield 21, 3) := by decide +kernel
theorem dX9_raiseLeast_54 : decode cX9_raiseLeast 54 = .ok (.iload_n 3, 1) := by decide +kernel
theorem dX9_raiseLeast_55 : decode cX9_raiseLeast 55 = .ok (.iaload, 1) := by decide +kernel
theorem dX9_raiseLeast_56 : decode cX9_raiseLeast 56 = .ok (.iaload, 1) := by decide +kernel
theorem dX9_raiseLeast_57 : decode cX9_raiseLeast 57 = .ok (.if_icmp .le 18, 3) := by decide +kernel
theorem dX9_raiseLeast_60 : decode cX9_raiseLeast 60 = .ok (.aload_n 0, 1) := by decide +kernel
theorem dX9_raiseLeast_61 : decode cX9_raiseLeast 61 = .ok (.getfield 9, 3) := by decide +kernel
theorem dX9_raiseLeast_64 : decode cX9_raiseLeast 64 = .ok (.aload_n 0, 1) := by decide +kernel
theorem dX9_raiseLeast_65 : decode cX9_raiseLeast 65 = .ok (.getfield 21, 3) := by decide +kernel
theorem dX9_raiseLeast_68 : decode cX9_raiseLeast 68 = .ok (.iload_n 3, 1) := by decide +kernel
theorem dX9_raiseLeast_69 : decode cX9_raiseLeast 69 = .ok (.iaload, 1) := by decide +kernel
theorem dX9_raiseLeast_70 : decode cX9_raiseLeast 70 = .ok (.iload 4, 2) := by decide +kernel
theorem dX9_raiseLeast_72 : decode cX9_raiseLeast 72 = .ok (.iastore, 1) := by decide +kernel
theorem dX9_raiseLeast_73 : decode cX9_raiseLeast 73 = .ok (.iconst 1, 1) := by decide +kernel
theorem dX9_raiseLeast_74 : decode cX9_raiseLeast 74 = .ok (.istore_n 1, 1) := by decide +kernel
theorem dX9_raiseLeast_75 : decode cX9_raiseLeast 75 = .ok (.iinc 3 1, 3) := by decide +kernel
theorem dX9_raiseLeast_78 : decode cX9_raiseLeast 78 = .ok (.goto (-62), 3) := by decide +kernel
theorem dX9_raiseLeast_81 : decode cX9_raiseLeast 81 = .ok (.iload_n 1, 1) := by decide +kernel
theorem dX9_raiseLeast_82 : decode cX9_raiseLeast 82 = .ok (.ifCond .ne 5, 3) := by decide +kernel
theorem dX9_raiseLeast_85 : decode cX9_raiseLeast 85 = .ok (.iconst 1, 1) := by decide +kernel
theorem dX9_raiseLeast_86 : decode cX9_raiseLeast 86 = .ok (.ireturn, 1) := by decide +kernel
theorem dX9_raiseLeast_87 : decode cX9_raiseLeast 87 = .ok (.iinc 2 1, 3) := by decide +kernel
theorem dX9_raiseLeast_90 : decode cX9_raiseLeast 90 = .ok (.goto (-86), 3) := by decide +kernel
theorem dX9_raiseLeast_93 : decode cX9_raiseLeast 93 = .ok (.iload_n 1, 1) := by decide +kernel
theorem dX9_raiseLeast_94 : decode cX9_raiseLeast 94 = .ok (.ifCond .ne 7, 3) := by decide +kernel
theorem dX9_raiseLeast_97 : decode cX9_raiseLeast 97 = .ok (.iconst 1, 1) := by decide +kernel
theorem dX9_raiseLeast_98 : decode cX9_raiseLeast 98 = .ok (.goto 4, 3) := by decide +kernel
theorem dX9_raiseLeast_101 : decode cX9_raiseLeast 101 = .ok (.iconst 0, 1) := by decide +kernel
theorem dX9_raiseLeast_102 : decode cX9_raiseLeast 102 = .ok (.ireturn, 1) := by decide +kernel
theorem dX9_lowerGreatest_0 : decode cX9_lowerGreatest 0 = .ok (.iconst 1, 1) := by decide +kernel
theorem dX9_lowerGreatest_1 : decode cX9_lowerGreatest 1 = .ok (.istore_n 1, 1) := by decide +kernel
theorem dX9_lowerGreatest_2 : decode cX9_lowerGreatest 2 = .ok (.iconst 0, 1) := by decide +kernel
theorem dX9_lowerGreatest_3 : decode cX9_lowerGreatest 3 = .ok (.istore_n 2, 1) := by decide +kernel
theorem dX9_lowerGreatest_4 : decode cX9_lowerGreatest 4 = .ok (.iload_n 2, 1) := by decide +kernel
theorem dX9_lowerGreatest_5 : decode cX9_lowerGreatest 5 = .ok (.aload_n 0, 1) := by decide +kernel
theorem dX9_lowerGreatest_6 : decode cX9_lowerGreatest 6 = .ok (.getfield 39, 3) := by decide +kernel
theorem dX9_lowerGreatest_9 : decode cX9_lowerGreatest 9 = .ok (.if_icmp .ge 82, 3) := by decide +kernel
theorem dX9_lowerGreatest_12 : decode cX9_lowerGreatest 12 = .ok (.iload_n 1, 1) := by decide +kernel
theorem dX9_lowerGreatest_13 : decode cX9_lowerGreatest 13 = .ok (.ifCond .eq 78, 3) := by decide +kernel
theorem dX9_lowerGreatest_16 : decode cX9_lowerGreatest 16 = .ok (.iconst 0, 1) := by decide +kernel
theorem dX9_lowerGreatest_17 : decode cX9_lowerGreatest 17 = .ok (.istore_n 1, 1) := by decide +kernel
theorem dX9_lowerGreatest_18 : decode cX9_lowerGreatest 18 = .ok (.iconst 0, 1) := by decide +kernel
theorem dX9_lowerGreatest_19 : decode cX9_lowerGreatest 19 = .ok (.istore_n 3, 1) := by decide +kernel
theorem dX9_lowerGreatest_20 : decode cX9_lowerGreatest 20 = .ok (.iload_n 3, 1) := by decide +kernel
theorem dX9_lowerGreatest_21 : decode cX9_lowerGreatest 21 = .ok (.aload_n 0, 1) := by decide +kernel
theorem dX9_lowerGreatest_22 : decode cX9_lowerGreatest 22 = .ok (.getfield 74, 3) := by decide +kernel
theorem dX9_lowerGreatest_25 : decode cX9_lowerGreatest 25 = .ok (.if_icmp .ge 60, 3) := by decide +kernel
theorem dX9_lowerGreatest_28 : decode cX9_lowerGreatest 28 = .ok (.aload_n 0, 1) := by decide +kernel
theorem dX9_lowerGreatest_29 : decode cX9_lowerGreatest 29 = .ok (.getfield 15, 3) := by decide +kernel
theorem dX9_lowerGreatest_32 : decode cX9_lowerGreatest 32 = .ok (.aload_n 0, 1) := by decide +kernel
theorem dX9_lowerGreatest_33 : decode cX9_lowerGreatest 33 = .ok (.getfield 21, 3) := by decide +kernel
theorem dX9_lowerGreatest_36 : decode cX9_lowerGreatest 36 = .ok (.iload_n 3, 1) := by decide +kernel
theorem dX9_lowerGreatest_37 : decode cX9_lowerGreatest 37 = .ok (.iaload, 1) := by decide +kernel
theorem dX9_lowerGreatest_38 : decode cX9_lowerGreatest 38 = .ok (.iaload, 1) := by decide +kernel
theorem dX9_lowerGreatest_39 : decode cX9_lowerGreatest 39 = .ok (.aload_n 0, 1) := by decide +kernel
theorem dX9_lowerGreatest_40 : decode cX9_lowerGreatest 40 = .ok (.getfield 24, 3) := by decide +kernel
theorem dX9_lowerGreatest_43 : decode cX9_lowerGreatest 43 = .ok (.iload_n 3, 1) := by decide +kernel
theorem dX9_lowerGreatest_44 : decode cX9_lowerGreatest 44 = .ok (.iaload, 1) := by decide +kernel
theorem dX9_lowerGreatest_45 : decode cX9_lowerGreatest 45 = .ok (.isub, 1) := by decide +kernel
theorem dX9_lowerGreatest_46 : decode cX9_lowerGreatest 46 = .ok (.istore 4, 2) := by decide +kernel
theorem dX9_lowerGreatest_48 : decode cX9_lowerGreatest 48 = .ok (.iload 4, 2) := by decide +kernel
theorem dX9_lowerGreatest_50 : decode cX9_lowerGreatest 50 = .ok (.aload_n 0, 1) := by decide +kernel
theorem dX9_lowerGreatest_51 : decode cX9_lowerGreatest 51 = .ok (.getfield 15, 3) := by decide +kernel
theorem dX9_lowerGreatest_54 : decode cX9_lowerGreatest 54 = .ok (.aload_n 0, 1) := by decide +kernel
theorem dX9_lowerGreatest_55 : decode cX9_lowerGreatest 55 = .ok (.getfield 18, 3) := by decide +kernel
theorem dX9_lowerGreatest_58 : decode cX9_lowerGreatest 58 = .ok (.iload_n 3, 1) := by decide +kernel
theorem dX9_lowerGreatest_59 : decode cX9_lowerGreatest 59 = .ok (.iaload, 1) := by decide +kernel
theorem dX9_lowerGreatest_60 : decode cX9_lowerGreatest 60 = .ok (.iaload, 1) := by decide +kernel
theorem dX9_lowerGreatest_61 : decode cX9_lowerGreatest 61 = .ok (.if_icmp .ge 18, 3) := by decide +kernel
theorem dX9_lowerGreatest_64 : decode cX9_lowerGreatest 64 = .ok (.aload_n 0, 1) := by decide +kernel
theorem dX9_lowerGreatest_65 : decode cX9_lowerGreatest 65 = .ok (.getfield 15, 3) := by decide +kernel
theorem dX9_lowerGreatest_68 : decode cX9_lowerGreatest 68 = .ok (.aload_n 0, 1) := by decide +kernel
theorem dX9_lowerGreatest_69 : decode cX9_lowerGreatest 69 = .ok (.getfield 18, 3) := by decide +kernel
theorem dX9_lowerGreatest_72 : decode cX9_lowerGreatest 72 = .ok (.iload_n 3, 1) := by decide +kernel
theorem dX9_lowerGreatest_73 : decode cX9_lowerGreatest 73 = .ok (.iaload, 1) := by decide +kernel
theorem dX9_lowerGreatest_74 : decode cX9_lowerGreatest 74 = .ok (.iload 4, 2) := by decide +kernel
theorem dX9_lowerGreatest_76 : decode cX9_lowerGreatest 76 = .ok (.iastore, 1) := by decide +kernel
theorem dX9_lowerGreatest_77 : decode cX9_lowerGreatest 77 = .ok (.iconst 1, 1) := by decide +kernel
theorem dX9_lowerGreatest_78 : decode cX9_lowerGreatest 78 = .ok (.istore_n 1, 1) := by decide +kernel
theorem dX9_lowerGreatest_79 : decode cX9_lowerGreatest 79 = .ok (.iinc 3 1, 3) := by decide +kernel
theorem dX9_lowerGreatest_82 : decode cX9_lowerGreatest 82 = .ok (.goto (-62), 3) := by decide +kernel
