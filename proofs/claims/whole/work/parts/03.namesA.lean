theorem dX0_init_0 : decode cX0_init 0 = .ok (.aload_n 0, 1) := by decide +kernel
theorem dX0_init_1 : decode cX0_init 1 = .ok (.invokespecial 3, 3) := by decide +kernel
theorem dX0_init_4 : decode cX0_init 4 = .ok (.aload_n 0, 1) := by decide +kernel
theorem dX0_init_5 : decode cX0_init 5 = .ok (.bipush 20, 2) := by decide +kernel
theorem dX0_init_7 : decode cX0_init 7 = .ok (.newarray .int, 2) := by decide +kernel
theorem dX0_init_9 : decode cX0_init 9 = .ok (.putfield 9, 3) := by decide +kernel
theorem dX0_init_12 : decode cX0_init 12 = .ok (.aload_n 0, 1) := by decide +kernel
theorem dX0_init_13 : decode cX0_init 13 = .ok (.bipush 20, 2) := by decide +kernel
theorem dX0_init_15 : decode cX0_init 15 = .ok (.newarray .int, 2) := by decide +kernel
theorem dX0_init_17 : decode cX0_init 17 = .ok (.putfield 15, 3) := by decide +kernel
theorem dX0_init_20 : decode cX0_init 20 = .ok (.aload_n 0, 1) := by decide +kernel
theorem dX0_init_21 : decode cX0_init 21 = .ok (.bipush 20, 2) := by decide +kernel
theorem dX0_init_23 : decode cX0_init 23 = .ok (.newarray .int, 2) := by decide +kernel
theorem dX0_init_25 : decode cX0_init 25 = .ok (.putfield 18, 3) := by decide +kernel
theorem dX0_init_28 : decode cX0_init 28 = .ok (.return_, 1) := by decide +kernel
theorem dX0_addEntry_0 : decode cX0_addEntry 0 = .ok (.aload_n 0, 1) := by decide +kernel
theorem dX0_addEntry_1 : decode cX0_addEntry 1 = .ok (.getfield 21, 3) := by decide +kernel
theorem dX0_addEntry_4 : decode cX0_addEntry 4 = .ok (.bipush 20, 2) := by decide +kernel
theorem dX0_addEntry_6 : decode cX0_addEntry 6 = .ok (.if_icmp .ge 43, 3) := by decide +kernel
theorem dX0_addEntry_9 : decode cX0_addEntry 9 = .ok (.aload_n 0, 1) := by decide +kernel
theorem dX0_addEntry_10 : decode cX0_addEntry 10 = .ok (.getfield 9, 3) := by decide +kernel
theorem dX0_addEntry_13 : decode cX0_addEntry 13 = .ok (.aload_n 0, 1) := by decide +kernel
theorem dX0_addEntry_14 : decode cX0_addEntry 14 = .ok (.getfield 21, 3) := by decide +kernel
theorem dX0_addEntry_17 : decode cX0_addEntry 17 = .ok (.iload_n 1, 1) := by decide +kernel
theorem dX0_addEntry_18 : decode cX0_addEntry 18 = .ok (.iastore, 1) := by decide +kernel
theorem dX0_addEntry_19 : decode cX0_addEntry 19 = .ok (.aload_n 0, 1) := by decide +kernel
theorem dX0_addEntry_20 : decode cX0_addEntry 20 = .ok (.getfield 15, 3) := by decide +kernel
theorem dX0_addEntry_23 : decode cX0_addEntry 23 = .ok (.aload_n 0, 1) := by decide +kernel
theorem dX0_addEntry_24 : decode cX0_addEntry 24 = .ok (.getfield 21, 3) := by decide +kernel
theorem dX0_addEntry_27 : decode cX0_addEntry 27 = .ok (.iload_n 2, 1) := by decide +kernel
theorem dX0_addEntry_28 : decode cX0_addEntry 28 = .ok (.iastore, 1) := by decide +kernel
theorem dX0_addEntry_29 : decode cX0_addEntry 29 = .ok (.aload_n 0, 1) := by decide +kernel
theorem dX0_addEntry_30 : decode cX0_addEntry 30 = .ok (.getfield 18, 3) := by decide +kernel
theorem dX0_addEntry_33 : decode cX0_addEntry 33 = .ok (.aload_n 0, 1) := by decide +kernel
theorem dX0_addEntry_34 : decode cX0_addEntry 34 = .ok (.getfield 21, 3) := by decide +kernel
theorem dX0_addEntry_37 : decode cX0_addEntry 37 = .ok (.iload_n 3, 1) := by decide +kernel
theorem dX0_addEntry_38 : decode cX0_addEntry 38 = .ok (.iastore, 1) := by decide +kernel
theorem dX0_addEntry_39 : decode cX0_addEntry 39 = .ok (.aload_n 0, 1) := by decide +kernel
theorem dX0_addEntry_40 : decode cX0_addEntry 40 = .ok (.dup, 1) := by decide +kernel
theorem dX0_addEntry_41 : decode cX0_addEntry 41 = .ok (.getfield 21, 3) := by decide +kernel
theorem dX0_addEntry_44 : decode cX0_addEntry 44 = .ok (.iconst 1, 1) := by decide +kernel
theorem dX0_addEntry_45 : decode cX0_addEntry 45 = .ok (.iadd, 1) := by decide +kernel
theorem dX0_addEntry_46 : decode cX0_addEntry 46 = .ok (.putfield 21, 3) := by decide +kernel
theorem dX0_addEntry_49 : decode cX0_addEntry 49 = .ok (.return_, 1) := by decide +kernel
set_option maxRecDepth 20000 in
theorem ggX0_firstWrong_X1_armsAt : GoodIn wsX0_firstWrong wsX1_armsAt := goodIn_r _ [10, 11, 12, 13, 14, 9, 15, 16, 21, 22, 23, 24, 25] (by decide +kernel) (by decide +kernel)
set_option maxRecDepth 20000 in
theorem gX0_firstWrong_X1_armsAt : GoodIn wsX0_firstWrong (wsV RX0 30 RX1 yX1_armsAt wsX1_armsAt) := goodIn_app (goodIn_of _ (by decide +kernel)) ggX0_firstWrong_X1_armsAt
theorem dX0_firstWrong_0 : decode cX0_firstWrong 0 = .ok (.iconst 0, 1) := by decide +kernel
theorem dX0_firstWrong_1 : decode cX0_firstWrong 1 = .ok (.istore_n 2, 1) := by decide +kernel
theorem dX0_firstWrong_2 : decode cX0_firstWrong 2 = .ok (.iload_n 2, 1) := by decide +kernel
theorem dX0_firstWrong_3 : decode cX0_firstWrong 3 = .ok (.aload_n 0, 1) := by decide +kernel
theorem dX0_firstWrong_4 : decode cX0_firstWrong 4 = .ok (.getfield 21, 3) := by decide +kernel
theorem dX0_firstWrong_7 : decode cX0_firstWrong 7 = .ok (.if_icmp .ge 65, 3) := by decide +kernel
theorem dX0_firstWrong_10 : decode cX0_firstWrong 10 = .ok (.iload_n 2, 1) := by decide +kernel
theorem dX0_firstWrong_11 : decode cX0_firstWrong 11 = .ok (.bipush 20, 2) := by decide +kernel
theorem dX0_firstWrong_13 : decode cX0_firstWrong 13 = .ok (.if_icmp .ge 59, 3) := by decide +kernel
theorem dX0_firstWrong_16 : decode cX0_firstWrong 16 = .ok (.aload_n 0, 1) := by decide +kernel
theorem dX0_firstWrong_17 : decode cX0_firstWrong 17 = .ok (.getfield 9, 3) := by decide +kernel
theorem dX0_firstWrong_20 : decode cX0_firstWrong 20 = .ok (.iload_n 2, 1) := by decide +kernel
theorem dX0_firstWrong_21 : decode cX0_firstWrong 21 = .ok (.iaload, 1) := by decide +kernel
theorem dX0_firstWrong_22 : decode cX0_firstWrong 22 = .ok (.aload_n 1, 1) := by decide +kernel
theorem dX0_firstWrong_23 : decode cX0_firstWrong 23 = .ok (.getfield 25, 3) := by decide +kernel
theorem dX0_firstWrong_26 : decode cX0_firstWrong 26 = .ok (.if_icmp .lt 7, 3) := by decide +kernel
theorem dX0_firstWrong_29 : decode cX0_firstWrong 29 = .ok (.iconst 1, 1) := by decide +kernel
theorem dX0_firstWrong_30 : decode cX0_firstWrong 30 = .ok (.goto 4, 3) := by decide +kernel
theorem dX0_firstWrong_33 : decode cX0_firstWrong 33 = .ok (.iconst 0, 1) := by decide +kernel
theorem dX0_firstWrong_34 : decode cX0_firstWrong 34 = .ok (.istore_n 3, 1) := by decide +kernel
theorem dX0_firstWrong_35 : decode cX0_firstWrong 35 = .ok (.iload_n 3, 1) := by decide +kernel
theorem dX0_firstWrong_36 : decode cX0_firstWrong 36 = .ok (.ifCond .ne 28, 3) := by decide +kernel
theorem dX0_firstWrong_39 : decode cX0_firstWrong 39 = .ok (.aload_n 1, 1) := by decide +kernel
theorem dX0_firstWrong_40 : decode cX0_firstWrong 40 = .ok (.aload_n 0, 1) := by decide +kernel
theorem dX0_firstWrong_41 : decode cX0_firstWrong 41 = .ok (.getfield 9, 3) := by decide +kernel
theorem dX0_firstWrong_44 : decode cX0_firstWrong 44 = .ok (.iload_n 2, 1) := by decide +kernel
theorem dX0_firstWrong_45 : decode cX0_firstWrong 45 = .ok (.iaload, 1) := by decide +kernel
theorem dX0_firstWrong_46 : decode cX0_firstWrong 46 = .ok (.aload_n 0, 1) := by decide +kernel
theorem dX0_firstWrong_47 : decode cX0_firstWrong 47 = .ok (.getfield 15, 3) := by decide +kernel
theorem dX0_firstWrong_50 : decode cX0_firstWrong 50 = .ok (.iload_n 2, 1) := by decide +kernel
theorem dX0_firstWrong_51 : decode cX0_firstWrong 51 = .ok (.iaload, 1) := by decide +kernel
theorem dX0_firstWrong_52 : decode cX0_firstWrong 52 = .ok (.invokevirtual 30, 3) := by decide +kernel
theorem dX0_firstWrong_55 : decode cX0_firstWrong 55 = .ok (.aload_n 0, 1) := by decide +kernel
theorem dX0_firstWrong_56 : decode cX0_firstWrong 56 = .ok (.getfield 18, 3) := by decide +kernel
theorem dX0_firstWrong_59 : decode cX0_firstWrong 59 = .ok (.iload_n 2, 1) := by decide +kernel
theorem dX0_firstWrong_60 : decode cX0_firstWrong 60 = .ok (.iaload, 1) := by decide +kernel
theorem dX0_firstWrong_61 : decode cX0_firstWrong 61 = .ok (.if_icmp .eq 5, 3) := by decide +kernel
theorem dX0_firstWrong_64 : decode cX0_firstWrong 64 = .ok (.iload_n 2, 1) := by decide +kernel
theorem dX0_firstWrong_65 : decode cX0_firstWrong 65 = .ok (.ireturn, 1) := by decide +kernel
theorem dX0_firstWrong_66 : decode cX0_firstWrong 66 = .ok (.iinc 2 1, 3) := by decide +kernel
theorem dX0_firstWrong_69 : decode cX0_firstWrong 69 = .ok (.goto (-67), 3) := by decide +kernel
theorem dX0_firstWrong_72 : decode cX0_firstWrong 72 = .ok (.iconst (-1), 1) := by decide +kernel
theorem dX0_firstWrong_73 : decode cX0_firstWrong 73 = .ok (.ireturn, 1) := by decide +kernel
theorem dX1_init_0 : decode cX1_init 0 = .ok (.aload_n 0, 1) := by decide +kernel
theorem dX1_init_1 : decode cX1_init 1 = .ok (.invokespecial 3, 3) := by decide +kernel
theorem dX1_init_4 : decode cX1_init 4 = .ok (.aload_n 0, 1) := by decide +kernel
theorem dX1_init_5 : decode cX1_init 5 = .ok (.bipush 17, 2) := by decide +kernel
theorem dX1_init_7 : decode cX1_init 7 = .ok (.newarray .int, 2) := by decide +kernel
theorem dX1_init_9 : decode cX1_init 9 = .ok (.putfield 11, 3) := by decide +kernel
theorem dX1_init_12 : decode cX1_init 12 = .ok (.aload_n 0, 1) := by decide +kernel
theorem dX1_init_13 : decode cX1_init 13 = .ok (.sipush 170, 3) := by decide +kernel
theorem dX1_init_16 : decode cX1_init 16 = .ok (.newarray .int, 2) := by decide +kernel
theorem dX1_init_18 : decode cX1_init 18 = .ok (.putfield 15, 3) := by decide +kernel
theorem dX1_init_21 : decode cX1_init 21 = .ok (.aload_n 0, 1) := by decide +kernel
theorem dX1_init_22 : decode cX1_init 22 = .ok (.sipush 170, 3) := by decide +kernel
theorem dX1_init_25 : decode cX1_init 25 = .ok (.newarray .int, 2) := by decide +kernel
theorem dX1_init_27 : decode cX1_init 27 = .ok (.putfield 18, 3) := by decide +kernel
theorem dX1_init_30 : decode cX1_init 30 = .ok (.return_, 1) := by decide +kernel
set_option maxRecDepth 20000 in
theorem ggX1_reckon_X7_people : GoodIn wsX1_reckon wsX7_people := goodIn_r _ [7, 8, 69] (by decide +kernel) (by decide +kernel)
set_option maxRecDepth 20000 in
theorem gX1_reckon_X7_people : GoodIn wsX1_reckon (wsV RX1 21 RX7 yX7_people wsX7_people) := goodIn_app (goodIn_of _ (by decide +kernel)) ggX1_reckon_X7_people
set_option maxRecDepth 20000 in
theorem ggX1_reckon_X1_heirsOf : GoodIn wsX1_reckon wsX1_heirsOf := goodIn_r _ [12, 3, 4, 5, 6, 7, 8, 13, 14, 15, 16, 17, 18, 19, 20, 21, 22, 23, 24, 25, 26, 27, 28, 29, 30, 31, 11, 32, 69] (by decide +kernel) (by decide +kernel)
set_option maxRecDepth 20000 in
theorem gX1_reckon_X1_heirsOf : GoodIn wsX1_reckon (va_wsS RX1 30 yX1_heirsOf wsX1_heirsOf) := goodIn_app (goodIn_of _ (by decide +kernel)) ggX1_reckon_X1_heirsOf
set_option maxRecDepth 20000 in
theorem ggX1_reckon_X7_fact : GoodIn wsX1_reckon wsX7_fact := goodIn_r _ [16, 8, 17, 18, 19, 6, 20, 69] (by decide +kernel) (by decide +kernel)
set_option maxRecDepth 20000 in
theorem gX1_reckon_X7_fact : GoodIn wsX1_reckon (wsV RX1 37 RX7 yX7_fact wsX7_fact) := goodIn_app (goodIn_of _ (by decide +kernel)) ggX1_reckon_X7_fact
set_option maxRecDepth 20000 in
theorem ggX1_reckon_X1_compose : GoodIn wsX1_reckon wsX1_compose := goodIn_r _ [36, 2, 37, 38, 39, 40, 6, 41, 8, 30, 31, 11, 32, 13, 14, 15, 16, 17, 18, 19, 20, 42, 43, 44, 45, 46, 47, 48, 49, 50, 51, 52, 53, 54, 55, 56, 57, 58, 59, 60, 61, 62, 63, 64, 65, 66, 67, 68, 69] (by decide +kernel) (by decide +kernel)
set_option maxRecDepth 20000 in
theorem gX1_reckon_X1_compose : GoodIn wsX1_reckon (wsV RX1 41 RX1 yX1_compose wsX1_compose) := goodIn_app (goodIn_of _ (by decide +kernel)) ggX1_reckon_X1_compose
theorem dX1_reckon_0 : decode cX1_reckon 0 = .ok (.aload_n 0, 1) := by decide +kernel
theorem dX1_reckon_1 : decode cX1_reckon 1 = .ok (.aload_n 1, 1) := by decide +kernel
theorem dX1_reckon_2 : decode cX1_reckon 2 = .ok (.invokevirtual 21, 3) := by decide +kernel
theorem dX1_reckon_5 : decode cX1_reckon 5 = .ok (.putfield 27, 3) := by decide +kernel
theorem dX1_reckon_8 : decode cX1_reckon 8 = .ok (.aload_n 0, 1) := by decide +kernel
theorem dX1_reckon_9 : decode cX1_reckon 9 = .ok (.aload_n 1, 1) := by decide +kernel
theorem dX1_reckon_10 : decode cX1_reckon 10 = .ok (.invokestatic 30, 3) := by decide +kernel
theorem dX1_reckon_13 : decode cX1_reckon 13 = .ok (.putfield 34, 3) := by decide +kernel
theorem dX1_reckon_16 : decode cX1_reckon 16 = .ok (.iconst 0, 1) := by decide +kernel
theorem dX1_reckon_17 : decode cX1_reckon 17 = .ok (.istore_n 2, 1) := by decide +kernel
theorem dX1_reckon_18 : decode cX1_reckon 18 = .ok (.iload_n 2, 1) := by decide +kernel
theorem dX1_reckon_19 : decode cX1_reckon 19 = .ok (.aload_n 0, 1) := by decide +kernel
theorem dX1_reckon_20 : decode cX1_reckon 20 = .ok (.getfield 27, 3) := by decide +kernel
theorem dX1_reckon_23 : decode cX1_reckon 23 = .ok (.if_icmp .ge 27, 3) := by decide +kernel
theorem dX1_reckon_26 : decode cX1_reckon 26 = .ok (.aload_n 0, 1) := by decide +kernel
theorem dX1_reckon_27 : decode cX1_reckon 27 = .ok (.iload_n 2, 1) := by decide +kernel
theorem dX1_reckon_28 : decode cX1_reckon 28 = .ok (.aload_n 1, 1) := by decide +kernel
theorem dX1_reckon_29 : decode cX1_reckon 29 = .ok (.aload_n 1, 1) := by decide +kernel
theorem dX1_reckon_30 : decode cX1_reckon 30 = .ok (.iload_n 2, 1) := by decide +kernel
theorem dX1_reckon_31 : decode cX1_reckon 31 = .ok (.iconst 2, 1) := by decide +kernel
theorem dX1_reckon_32 : decode cX1_reckon 32 = .ok (.invokevirtual 37, 3) := by decide +kernel
theorem dX1_reckon_35 : decode cX1_reckon 35 = .ok (.aload_n 1, 1) := by decide +kernel
theorem dX1_reckon_36 : decode cX1_reckon 36 = .ok (.iload_n 2, 1) := by decide +kernel
theorem dX1_reckon_37 : decode cX1_reckon 37 = .ok (.iconst 3, 1) := by decide +kernel
theorem dX1_reckon_38 : decode cX1_reckon 38 = .ok (.invokevirtual 37, 3) := by decide +kernel
theorem dX1_reckon_41 : decode cX1_reckon 41 = .ok (.invokevirtual 41, 3) := by decide +kernel
theorem dX1_reckon_44 : decode cX1_reckon 44 = .ok (.iinc 2 1, 3) := by decide +kernel
theorem dX1_reckon_47 : decode cX1_reckon 47 = .ok (.goto (-29), 3) := by decide +kernel
theorem dX1_reckon_50 : decode cX1_reckon 50 = .ok (.return_, 1) := by decide +kernel
set_option maxRecDepth 20000 in
theorem ggX1_heirsOf_X7_people : GoodIn wsX1_heirsOf wsX7_people := goodIn_r _ [5, 6, 28] (by decide +kernel) (by decide +kernel)
set_option maxRecDepth 20000 in
theorem gX1_heirsOf_X7_people : GoodIn wsX1_heirsOf (wsV RX1 21 RX7 yX7_people wsX7_people) := goodIn_app (goodIn_of _ (by decide +kernel)) ggX1_heirsOf_X7_people
set_option maxRecDepth 20000 in
theorem ggX1_heirsOf_X7_fact : GoodIn wsX1_heirsOf wsX7_fact := goodIn_r _ [10, 6, 11, 12, 13, 4, 14, 28] (by decide +kernel) (by decide +kernel)
set_option maxRecDepth 20000 in
theorem gX1_heirsOf_X7_fact : GoodIn wsX1_heirsOf (wsV RX1 37 RX7 yX7_fact wsX7_fact) := goodIn_app (goodIn_of _ (by decide +kernel)) ggX1_heirsOf_X7_fact
set_option maxRecDepth 20000 in
theorem ggX1_heirsOf_X7_isMan : GoodIn wsX1_heirsOf wsX7_isMan := goodIn_r _ [18, 19, 8, 9, 4, 10, 6, 11, 12, 13, 14, 28] (by decide +kernel) (by decide +kernel)
set_option maxRecDepth 20000 in
theorem gX1_heirsOf_X7_isMan : GoodIn wsX1_heirsOf (wsV RX1 45 RX7 yX7_isMan wsX7_isMan) := goodIn_app (goodIn_of _ (by decide +kernel)) ggX1_heirsOf_X7_isMan
set_option maxRecDepth 20000 in
theorem ggX1_heirsOf_X7_isWoman : GoodIn wsX1_heirsOf wsX7_isWoman := goodIn_r _ [23, 19, 8, 9, 4, 10, 6, 11, 12, 13, 14, 28] (by decide +kernel) (by decide +kernel)
set_option maxRecDepth 20000 in
theorem gX1_heirsOf_X7_isWoman : GoodIn wsX1_heirsOf (wsV RX1 49 RX7 yX7_isWoman wsX7_isWoman) := goodIn_app (goodIn_of _ (by decide +kernel)) ggX1_heirsOf_X7_isWoman
set_option maxRecDepth 20000 in
theorem ggX1_heirsOf_X1_isIn : GoodIn wsX1_heirsOf wsX1_isIn := goodIn_r _ [27] (by decide +kernel) (by decide +kernel)
set_option maxRecDepth 20000 in
theorem gX1_heirsOf_X1_isIn : GoodIn wsX1_heirsOf (va_wsS RX1 52 yX1_isIn wsX1_isIn) := goodIn_app (goodIn_of _ (by decide +kernel)) ggX1_heirsOf_X1_isIn
theorem dX1_heirsOf_0 : decode cX1_heirsOf 0 = .ok (.iconst 0, 1) := by decide +kernel
theorem dX1_heirsOf_1 : decode cX1_heirsOf 1 = .ok (.istore_n 1, 1) := by decide +kernel
theorem dX1_heirsOf_2 : decode cX1_heirsOf 2 = .ok (.iconst 0, 1) := by decide +kernel
theorem dX1_heirsOf_3 : decode cX1_heirsOf 3 = .ok (.istore_n 2, 1) := by decide +kernel
theorem dX1_heirsOf_4 : decode cX1_heirsOf 4 = .ok (.iload_n 2, 1) := by decide +kernel
theorem dX1_heirsOf_5 : decode cX1_heirsOf 5 = .ok (.aload_n 0, 1) := by decide +kernel
theorem dX1_heirsOf_6 : decode cX1_heirsOf 6 = .ok (.invokevirtual 21, 3) := by decide +kernel
theorem dX1_heirsOf_9 : decode cX1_heirsOf 9 = .ok (.if_icmp .ge 35, 3) := by decide +kernel
theorem dX1_heirsOf_12 : decode cX1_heirsOf 12 = .ok (.aload_n 0, 1) := by decide +kernel
theorem dX1_heirsOf_13 : decode cX1_heirsOf 13 = .ok (.iload_n 2, 1) := by decide +kernel
theorem dX1_heirsOf_14 : decode cX1_heirsOf 14 = .ok (.iconst 2, 1) := by decide +kernel
theorem dX1_heirsOf_15 : decode cX1_heirsOf 15 = .ok (.invokevirtual 37, 3) := by decide +kernel
theorem dX1_heirsOf_18 : decode cX1_heirsOf 18 = .ok (.istore_n 3, 1) := by decide +kernel
theorem dX1_heirsOf_19 : decode cX1_heirsOf 19 = .ok (.iload_n 3, 1) := by decide +kernel
theorem dX1_heirsOf_20 : decode cX1_heirsOf 20 = .ok (.iconst (-1), 1) := by decide +kernel
theorem dX1_heirsOf_21 : decode cX1_heirsOf 21 = .ok (.if_icmp .eq 17, 3) := by decide +kernel
theorem dX1_heirsOf_24 : decode cX1_heirsOf 24 = .ok (.aload_n 0, 1) := by decide +kernel
theorem dX1_heirsOf_25 : decode cX1_heirsOf 25 = .ok (.iload_n 2, 1) := by decide +kernel
theorem dX1_heirsOf_26 : decode cX1_heirsOf 26 = .ok (.invokevirtual 45, 3) := by decide +kernel
theorem dX1_heirsOf_29 : decode cX1_heirsOf 29 = .ok (.ifCond .eq 9, 3) := by decide +kernel
theorem dX1_heirsOf_32 : decode cX1_heirsOf 32 = .ok (.iload_n 1, 1) := by decide +kernel
theorem dX1_heirsOf_33 : decode cX1_heirsOf 33 = .ok (.iconst 1, 1) := by decide +kernel
theorem dX1_heirsOf_34 : decode cX1_heirsOf 34 = .ok (.iload_n 3, 1) := by decide +kernel
theorem dX1_heirsOf_35 : decode cX1_heirsOf 35 = .ok (.ishl, 1) := by decide +kernel
theorem dX1_heirsOf_36 : decode cX1_heirsOf 36 = .ok (.ior, 1) := by decide +kernel
theorem dX1_heirsOf_37 : decode cX1_heirsOf 37 = .ok (.istore_n 1, 1) := by decide +kernel
theorem dX1_heirsOf_38 : decode cX1_heirsOf 38 = .ok (.iinc 2 1, 3) := by decide +kernel
theorem dX1_heirsOf_41 : decode cX1_heirsOf 41 = .ok (.goto (-37), 3) := by decide +kernel
theorem dX1_heirsOf_44 : decode cX1_heirsOf 44 = .ok (.iconst 0, 1) := by decide +kernel
theorem dX1_heirsOf_45 : decode cX1_heirsOf 45 = .ok (.istore_n 2, 1) := by decide +kernel
theorem dX1_heirsOf_46 : decode cX1_heirsOf 46 = .ok (.iconst 0, 1) := by decide +kernel
theorem dX1_heirsOf_47 : decode cX1_heirsOf 47 = .ok (.istore_n 3, 1) := by decide +kernel
theorem dX1_heirsOf_48 : decode cX1_heirsOf 48 = .ok (.iload_n 3, 1) := by decide +kernel
theorem dX1_heirsOf_49 : decode cX1_heirsOf 49 = .ok (.aload_n 0, 1) := by decide +kernel
theorem dX1_heirsOf_50 : decode cX1_heirsOf 50 = .ok (.invokevirtual 21, 3) := by decide +kernel
theorem dX1_heirsOf_53 : decode cX1_heirsOf 53 = .ok (.if_icmp .ge 46, 3) := by decide +kernel
theorem dX1_heirsOf_56 : decode cX1_heirsOf 56 = .ok (.aload_n 0, 1) := by decide +kernel
theorem dX1_heirsOf_57 : decode cX1_heirsOf 57 = .ok (.iload_n 3, 1) := by decide +kernel
theorem dX1_heirsOf_58 : decode cX1_heirsOf 58 = .ok (.iconst 2, 1) := by decide +kernel
theorem dX1_heirsOf_59 : decode cX1_heirsOf 59 = .ok (.invokevirtual 37, 3) := by decide +kernel
theorem dX1_heirsOf_62 : decode cX1_heirsOf 62 = .ok (.istore 4, 2) := by decide +kernel
theorem dX1_heirsOf_64 : decode cX1_heirsOf 64 = .ok (.iload 4, 2) := by decide +kernel
theorem dX1_heirsOf_66 : decode cX1_heirsOf 66 = .ok (.iconst (-1), 1) := by decide +kernel
theorem dX1_heirsOf_67 : decode cX1_heirsOf 67 = .ok (.if_icmp .eq 26, 3) := by decide +kernel
theorem dX1_heirsOf_70 : decode cX1_heirsOf 70 = .ok (.aload_n 0, 1) := by decide +kernel
theorem dX1_heirsOf_71 : decode cX1_heirsOf 71 = .ok (.iload_n 3, 1) := by decide +kernel
theorem dX1_heirsOf_72 : decode cX1_heirsOf 72 = .ok (.invokevirtual 49, 3) := by decide +kernel
theorem dX1_heirsOf_75 : decode cX1_heirsOf 75 = .ok (.ifCond .eq 18, 3) := by decide +kernel
theorem dX1_heirsOf_78 : decode cX1_heirsOf 78 = .ok (.iload_n 1, 1) := by decide +kernel
theorem dX1_heirsOf_79 : decode cX1_heirsOf 79 = .ok (.iload 4, 2) := by decide +kernel
theorem dX1_heirsOf_81 : decode cX1_heirsOf 81 = .ok (.invokestatic 52, 3) := by decide +kernel
theorem dX1_heirsOf_84 : decode cX1_heirsOf 84 = .ok (.ifCond .ne 9, 3) := by decide +kernel
theorem dX1_heirsOf_87 : decode cX1_heirsOf 87 = .ok (.iload_n 2, 1) := by decide +kernel
theorem dX1_heirsOf_88 : decode cX1_heirsOf 88 = .ok (.iconst 1, 1) := by decide +kernel
theorem dX1_heirsOf_89 : decode cX1_heirsOf 89 = .ok (.iload_n 3, 1) := by decide +kernel
theorem dX1_heirsOf_90 : decode cX1_heirsOf 90 = .ok (.ishl, 1) := by decide +kernel
theorem dX1_heirsOf_91 : decode cX1_heirsOf 91 = .ok (.ior, 1) := by decide +kernel
theorem dX1_heirsOf_92 : decode cX1_heirsOf 92 = .ok (.istore_n 2, 1) := by decide +kernel
theorem dX1_heirsOf_93 : decode cX1_heirsOf 93 = .ok (.iinc 3 1, 3) := by decide +kernel
theorem dX1_heirsOf_96 : decode cX1_heirsOf 96 = .ok (.goto (-48), 3) := by decide +kernel
theorem dX1_heirsOf_99 : decode cX1_heirsOf 99 = .ok (.iload_n 2, 1) := by decide +kernel
theorem dX1_heirsOf_100 : decode cX1_heirsOf 100 = .ok (.ireturn, 1) := by decide +kernel
set_option maxRecDepth 20000 in
theorem ggX1_sizeForChild_X1_compose : GoodIn wsX1_sizeForChild wsX1_compose := goodIn_r _ [5, 6, 7, 8, 9, 10, 11, 12, 13, 14, 15, 4, 16, 17, 18, 19, 20, 21, 22, 23, 24, 25, 26, 27, 28, 29, 30, 31, 32, 33, 34, 35, 36, 37, 38, 39, 40, 41, 42, 43, 44, 45, 46, 47, 48, 49, 50, 51, 52] (by decide +kernel) (by decide +kernel)
set_option maxRecDepth 20000 in
theorem gX1_sizeForChild_X1_compose : GoodIn wsX1_sizeForChild (wsV RX1 41 RX1 yX1_compose wsX1_compose) := goodIn_app (goodIn_of _ (by decide +kernel)) ggX1_sizeForChild_X1_compose
set_option maxRecDepth 20000 in
theorem ggX1_sizeForChild_X1_sizeOf : GoodIn wsX1_sizeForChild wsX1_sizeOf := goodIn_r _ [38, 7, 47, 48, 49, 50, 51] (by decide +kernel) (by decide +kernel)
set_option maxRecDepth 20000 in
theorem gX1_sizeForChild_X1_sizeOf : GoodIn wsX1_sizeForChild (wsV RX1 56 RX1 yX1_sizeOf wsX1_sizeOf) := goodIn_app (goodIn_of _ (by decide +kernel)) ggX1_sizeForChild_X1_sizeOf
theorem dX1_sizeForChild_0 : decode cX1_sizeForChild 0 = .ok (.aload_n 0, 1) := by decide +kernel
theorem dX1_sizeForChild_1 : decode cX1_sizeForChild 1 = .ok (.bipush 16, 2) := by decide +kernel
theorem dX1_sizeForChild_3 : decode cX1_sizeForChild 3 = .ok (.aload_n 1, 1) := by decide +kernel
theorem dX1_sizeForChild_4 : decode cX1_sizeForChild 4 = .ok (.iload_n 2, 1) := by decide +kernel
theorem dX1_sizeForChild_5 : decode cX1_sizeForChild 5 = .ok (.iload_n 3, 1) := by decide +kernel
theorem dX1_sizeForChild_6 : decode cX1_sizeForChild 6 = .ok (.invokevirtual 41, 3) := by decide +kernel
theorem dX1_sizeForChild_9 : decode cX1_sizeForChild 9 = .ok (.aload_n 0, 1) := by decide +kernel
theorem dX1_sizeForChild_10 : decode cX1_sizeForChild 10 = .ok (.bipush 16, 2) := by decide +kernel
theorem dX1_sizeForChild_12 : decode cX1_sizeForChild 12 = .ok (.invokevirtual 56, 3) := by decide +kernel
theorem dX1_sizeForChild_15 : decode cX1_sizeForChild 15 = .ok (.ireturn, 1) := by decide +kernel
set_option maxRecDepth 20000 in
theorem ggX1_compose_X7_ruleNow : GoodIn wsX1_compose wsX7_ruleNow := goodIn_r _ [7, 8, 48] (by decide +kernel) (by decide +kernel)
set_option maxRecDepth 20000 in
theorem gX1_compose_X7_ruleNow : GoodIn wsX1_compose (wsV RX1 60 RX7 yX7_ruleNow wsX7_ruleNow) := goodIn_app (goodIn_of _ (by decide +kernel)) ggX1_compose_X7_ruleNow
set_option maxRecDepth 20000 in
theorem ggX1_compose_X1_isIn : GoodIn wsX1_compose wsX1_isIn := goodIn_r _ [12] (by decide +kernel) (by decide +kernel)
set_option maxRecDepth 20000 in
theorem gX1_compose_X1_isIn : GoodIn wsX1_compose (va_wsS RX1 52 yX1_isIn wsX1_isIn) := goodIn_app (goodIn_of _ (by decide +kernel)) ggX1_compose_X1_isIn
set_option maxRecDepth 20000 in
theorem ggX1_compose_X7_fact : GoodIn wsX1_compose wsX7_fact := goodIn_r _ [16, 8, 17, 18, 19, 6, 20, 48] (by decide +kernel) (by decide +kernel)
set_option maxRecDepth 20000 in
theorem gX1_compose_X7_fact : GoodIn wsX1_compose (wsV RX1 37 RX7 yX7_fact wsX7_fact) := goodIn_app (goodIn_of _ (by decide +kernel)) ggX1_compose_X7_fact
set_option maxRecDepth 20000 in
theorem ggX1_compose_X1_take : GoodIn wsX1_compose wsX1_take := goodIn_r _ [24, 2, 25, 26, 43, 44, 45, 46, 47] (by decide +kernel) (by decide +kernel)
set_option maxRecDepth 20000 in
theorem gX1_compose_X1_take : GoodIn wsX1_compose (wsV RX1 63 RX1 yX1_take wsX1_take) := goodIn_app (goodIn_of _ (by decide +kernel)) ggX1_compose_X1_take
set_option maxRecDepth 20000 in
theorem ggX1_compose_X1_armsAt : GoodIn wsX1_compose wsX1_armsAt := goodIn_r _ [30, 25, 31, 32, 33, 11, 34, 2, 43, 44, 45, 46, 47] (by decide +kernel) (by decide +kernel)
set_option maxRecDepth 20000 in
theorem gX1_compose_X1_armsAt : GoodIn wsX1_compose (wsV RX1 67 RX1 yX1_armsAt wsX1_armsAt) := goodIn_app (goodIn_of _ (by decide +kernel)) ggX1_compose_X1_armsAt
set_option maxRecDepth 20000 in
theorem ggX1_compose_X1_throughAt : GoodIn wsX1_compose wsX1_throughAt := goodIn_r _ [38, 26, 31, 32, 33, 11, 34, 2, 43, 44, 45, 46, 47] (by decide +kernel) (by decide +kernel)
set_option maxRecDepth 20000 in
theorem gX1_compose_X1_throughAt : GoodIn wsX1_compose (wsV RX1 70 RX1 yX1_throughAt wsX1_throughAt) := goodIn_app (goodIn_of _ (by decide +kernel)) ggX1_compose_X1_throughAt
set_option maxRecDepth 20000 in
theorem ggX1_compose_X1_sizeOf : GoodIn wsX1_compose wsX1_sizeOf := goodIn_r _ [34, 2, 43, 44, 45, 46, 47] (by decide +kernel) (by decide +kernel)
set_option maxRecDepth 20000 in
theorem gX1_compose_X1_sizeOf : GoodIn wsX1_compose (wsV RX1 56 RX1 yX1_sizeOf wsX1_sizeOf) := goodIn_app (goodIn_of _ (by decide +kernel)) ggX1_compose_X1_sizeOf
set_option maxRecDepth 20000 in
theorem ggX1_compose_X1_takeFrom : GoodIn wsX1_compose wsX1_takeFrom := goodIn_r _ [42, 27, 28, 29, 11, 30, 25, 31, 32, 33, 34, 2, 35, 36, 37, 38, 26, 21, 22, 23, 24, 43, 44, 45, 46, 47] (by decide +kernel) (by decide +kernel)
set_option maxRecDepth 20000 in
theorem gX1_compose_X1_takeFrom : GoodIn wsX1_compose (wsV RX1 73 RX1 yX1_takeFrom wsX1_takeFrom) := goodIn_app (goodIn_of _ (by decide +kernel)) ggX1_compose_X1_takeFrom
theorem dX1_compose_0 : decode cX1_compose 0 = .ok (.iload_n 1, 1) := by decide +kernel
theorem dX1_compose_1 : decode cX1_compose 1 = .ok (.ifCond .lt 9, 3) := by decide +kernel
theorem dX1_compose_4 : decode cX1_compose 4 = .ok (.iload_n 1, 1) := by decide +kernel
theorem dX1_compose_5 : decode cX1_compose 5 = .ok (.bipush 17, 2) := by decide +kernel
theorem dX1_compose_7 : decode cX1_compose 7 = .ok (.if_icmp .lt 4, 3) := by decide +kernel
theorem dX1_compose_10 : decode cX1_compose 10 = .ok (.return_, 1) := by decide +kernel
theorem dX1_compose_11 : decode cX1_compose 11 = .ok (.aload_n 2, 1) := by decide +kernel
theorem dX1_compose_12 : decode cX1_compose 12 = .ok (.invokevirtual 60, 3) := by decide +kernel
theorem dX1_compose_15 : decode cX1_compose 15 = .ok (.istore 5, 2) := by decide +kernel
theorem dX1_compose_17 : decode cX1_compose 17 = .ok (.iload 4, 2) := by decide +kernel
theorem dX1_compose_19 : decode cX1_compose 19 = .ok (.iconst (-1), 1) := by decide +kernel
theorem dX1_compose_20 : decode cX1_compose 20 = .ok (.if_icmp .eq 19, 3) := by decide +kernel
theorem dX1_compose_23 : decode cX1_compose 23 = .ok (.aload_n 0, 1) := by decide +kernel
theorem dX1_compose_24 : decode cX1_compose 24 = .ok (.getfield 34, 3) := by decide +kernel
theorem dX1_compose_27 : decode cX1_compose 27 = .ok (.iload 4, 2) := by decide +kernel
theorem dX1_compose_29 : decode cX1_compose 29 = .ok (.invokestatic 52, 3) := by decide +kernel
theorem dX1_compose_32 : decode cX1_compose 32 = .ok (.ifCond .eq 7, 3) := by decide +kernel
theorem dX1_compose_35 : decode cX1_compose 35 = .ok (.iconst 1, 1) := by decide +kernel
theorem dX1_compose_36 : decode cX1_compose 36 = .ok (.goto 4, 3) := by decide +kernel
theorem dX1_compose_39 : decode cX1_compose 39 = .ok (.iconst 0, 1) := by decide +kernel
theorem dX1_compose_40 : decode cX1_compose 40 = .ok (.istore 6, 2) := by decide +kernel
theorem dX1_compose_42 : decode cX1_compose 42 = .ok (.aload_n 0, 1) := by decide +kernel
theorem dX1_compose_43 : decode cX1_compose 43 = .ok (.getfield 11, 3) := by decide +kernel
theorem dX1_compose_46 : decode cX1_compose 46 = .ok (.iload_n 1, 1) := by decide +kernel
theorem dX1_compose_47 : decode cX1_compose 47 = .ok (.iconst 0, 1) := by decide +kernel
theorem dX1_compose_48 : decode cX1_compose 48 = .ok (.iastore, 1) := by decide +kernel
theorem dX1_compose_49 : decode cX1_compose 49 = .ok (.iload_n 3, 1) := by decide +kernel
theorem dX1_compose_50 : decode cX1_compose 50 = .ok (.iconst (-1), 1) := by decide +kernel
theorem dX1_compose_51 : decode cX1_compose 51 = .ok (.if_icmp .ne 18, 3) := by decide +kernel
theorem dX1_compose_54 : decode cX1_compose 54 = .ok (.aload_n 0, 1) := by decide +kernel
theorem dX1_compose_55 : decode cX1_compose 55 = .ok (.iload_n 1, 1) := by decide +kernel
theorem dX1_compose_56 : decode cX1_compose 56 = .ok (.aload_n 2, 1) := by decide +kernel
theorem dX1_compose_57 : decode cX1_compose 57 = .ok (.iload_n 1, 1) := by decide +kernel
theorem dX1_compose_58 : decode cX1_compose 58 = .ok (.iconst 1, 1) := by decide +kernel
theorem dX1_compose_59 : decode cX1_compose 59 = .ok (.invokevirtual 37, 3) := by decide +kernel
theorem dX1_compose_62 : decode cX1_compose 62 = .ok (.iload_n 1, 1) := by decide +kernel
theorem dX1_compose_63 : decode cX1_compose 63 = .ok (.invokevirtual 63, 3) := by decide +kernel
theorem dX1_compose_66 : decode cX1_compose 66 = .ok (.goto 20, 3) := by decide +kernel
theorem dX1_compose_69 : decode cX1_compose 69 = .ok (.aload_n 0, 1) := by decide +kernel
theorem dX1_compose_70 : decode cX1_compose 70 = .ok (.iload_n 1, 1) := by decide +kernel
theorem dX1_compose_71 : decode cX1_compose 71 = .ok (.aload_n 0, 1) := by decide +kernel
theorem dX1_compose_72 : decode cX1_compose 72 = .ok (.iload_n 3, 1) := by decide +kernel
theorem dX1_compose_73 : decode cX1_compose 73 = .ok (.iconst 0, 1) := by decide +kernel
theorem dX1_compose_74 : decode cX1_compose 74 = .ok (.invokevirtual 67, 3) := by decide +kernel
theorem dX1_compose_77 : decode cX1_compose 77 = .ok (.aload_n 0, 1) := by decide +kernel
theorem dX1_compose_78 : decode cX1_compose 78 = .ok (.iload_n 3, 1) := by decide +kernel
theorem dX1_compose_79 : decode cX1_compose 79 = .ok (.iconst 0, 1) := by decide +kernel
theorem dX1_compose_80 : decode cX1_compose 80 = .ok (.invokevirtual 70, 3) := by decide +kernel
theorem dX1_compose_83 : decode cX1_compose 83 = .ok (.invokevirtual 63, 3) := by decide +kernel
theorem dX1_compose_86 : decode cX1_compose 86 = .ok (.iload 6, 2) := by decide +kernel
theorem dX1_compose_88 : decode cX1_compose 88 = .ok (.ifCond .eq 22, 3) := by decide +kernel
theorem dX1_compose_91 : decode cX1_compose 91 = .ok (.iload 5, 2) := by decide +kernel
theorem dX1_compose_93 : decode cX1_compose 93 = .ok (.iconst 2, 1) := by decide +kernel
theorem dX1_compose_94 : decode cX1_compose 94 = .ok (.if_icmp .ne 16, 3) := by decide +kernel
theorem dX1_compose_97 : decode cX1_compose 97 = .ok (.aload_n 0, 1) := by decide +kernel
theorem dX1_compose_98 : decode cX1_compose 98 = .ok (.iload_n 1, 1) := by decide +kernel
theorem dX1_compose_99 : decode cX1_compose 99 = .ok (.iload 4, 2) := by decide +kernel
theorem dX1_compose_101 : decode cX1_compose 101 = .ok (.aload_n 0, 1) := by decide +kernel
theorem dX1_compose_102 : decode cX1_compose 102 = .ok (.iload 4, 2) := by decide +kernel
theorem dX1_compose_104 : decode cX1_compose 104 = .ok (.invokevirtual 56, 3) := by decide +kernel
theorem dX1_compose_107 : decode cX1_compose 107 = .ok (.invokevirtual 73, 3) := by decide +kernel
theorem dX1_compose_110 : decode cX1_compose 110 = .ok (.aload_n 0, 1) := by decide +kernel
theorem dX1_compose_111 : decode cX1_compose 111 = .ok (.iload_n 1, 1) := by decide +kernel
theorem dX1_compose_112 : decode cX1_compose 112 = .ok (.iload_n 3, 1) := by decide +kernel
theorem dX1_compose_113 : decode cX1_compose 113 = .ok (.aload_n 0, 1) := by decide +kernel
theorem dX1_compose_114 : decode cX1_compose 114 = .ok (.iload_n 3, 1) := by decide +kernel
theorem dX1_compose_115 : decode cX1_compose 115 = .ok (.invokevirtual 56, 3) := by decide +kernel
theorem dX1_compose_118 : decode cX1_compose 118 = .ok (.invokevirtual 73, 3) := by decide +kernel
theorem dX1_compose_121 : decode cX1_compose 121 = .ok (.iload 6, 2) := by decide +kernel
theorem dX1_compose_123 : decode cX1_compose 123 = .ok (.ifCond .eq 31, 3) := by decide +kernel
theorem dX1_compose_126 : decode cX1_compose 126 = .ok (.iload 5, 2) := by decide +kernel
theorem dX1_compose_128 : decode cX1_compose 128 = .ok (.iconst 2, 1) := by decide +kernel
theorem dX1_compose_129 : decode cX1_compose 129 = .ok (.if_icmp .eq 25, 3) := by decide +kernel
theorem dX1_compose_132 : decode cX1_compose 132 = .ok (.aload_n 0, 1) := by decide +kernel
theorem dX1_compose_133 : decode cX1_compose 133 = .ok (.iload_n 1, 1) := by decide +kernel
theorem dX1_compose_134 : decode cX1_compose 134 = .ok (.iload 4, 2) := by decide +kernel
theorem dX1_compose_136 : decode cX1_compose 136 = .ok (.iload 5, 2) := by decide +kernel
theorem dX1_compose_138 : decode cX1_compose 138 = .ok (.ifCond .ne 12, 3) := by decide +kernel
theorem dX1_compose_141 : decode cX1_compose 141 = .ok (.aload_n 0, 1) := by decide +kernel
theorem dX1_compose_142 : decode cX1_compose 142 = .ok (.iload 4, 2) := by decide +kernel
theorem dX1_compose_144 : decode cX1_compose 144 = .ok (.invokevirtual 56, 3) := by decide +kernel
theorem dX1_compose_147 : decode cX1_compose 147 = .ok (.goto 4, 3) := by decide +kernel
theorem dX1_compose_150 : decode cX1_compose 150 = .ok (.iconst 1, 1) := by decide +kernel
theorem dX1_compose_151 : decode cX1_compose 151 = .ok (.invokevirtual 73, 3) := by decide +kernel
theorem dX1_compose_154 : decode cX1_compose 154 = .ok (.return_, 1) := by decide +kernel
set_option maxRecDepth 20000 in
theorem ggX1_takeFrom_X1_armsAt : GoodIn wsX1_takeFrom wsX1_armsAt := goodIn_r _ [5, 6, 7, 8, 9, 4, 10, 11, 21, 22, 23, 24, 25] (by decide +kernel) (by decide +kernel)
set_option maxRecDepth 20000 in
theorem gX1_takeFrom_X1_armsAt : GoodIn wsX1_takeFrom (wsV RX1 67 RX1 yX1_armsAt wsX1_armsAt) := goodIn_app (goodIn_of _ (by decide +kernel)) ggX1_takeFrom_X1_armsAt
set_option maxRecDepth 20000 in
theorem ggX1_takeFrom_X1_throughAt : GoodIn wsX1_takeFrom wsX1_throughAt := goodIn_r _ [15, 16, 7, 8, 9, 4, 10, 11, 21, 22, 23, 24, 25] (by decide +kernel) (by decide +kernel)
set_option maxRecDepth 20000 in
theorem gX1_takeFrom_X1_throughAt : GoodIn wsX1_takeFrom (wsV RX1 70 RX1 yX1_throughAt wsX1_throughAt) := goodIn_app (goodIn_of _ (by decide +kernel)) ggX1_takeFrom_X1_throughAt
set_option maxRecDepth 20000 in
theorem ggX1_takeFrom_X1_take : GoodIn wsX1_takeFrom wsX1_take := goodIn_r _ [20, 11, 6, 16, 21, 22, 23, 24, 25] (by decide +kernel) (by decide +kernel)
set_option maxRecDepth 20000 in
theorem gX1_takeFrom_X1_take : GoodIn wsX1_takeFrom (wsV RX1 63 RX1 yX1_take wsX1_take) := goodIn_app (goodIn_of _ (by decide +kernel)) ggX1_takeFrom_X1_take
theorem dX1_takeFrom_0 : decode cX1_takeFrom 0 = .ok (.iconst 0, 1) := by decide +kernel
theorem dX1_takeFrom_1 : decode cX1_takeFrom 1 = .ok (.istore 4, 2) := by decide +kernel
theorem dX1_takeFrom_3 : decode cX1_takeFrom 3 = .ok (.iload 4, 2) := by decide +kernel
theorem dX1_takeFrom_5 : decode cX1_takeFrom 5 = .ok (.iload_n 3, 1) := by decide +kernel
theorem dX1_takeFrom_6 : decode cX1_takeFrom 6 = .ok (.if_icmp .ge 28, 3) := by decide +kernel
theorem dX1_takeFrom_9 : decode cX1_takeFrom 9 = .ok (.aload_n 0, 1) := by decide +kernel
theorem dX1_takeFrom_10 : decode cX1_takeFrom 10 = .ok (.iload_n 1, 1) := by decide +kernel
theorem dX1_takeFrom_11 : decode cX1_takeFrom 11 = .ok (.aload_n 0, 1) := by decide +kernel
theorem dX1_takeFrom_12 : decode cX1_takeFrom 12 = .ok (.iload_n 2, 1) := by decide +kernel
theorem dX1_takeFrom_13 : decode cX1_takeFrom 13 = .ok (.iload 4, 2) := by decide +kernel
theorem dX1_takeFrom_15 : decode cX1_takeFrom 15 = .ok (.invokevirtual 67, 3) := by decide +kernel
theorem dX1_takeFrom_18 : decode cX1_takeFrom 18 = .ok (.aload_n 0, 1) := by decide +kernel
theorem dX1_takeFrom_19 : decode cX1_takeFrom 19 = .ok (.iload_n 2, 1) := by decide +kernel
theorem dX1_takeFrom_20 : decode cX1_takeFrom 20 = .ok (.iload 4, 2) := by decide +kernel
theorem dX1_takeFrom_22 : decode cX1_takeFrom 22 = .ok (.invokevirtual 70, 3) := by decide +kernel
theorem dX1_takeFrom_25 : decode cX1_takeFrom 25 = .ok (.invokevirtual 63, 3) := by decide +kernel
theorem dX1_takeFrom_28 : decode cX1_takeFrom 28 = .ok (.iinc 4 1, 3) := by decide +kernel
theorem dX1_takeFrom_31 : decode cX1_takeFrom 31 = .ok (.goto (-28), 3) := by decide +kernel
theorem dX1_takeFrom_34 : decode cX1_takeFrom 34 = .ok (.return_, 1) := by decide +kernel
theorem dX1_take_0 : decode cX1_take 0 = .ok (.iload_n 1, 1) := by decide +kernel
theorem dX1_take_1 : decode cX1_take 1 = .ok (.ifCond .lt 20, 3) := by decide +kernel
theorem dX1_take_4 : decode cX1_take 4 = .ok (.iload_n 1, 1) := by decide +kernel
theorem dX1_take_5 : decode cX1_take 5 = .ok (.bipush 17, 2) := by decide +kernel
theorem dX1_take_7 : decode cX1_take 7 = .ok (.if_icmp .ge 14, 3) := by decide +kernel
theorem dX1_take_10 : decode cX1_take 10 = .ok (.aload_n 0, 1) := by decide +kernel
theorem dX1_take_11 : decode cX1_take 11 = .ok (.getfield 11, 3) := by decide +kernel
theorem dX1_take_14 : decode cX1_take 14 = .ok (.iload_n 1, 1) := by decide +kernel
theorem dX1_take_15 : decode cX1_take 15 = .ok (.iaload, 1) := by decide +kernel
theorem dX1_take_16 : decode cX1_take 16 = .ok (.bipush 10, 2) := by decide +kernel
theorem dX1_take_18 : decode cX1_take 18 = .ok (.if_icmp .lt 4, 3) := by decide +kernel
theorem dX1_take_21 : decode cX1_take 21 = .ok (.return_, 1) := by decide +kernel
theorem dX1_take_22 : decode cX1_take 22 = .ok (.iload_n 1, 1) := by decide +kernel
theorem dX1_take_23 : decode cX1_take 23 = .ok (.bipush 10, 2) := by decide +kernel
theorem dX1_take_25 : decode cX1_take 25 = .ok (.imul, 1) := by decide +kernel
theorem dX1_take_26 : decode cX1_take 26 = .ok (.istore 4, 2) := by decide +kernel
theorem dX1_take_28 : decode cX1_take 28 = .ok (.iload 4, 2) := by decide +kernel
theorem dX1_take_30 : decode cX1_take 30 = .ok (.aload_n 0, 1) := by decide +kernel
theorem dX1_take_31 : decode cX1_take 31 = .ok (.getfield 11, 3) := by decide +kernel
theorem dX1_take_34 : decode cX1_take 34 = .ok (.iload_n 1, 1) := by decide +kernel
theorem dX1_take_35 : decode cX1_take 35 = .ok (.iaload, 1) := by decide +kernel
theorem dX1_take_36 : decode cX1_take 36 = .ok (.iadd, 1) := by decide +kernel
theorem dX1_take_37 : decode cX1_take 37 = .ok (.istore 5, 2) := by decide +kernel
theorem dX1_take_39 : decode cX1_take 39 = .ok (.iload 4, 2) := by decide +kernel
theorem dX1_take_41 : decode cX1_take 41 = .ok (.istore 6, 2) := by decide +kernel
theorem dX1_take_43 : decode cX1_take 43 = .ok (.iload 6, 2) := by decide +kernel
theorem dX1_take_45 : decode cX1_take 45 = .ok (.iload 5, 2) := by decide +kernel
theorem dX1_take_47 : decode cX1_take 47 = .ok (.if_icmp .ge 21, 3) := by decide +kernel
theorem dX1_take_50 : decode cX1_take 50 = .ok (.aload_n 0, 1) := by decide +kernel
theorem dX1_take_51 : decode cX1_take 51 = .ok (.getfield 15, 3) := by decide +kernel
theorem dX1_take_54 : decode cX1_take 54 = .ok (.iload 6, 2) := by decide +kernel
theorem dX1_take_56 : decode cX1_take 56 = .ok (.iaload, 1) := by decide +kernel
theorem dX1_take_57 : decode cX1_take 57 = .ok (.iload_n 2, 1) := by decide +kernel
theorem dX1_take_58 : decode cX1_take 58 = .ok (.if_icmp .ne 4, 3) := by decide +kernel
theorem dX1_take_61 : decode cX1_take 61 = .ok (.return_, 1) := by decide +kernel
theorem dX1_take_62 : decode cX1_take 62 = .ok (.iinc 6 1, 3) := by decide +kernel
theorem dX1_take_65 : decode cX1_take 65 = .ok (.goto (-22), 3) := by decide +kernel
theorem dX1_take_68 : decode cX1_take 68 = .ok (.aload_n 0, 1) := by decide +kernel
theorem dX1_take_69 : decode cX1_take 69 = .ok (.getfield 15, 3) := by decide +kernel
theorem dX1_take_72 : decode cX1_take 72 = .ok (.iload 5, 2) := by decide +kernel
theorem dX1_take_74 : decode cX1_take 74 = .ok (.iload_n 2, 1) := by decide +kernel
theorem dX1_take_75 : decode cX1_take 75 = .ok (.iastore, 1) := by decide +kernel
theorem dX1_take_76 : decode cX1_take 76 = .ok (.aload_n 0, 1) := by decide +kernel
theorem dX1_take_77 : decode cX1_take 77 = .ok (.getfield 18, 3) := by decide +kernel
theorem dX1_take_80 : decode cX1_take 80 = .ok (.iload 5, 2) := by decide +kernel
theorem dX1_take_82 : decode cX1_take 82 = .ok (.iload_n 3, 1) := by decide +kernel
theorem dX1_take_83 : decode cX1_take 83 = .ok (.iastore, 1) := by decide +kernel
theorem dX1_take_84 : decode cX1_take 84 = .ok (.aload_n 0, 1) := by decide +kernel
theorem dX1_take_85 : decode cX1_take 85 = .ok (.getfield 11, 3) := by decide +kernel
theorem dX1_take_88 : decode cX1_take 88 = .ok (.iload_n 1, 1) := by decide +kernel
theorem dX1_take_89 : decode cX1_take 89 = .ok (.dup2, 1) := by decide +kernel
theorem dX1_take_90 : decode cX1_take 90 = .ok (.iaload, 1) := by decide +kernel
theorem dX1_take_91 : decode cX1_take 91 = .ok (.iconst 1, 1) := by decide +kernel
theorem dX1_take_92 : decode cX1_take 92 = .ok (.iadd, 1) := by decide +kernel
theorem dX1_take_93 : decode cX1_take 93 = .ok (.iastore, 1) := by decide +kernel
theorem dX1_take_94 : decode cX1_take 94 = .ok (.return_, 1) := by decide +kernel
theorem dX1_sizeOf_0 : decode cX1_sizeOf 0 = .ok (.iload_n 1, 1) := by decide +kernel
theorem dX1_sizeOf_1 : decode cX1_sizeOf 1 = .ok (.ifCond .lt 18, 3) := by decide +kernel
theorem dX1_sizeOf_4 : decode cX1_sizeOf 4 = .ok (.iload_n 1, 1) := by decide +kernel
theorem dX1_sizeOf_5 : decode cX1_sizeOf 5 = .ok (.bipush 17, 2) := by decide +kernel
theorem dX1_sizeOf_7 : decode cX1_sizeOf 7 = .ok (.if_icmp .ge 12, 3) := by decide +kernel
theorem dX1_sizeOf_10 : decode cX1_sizeOf 10 = .ok (.aload_n 0, 1) := by decide +kernel
theorem dX1_sizeOf_11 : decode cX1_sizeOf 11 = .ok (.getfield 11, 3) := by decide +kernel
theorem dX1_sizeOf_14 : decode cX1_sizeOf 14 = .ok (.iload_n 1, 1) := by decide +kernel
theorem dX1_sizeOf_15 : decode cX1_sizeOf 15 = .ok (.iaload, 1) := by decide +kernel
theorem dX1_sizeOf_16 : decode cX1_sizeOf 16 = .ok (.goto 4, 3) := by decide +kernel
theorem dX1_sizeOf_19 : decode cX1_sizeOf 19 = .ok (.iconst 0, 1) := by decide +kernel
theorem dX1_sizeOf_20 : decode cX1_sizeOf 20 = .ok (.ireturn, 1) := by decide +kernel
set_option maxRecDepth 20000 in
theorem ggX1_armsAt_X1_sizeOf : GoodIn wsX1_armsAt wsX1_sizeOf := goodIn_r _ [6, 7, 8, 9, 10, 11, 12] (by decide +kernel) (by decide +kernel)
set_option maxRecDepth 20000 in
theorem gX1_armsAt_X1_sizeOf : GoodIn wsX1_armsAt (wsV RX1 56 RX1 yX1_sizeOf wsX1_sizeOf) := goodIn_app (goodIn_of _ (by decide +kernel)) ggX1_armsAt_X1_sizeOf
theorem dX1_armsAt_0 : decode cX1_armsAt 0 = .ok (.iload_n 2, 1) := by decide +kernel
theorem dX1_armsAt_1 : decode cX1_armsAt 1 = .ok (.ifCond .lt 26, 3) := by decide +kernel
theorem dX1_armsAt_4 : decode cX1_armsAt 4 = .ok (.iload_n 2, 1) := by decide +kernel
theorem dX1_armsAt_5 : decode cX1_armsAt 5 = .ok (.aload_n 0, 1) := by decide +kernel
theorem dX1_armsAt_6 : decode cX1_armsAt 6 = .ok (.iload_n 1, 1) := by decide +kernel
theorem dX1_armsAt_7 : decode cX1_armsAt 7 = .ok (.invokevirtual 56, 3) := by decide +kernel
theorem dX1_armsAt_10 : decode cX1_armsAt 10 = .ok (.if_icmp .ge 17, 3) := by decide +kernel
theorem dX1_armsAt_13 : decode cX1_armsAt 13 = .ok (.aload_n 0, 1) := by decide +kernel
theorem dX1_armsAt_14 : decode cX1_armsAt 14 = .ok (.getfield 15, 3) := by decide +kernel
theorem dX1_armsAt_17 : decode cX1_armsAt 17 = .ok (.iload_n 1, 1) := by decide +kernel
theorem dX1_armsAt_18 : decode cX1_armsAt 18 = .ok (.bipush 10, 2) := by decide +kernel
theorem dX1_armsAt_20 : decode cX1_armsAt 20 = .ok (.imul, 1) := by decide +kernel
theorem dX1_armsAt_21 : decode cX1_armsAt 21 = .ok (.iload_n 2, 1) := by decide +kernel
theorem dX1_armsAt_22 : decode cX1_armsAt 22 = .ok (.iadd, 1) := by decide +kernel
theorem dX1_armsAt_23 : decode cX1_armsAt 23 = .ok (.iaload, 1) := by decide +kernel
theorem dX1_armsAt_24 : decode cX1_armsAt 24 = .ok (.goto 4, 3) := by decide +kernel
theorem dX1_armsAt_27 : decode cX1_armsAt 27 = .ok (.iconst (-1), 1) := by decide +kernel
theorem dX1_armsAt_28 : decode cX1_armsAt 28 = .ok (.ireturn, 1) := by decide +kernel
set_option maxRecDepth 20000 in
theorem ggX1_throughAt_X1_sizeOf : GoodIn wsX1_throughAt wsX1_sizeOf := goodIn_r _ [6, 7, 8, 9, 10, 11, 12] (by decide +kernel) (by decide +kernel)
set_option maxRecDepth 20000 in
theorem gX1_throughAt_X1_sizeOf : GoodIn wsX1_throughAt (wsV RX1 56 RX1 yX1_sizeOf wsX1_sizeOf) := goodIn_app (goodIn_of _ (by decide +kernel)) ggX1_throughAt_X1_sizeOf
theorem dX1_throughAt_0 : decode cX1_throughAt 0 = .ok (.iload_n 2, 1) := by decide +kernel
theorem dX1_throughAt_1 : decode cX1_throughAt 1 = .ok (.ifCond .lt 26, 3) := by decide +kernel
theorem dX1_throughAt_4 : decode cX1_throughAt 4 = .ok (.iload_n 2, 1) := by decide +kernel
theorem dX1_throughAt_5 : decode cX1_throughAt 5 = .ok (.aload_n 0, 1) := by decide +kernel
theorem dX1_throughAt_6 : decode cX1_throughAt 6 = .ok (.iload_n 1, 1) := by decide +kernel
theorem dX1_throughAt_7 : decode cX1_throughAt 7 = .ok (.invokevirtual 56, 3) := by decide +kernel
theorem dX1_throughAt_10 : decode cX1_throughAt 10 = .ok (.if_icmp .ge 17, 3) := by decide +kernel
theorem dX1_throughAt_13 : decode cX1_throughAt 13 = .ok (.aload_n 0, 1) := by decide +kernel
theorem dX1_throughAt_14 : decode cX1_throughAt 14 = .ok (.getfield 18, 3) := by decide +kernel
theorem dX1_throughAt_17 : decode cX1_throughAt 17 = .ok (.iload_n 1, 1) := by decide +kernel
theorem dX1_throughAt_18 : decode cX1_throughAt 18 = .ok (.bipush 10, 2) := by decide +kernel
theorem dX1_throughAt_20 : decode cX1_throughAt 20 = .ok (.imul, 1) := by decide +kernel
theorem dX1_throughAt_21 : decode cX1_throughAt 21 = .ok (.iload_n 2, 1) := by decide +kernel
theorem dX1_throughAt_22 : decode cX1_throughAt 22 = .ok (.iadd, 1) := by decide +kernel
theorem dX1_throughAt_23 : decode cX1_throughAt 23 = .ok (.iaload, 1) := by decide +kernel
theorem dX1_throughAt_24 : decode cX1_throughAt 24 = .ok (.goto 4, 3) := by decide +kernel
theorem dX1_throughAt_27 : decode cX1_throughAt 27 = .ok (.iconst (-1), 1) := by decide +kernel
theorem dX1_throughAt_28 : decode cX1_throughAt 28 = .ok (.ireturn, 1) := by decide +kernel
set_option maxRecDepth 20000 in
theorem ggX1_isSame_X1_sizeOf : GoodIn wsX1_isSame wsX1_sizeOf := goodIn_r _ [5, 6, 12, 13, 14, 15, 16] (by decide +kernel) (by decide +kernel)
set_option maxRecDepth 20000 in
theorem gX1_isSame_X1_sizeOf : GoodIn wsX1_isSame (wsV RX1 56 RX1 yX1_sizeOf wsX1_sizeOf) := goodIn_app (goodIn_of _ (by decide +kernel)) ggX1_isSame_X1_sizeOf
set_option maxRecDepth 20000 in
theorem ggX1_isSame_X1_armsAt : GoodIn wsX1_isSame wsX1_armsAt := goodIn_r _ [10, 11, 1, 2, 3, 4, 5, 6, 12, 13, 14, 15, 16] (by decide +kernel) (by decide +kernel)
set_option maxRecDepth 20000 in
theorem gX1_isSame_X1_armsAt : GoodIn wsX1_isSame (wsV RX1 67 RX1 yX1_armsAt wsX1_armsAt) := goodIn_app (goodIn_of _ (by decide +kernel)) ggX1_isSame_X1_armsAt
theorem dX1_isSame_0 : decode cX1_isSame 0 = .ok (.aload_n 0, 1) := by decide +kernel
theorem dX1_isSame_1 : decode cX1_isSame 1 = .ok (.iload_n 1, 1) := by decide +kernel
theorem dX1_isSame_2 : decode cX1_isSame 2 = .ok (.invokevirtual 56, 3) := by decide +kernel
theorem dX1_isSame_5 : decode cX1_isSame 5 = .ok (.aload_n 0, 1) := by decide +kernel
theorem dX1_isSame_6 : decode cX1_isSame 6 = .ok (.iload_n 2, 1) := by decide +kernel
theorem dX1_isSame_7 : decode cX1_isSame 7 = .ok (.invokevirtual 56, 3) := by decide +kernel
theorem dX1_isSame_10 : decode cX1_isSame 10 = .ok (.if_icmp .eq 5, 3) := by decide +kernel
theorem dX1_isSame_13 : decode cX1_isSame 13 = .ok (.iconst 0, 1) := by decide +kernel
theorem dX1_isSame_14 : decode cX1_isSame 14 = .ok (.ireturn, 1) := by decide +kernel
theorem dX1_isSame_15 : decode cX1_isSame 15 = .ok (.iconst 0, 1) := by decide +kernel
theorem dX1_isSame_16 : decode cX1_isSame 16 = .ok (.istore_n 3, 1) := by decide +kernel
theorem dX1_isSame_17 : decode cX1_isSame 17 = .ok (.iload_n 3, 1) := by decide +kernel
theorem dX1_isSame_18 : decode cX1_isSame 18 = .ok (.aload_n 0, 1) := by decide +kernel
theorem dX1_isSame_19 : decode cX1_isSame 19 = .ok (.iload_n 1, 1) := by decide +kernel
theorem dX1_isSame_20 : decode cX1_isSame 20 = .ok (.invokevirtual 56, 3) := by decide +kernel
theorem dX1_isSame_23 : decode cX1_isSame 23 = .ok (.if_icmp .ge 26, 3) := by decide +kernel
theorem dX1_isSame_26 : decode cX1_isSame 26 = .ok (.aload_n 0, 1) := by decide +kernel
theorem dX1_isSame_27 : decode cX1_isSame 27 = .ok (.iload_n 1, 1) := by decide +kernel
theorem dX1_isSame_28 : decode cX1_isSame 28 = .ok (.iload_n 3, 1) := by decide +kernel
theorem dX1_isSame_29 : decode cX1_isSame 29 = .ok (.invokevirtual 67, 3) := by decide +kernel
theorem dX1_isSame_32 : decode cX1_isSame 32 = .ok (.aload_n 0, 1) := by decide +kernel
theorem dX1_isSame_33 : decode cX1_isSame 33 = .ok (.iload_n 2, 1) := by decide +kernel
theorem dX1_isSame_34 : decode cX1_isSame 34 = .ok (.iload_n 3, 1) := by decide +kernel
theorem dX1_isSame_35 : decode cX1_isSame 35 = .ok (.invokevirtual 67, 3) := by decide +kernel
theorem dX1_isSame_38 : decode cX1_isSame 38 = .ok (.if_icmp .eq 5, 3) := by decide +kernel
theorem dX1_isSame_41 : decode cX1_isSame 41 = .ok (.iconst 0, 1) := by decide +kernel
theorem dX1_isSame_42 : decode cX1_isSame 42 = .ok (.ireturn, 1) := by decide +kernel
theorem dX1_isSame_43 : decode cX1_isSame 43 = .ok (.iinc 3 1, 3) := by decide +kernel
theorem dX1_isSame_46 : decode cX1_isSame 46 = .ok (.goto (-29), 3) := by decide +kernel
theorem dX1_isSame_49 : decode cX1_isSame 49 = .ok (.iconst 1, 1) := by decide +kernel
theorem dX1_isSame_50 : decode cX1_isSame 50 = .ok (.ireturn, 1) := by decide +kernel
set_option maxRecDepth 20000 in
theorem ggX1_sameAs_X1_isSame : GoodIn wsX1_sameAs wsX1_isSame := goodIn_r _ [6, 7, 8, 9, 5, 10, 11, 12, 13, 14, 15, 16, 17, 18, 19, 20, 21] (by decide +kernel) (by decide +kernel)
set_option maxRecDepth 20000 in
theorem gX1_sameAs_X1_isSame : GoodIn wsX1_sameAs (wsV RX1 76 RX1 yX1_isSame wsX1_isSame) := goodIn_app (goodIn_of _ (by decide +kernel)) ggX1_sameAs_X1_isSame
theorem dX1_sameAs_0 : decode cX1_sameAs 0 = .ok (.iconst 0, 1) := by decide +kernel
theorem dX1_sameAs_1 : decode cX1_sameAs 1 = .ok (.istore_n 2, 1) := by decide +kernel
theorem dX1_sameAs_2 : decode cX1_sameAs 2 = .ok (.iconst 0, 1) := by decide +kernel
theorem dX1_sameAs_3 : decode cX1_sameAs 3 = .ok (.istore_n 3, 1) := by decide +kernel
theorem dX1_sameAs_4 : decode cX1_sameAs 4 = .ok (.iload_n 3, 1) := by decide +kernel
theorem dX1_sameAs_5 : decode cX1_sameAs 5 = .ok (.aload_n 0, 1) := by decide +kernel
theorem dX1_sameAs_6 : decode cX1_sameAs 6 = .ok (.getfield 27, 3) := by decide +kernel
theorem dX1_sameAs_9 : decode cX1_sameAs 9 = .ok (.if_icmp .ge 24, 3) := by decide +kernel
theorem dX1_sameAs_12 : decode cX1_sameAs 12 = .ok (.aload_n 0, 1) := by decide +kernel
theorem dX1_sameAs_13 : decode cX1_sameAs 13 = .ok (.iload_n 1, 1) := by decide +kernel
theorem dX1_sameAs_14 : decode cX1_sameAs 14 = .ok (.iload_n 3, 1) := by decide +kernel
theorem dX1_sameAs_15 : decode cX1_sameAs 15 = .ok (.invokevirtual 76, 3) := by decide +kernel
theorem dX1_sameAs_18 : decode cX1_sameAs 18 = .ok (.ifCond .eq 9, 3) := by decide +kernel
theorem dX1_sameAs_21 : decode cX1_sameAs 21 = .ok (.iload_n 2, 1) := by decide +kernel
theorem dX1_sameAs_22 : decode cX1_sameAs 22 = .ok (.iconst 1, 1) := by decide +kernel
theorem dX1_sameAs_23 : decode cX1_sameAs 23 = .ok (.iload_n 3, 1) := by decide +kernel
theorem dX1_sameAs_24 : decode cX1_sameAs 24 = .ok (.ishl, 1) := by decide +kernel
theorem dX1_sameAs_25 : decode cX1_sameAs 25 = .ok (.ior, 1) := by decide +kernel
theorem dX1_sameAs_26 : decode cX1_sameAs 26 = .ok (.istore_n 2, 1) := by decide +kernel
theorem dX1_sameAs_27 : decode cX1_sameAs 27 = .ok (.iinc 3 1, 3) := by decide +kernel
theorem dX1_sameAs_30 : decode cX1_sameAs 30 = .ok (.goto (-26), 3) := by decide +kernel
theorem dX1_sameAs_33 : decode cX1_sameAs 33 = .ok (.iload_n 2, 1) := by decide +kernel
theorem dX1_sameAs_34 : decode cX1_sameAs 34 = .ok (.ireturn, 1) := by decide +kernel
set_option maxRecDepth 20000 in
theorem ggX1_unlikeCoats_X1_isIn : GoodIn wsX1_unlikeCoats wsX1_isIn := goodIn_r _ [5] (by decide +kernel) (by decide +kernel)
set_option maxRecDepth 20000 in
theorem gX1_unlikeCoats_X1_isIn : GoodIn wsX1_unlikeCoats (va_wsS RX1 52 yX1_isIn wsX1_isIn) := goodIn_app (goodIn_of _ (by decide +kernel)) ggX1_unlikeCoats_X1_isIn
set_option maxRecDepth 20000 in
theorem ggX1_unlikeCoats_X1_sameAs : GoodIn wsX1_unlikeCoats wsX1_sameAs := goodIn_r _ [9, 1, 10, 11, 12, 4, 13, 14, 15, 16, 17, 18, 19, 20, 21, 22, 23, 24, 25, 26, 27, 28] (by decide +kernel) (by decide +kernel)
set_option maxRecDepth 20000 in
theorem gX1_unlikeCoats_X1_sameAs : GoodIn wsX1_unlikeCoats (wsV RX1 79 RX1 yX1_sameAs wsX1_sameAs) := goodIn_app (goodIn_of _ (by decide +kernel)) ggX1_unlikeCoats_X1_sameAs
theorem dX1_unlikeCoats_0 : decode cX1_unlikeCoats 0 = .ok (.iconst 0, 1) := by decide +kernel
theorem dX1_unlikeCoats_1 : decode cX1_unlikeCoats 1 = .ok (.istore_n 1, 1) := by decide +kernel
theorem dX1_unlikeCoats_2 : decode cX1_unlikeCoats 2 = .ok (.iconst 0, 1) := by decide +kernel
theorem dX1_unlikeCoats_3 : decode cX1_unlikeCoats 3 = .ok (.istore_n 2, 1) := by decide +kernel
theorem dX1_unlikeCoats_4 : decode cX1_unlikeCoats 4 = .ok (.iconst 0, 1) := by decide +kernel
theorem dX1_unlikeCoats_5 : decode cX1_unlikeCoats 5 = .ok (.istore_n 3, 1) := by decide +kernel
theorem dX1_unlikeCoats_6 : decode cX1_unlikeCoats 6 = .ok (.iload_n 3, 1) := by decide +kernel
theorem dX1_unlikeCoats_7 : decode cX1_unlikeCoats 7 = .ok (.aload_n 0, 1) := by decide +kernel
theorem dX1_unlikeCoats_8 : decode cX1_unlikeCoats 8 = .ok (.getfield 27, 3) := by decide +kernel
theorem dX1_unlikeCoats_11 : decode cX1_unlikeCoats 11 = .ok (.if_icmp .ge 28, 3) := by decide +kernel
theorem dX1_unlikeCoats_14 : decode cX1_unlikeCoats 14 = .ok (.iload_n 1, 1) := by decide +kernel
theorem dX1_unlikeCoats_15 : decode cX1_unlikeCoats 15 = .ok (.iload_n 3, 1) := by decide +kernel
theorem dX1_unlikeCoats_16 : decode cX1_unlikeCoats 16 = .ok (.invokestatic 52, 3) := by decide +kernel
theorem dX1_unlikeCoats_19 : decode cX1_unlikeCoats 19 = .ok (.ifCond .ne 14, 3) := by decide +kernel
theorem dX1_unlikeCoats_22 : decode cX1_unlikeCoats 22 = .ok (.iinc 2 1, 3) := by decide +kernel
theorem dX1_unlikeCoats_25 : decode cX1_unlikeCoats 25 = .ok (.iload_n 1, 1) := by decide +kernel
theorem dX1_unlikeCoats_26 : decode cX1_unlikeCoats 26 = .ok (.aload_n 0, 1) := by decide +kernel
theorem dX1_unlikeCoats_27 : decode cX1_unlikeCoats 27 = .ok (.iload_n 3, 1) := by decide +kernel
theorem dX1_unlikeCoats_28 : decode cX1_unlikeCoats 28 = .ok (.invokevirtual 79, 3) := by decide +kernel
theorem dX1_unlikeCoats_31 : decode cX1_unlikeCoats 31 = .ok (.ior, 1) := by decide +kernel
theorem dX1_unlikeCoats_32 : decode cX1_unlikeCoats 32 = .ok (.istore_n 1, 1) := by decide +kernel
theorem dX1_unlikeCoats_33 : decode cX1_unlikeCoats 33 = .ok (.iinc 3 1, 3) := by decide +kernel
theorem dX1_unlikeCoats_36 : decode cX1_unlikeCoats 36 = .ok (.goto (-30), 3) := by decide +kernel
theorem dX1_unlikeCoats_39 : decode cX1_unlikeCoats 39 = .ok (.iload_n 2, 1) := by decide +kernel
theorem dX1_unlikeCoats_40 : decode cX1_unlikeCoats 40 = .ok (.ireturn, 1) := by decide +kernel
theorem dX1_isIn_0 : decode cX1_isIn 0 = .ok (.iload_n 0, 1) := by decide +kernel
theorem dX1_isIn_1 : decode cX1_isIn 1 = .ok (.iload_n 1, 1) := by decide +kernel
theorem dX1_isIn_2 : decode cX1_isIn 2 = .ok (.ishr, 1) := by decide +kernel
theorem dX1_isIn_3 : decode cX1_isIn 3 = .ok (.iconst 1, 1) := by decide +kernel
theorem dX1_isIn_4 : decode cX1_isIn 4 = .ok (.iand, 1) := by decide +kernel
theorem dX1_isIn_5 : decode cX1_isIn 5 = .ok (.iconst 1, 1) := by decide +kernel
theorem dX1_isIn_6 : decode cX1_isIn 6 = .ok (.if_icmp .ne 7, 3) := by decide +kernel
theorem dX1_isIn_9 : decode cX1_isIn 9 = .ok (.iconst 1, 1) := by decide +kernel
theorem dX1_isIn_10 : decode cX1_isIn 10 = .ok (.goto 4, 3) := by decide +kernel
theorem dX1_isIn_13 : decode cX1_isIn 13 = .ok (.iconst 0, 1) := by decide +kernel
theorem dX1_isIn_14 : decode cX1_isIn 14 = .ok (.ireturn, 1) := by decide +kernel
theorem dX2_init_0 : decode cX2_init 0 = .ok (.aload_n 0, 1) := by decide +kernel
theorem dX2_init_1 : decode cX2_init 1 = .ok (.invokespecial 3, 3) := by decide +kernel
theorem dX2_init_4 : decode cX2_init 4 = .ok (.aload_n 0, 1) := by decide +kernel
theorem dX2_init_5 : decode cX2_init 5 = .ok (.iconst 0, 1) := by decide +kernel
theorem dX2_init_6 : decode cX2_init 6 = .ok (.putfield 9, 3) := by decide +kernel
theorem dX2_init_9 : decode cX2_init 9 = .ok (.return_, 1) := by decide +kernel
theorem dX2_draw_0 : decode cX2_draw 0 = .ok (.aload_n 0, 1) := by decide +kernel
theorem dX2_draw_1 : decode cX2_draw 1 = .ok (.aload_n 0, 1) := by decide +kernel
theorem dX2_draw_2 : decode cX2_draw 2 = .ok (.getfield 9, 3) := by decide +kernel
theorem dX2_draw_5 : decode cX2_draw 5 = .ok (.ldc 15, 2) := by decide +kernel
theorem dX2_draw_7 : decode cX2_draw 7 = .ok (.imul, 1) := by decide +kernel
theorem dX2_draw_8 : decode cX2_draw 8 = .ok (.sipush 12345, 3) := by decide +kernel
theorem dX2_draw_11 : decode cX2_draw 11 = .ok (.iadd, 1) := by decide +kernel
theorem dX2_draw_12 : decode cX2_draw 12 = .ok (.ldc 16, 2) := by decide +kernel
theorem dX2_draw_14 : decode cX2_draw 14 = .ok (.iand, 1) := by decide +kernel
theorem dX2_draw_15 : decode cX2_draw 15 = .ok (.putfield 9, 3) := by decide +kernel
theorem dX2_draw_18 : decode cX2_draw 18 = .ok (.iload_n 1, 1) := by decide +kernel
theorem dX2_draw_19 : decode cX2_draw 19 = .ok (.ifCond .le 15, 3) := by decide +kernel
theorem dX2_draw_22 : decode cX2_draw 22 = .ok (.aload_n 0, 1) := by decide +kernel
theorem dX2_draw_23 : decode cX2_draw 23 = .ok (.getfield 9, 3) := by decide +kernel
theorem dX2_draw_26 : decode cX2_draw 26 = .ok (.ldc 17, 2) := by decide +kernel
theorem dX2_draw_28 : decode cX2_draw 28 = .ok (.idiv, 1) := by decide +kernel
theorem dX2_draw_29 : decode cX2_draw 29 = .ok (.iload_n 1, 1) := by decide +kernel
theorem dX2_draw_30 : decode cX2_draw 30 = .ok (.irem, 1) := by decide +kernel
theorem dX2_draw_31 : decode cX2_draw 31 = .ok (.goto 4, 3) := by decide +kernel
theorem dX2_draw_34 : decode cX2_draw 34 = .ok (.iconst 0, 1) := by decide +kernel
theorem dX2_draw_35 : decode cX2_draw 35 = .ok (.ireturn, 1) := by decide +kernel
set_option maxRecDepth 20000 in
theorem ggX2_addOne_X2_draw : GoodIn wsX2_addOne wsX2_draw := goodIn_r _ [5, 6, 7, 8, 9, 41] (by decide +kernel) (by decide +kernel)
set_option maxRecDepth 20000 in
theorem gX2_addOne_X2_draw : GoodIn wsX2_addOne (wsV RX2 18 RX2 yX2_draw wsX2_draw) := goodIn_app (goodIn_of _ (by decide +kernel)) ggX2_addOne_X2_draw
set_option maxRecDepth 20000 in
theorem ggX2_addOne_X7_people : GoodIn wsX2_addOne wsX7_people := goodIn_r _ [14, 15, 42] (by decide +kernel) (by decide +kernel)
set_option maxRecDepth 20000 in
theorem gX2_addOne_X7_people : GoodIn wsX2_addOne (wsV RX2 22 RX7 yX7_people wsX7_people) := goodIn_app (goodIn_of _ (by decide +kernel)) ggX2_addOne_X7_people
set_option maxRecDepth 20000 in
theorem ggX2_addOne_X7_isMan : GoodIn wsX2_addOne wsX7_isMan := goodIn_r _ [19, 20, 21, 22, 13, 23, 15, 24, 25, 26, 27, 42] (by decide +kernel) (by decide +kernel)
set_option maxRecDepth 20000 in
theorem gX2_addOne_X7_isMan : GoodIn wsX2_addOne (wsV RX2 28 RX7 yX7_isMan wsX7_isMan) := goodIn_app (goodIn_of _ (by decide +kernel)) ggX2_addOne_X7_isMan
set_option maxRecDepth 20000 in
theorem ggX2_addOne_X7_isWoman : GoodIn wsX2_addOne wsX7_isWoman := goodIn_r _ [31, 20, 21, 22, 13, 23, 15, 24, 25, 26, 27, 42] (by decide +kernel) (by decide +kernel)
set_option maxRecDepth 20000 in
theorem gX2_addOne_X7_isWoman : GoodIn wsX2_addOne (wsV RX2 32 RX7 yX7_isWoman wsX7_isWoman) := goodIn_app (goodIn_of _ (by decide +kernel)) ggX2_addOne_X7_isWoman
set_option maxRecDepth 20000 in
theorem ggX2_addOne_X7_addPerson : GoodIn wsX2_addOne wsX7_addPerson := goodIn_r _ [35, 15, 36, 37, 38, 13, 39, 40, 11, 12, 14, 20, 21, 22, 23, 24, 25, 26, 27, 42] (by decide +kernel) (by decide +kernel)
set_option maxRecDepth 20000 in
theorem gX2_addOne_X7_addPerson : GoodIn wsX2_addOne (wsV RX2 35 RX7 yX7_addPerson wsX7_addPerson) := goodIn_app (goodIn_of _ (by decide +kernel)) ggX2_addOne_X7_addPerson
theorem dX2_addOne_0 : decode cX2_addOne 0 = .ok (.aload_n 0, 1) := by decide +kernel
theorem dX2_addOne_1 : decode cX2_addOne 1 = .ok (.iconst 2, 1) := by decide +kernel
theorem dX2_addOne_2 : decode cX2_addOne 2 = .ok (.invokevirtual 18, 3) := by decide +kernel
theorem dX2_addOne_5 : decode cX2_addOne 5 = .ok (.istore_n 2, 1) := by decide +kernel
theorem dX2_addOne_6 : decode cX2_addOne 6 = .ok (.aload_n 0, 1) := by decide +kernel
theorem dX2_addOne_7 : decode cX2_addOne 7 = .ok (.bipush 10, 2) := by decide +kernel
theorem dX2_addOne_9 : decode cX2_addOne 9 = .ok (.invokevirtual 18, 3) := by decide +kernel
theorem dX2_addOne_12 : decode cX2_addOne 12 = .ok (.istore_n 3, 1) := by decide +kernel
theorem dX2_addOne_13 : decode cX2_addOne 13 = .ok (.aload_n 0, 1) := by decide +kernel
theorem dX2_addOne_14 : decode cX2_addOne 14 = .ok (.aload_n 1, 1) := by decide +kernel
theorem dX2_addOne_15 : decode cX2_addOne 15 = .ok (.invokevirtual 22, 3) := by decide +kernel
theorem dX2_addOne_18 : decode cX2_addOne 18 = .ok (.iconst 1, 1) := by decide +kernel
theorem dX2_addOne_19 : decode cX2_addOne 19 = .ok (.iadd, 1) := by decide +kernel
theorem dX2_addOne_20 : decode cX2_addOne 20 = .ok (.invokevirtual 18, 3) := by decide +kernel
theorem dX2_addOne_23 : decode cX2_addOne 23 = .ok (.iconst 1, 1) := by decide +kernel
theorem dX2_addOne_24 : decode cX2_addOne 24 = .ok (.isub, 1) := by decide +kernel
theorem dX2_addOne_25 : decode cX2_addOne 25 = .ok (.istore 4, 2) := by decide +kernel
theorem dX2_addOne_27 : decode cX2_addOne 27 = .ok (.aload_n 0, 1) := by decide +kernel
theorem dX2_addOne_28 : decode cX2_addOne 28 = .ok (.aload_n 1, 1) := by decide +kernel
theorem dX2_addOne_29 : decode cX2_addOne 29 = .ok (.invokevirtual 22, 3) := by decide +kernel
theorem dX2_addOne_32 : decode cX2_addOne 32 = .ok (.iconst 1, 1) := by decide +kernel
theorem dX2_addOne_33 : decode cX2_addOne 33 = .ok (.iadd, 1) := by decide +kernel
theorem dX2_addOne_34 : decode cX2_addOne 34 = .ok (.invokevirtual 18, 3) := by decide +kernel
theorem dX2_addOne_37 : decode cX2_addOne 37 = .ok (.iconst 1, 1) := by decide +kernel
theorem dX2_addOne_38 : decode cX2_addOne 38 = .ok (.isub, 1) := by decide +kernel
theorem dX2_addOne_39 : decode cX2_addOne 39 = .ok (.istore 5, 2) := by decide +kernel
theorem dX2_addOne_41 : decode cX2_addOne 41 = .ok (.aload_n 1, 1) := by decide +kernel
theorem dX2_addOne_42 : decode cX2_addOne 42 = .ok (.iload_n 2, 1) := by decide +kernel
theorem dX2_addOne_43 : decode cX2_addOne 43 = .ok (.iload_n 3, 1) := by decide +kernel
theorem dX2_addOne_44 : decode cX2_addOne 44 = .ok (.aload_n 1, 1) := by decide +kernel
theorem dX2_addOne_45 : decode cX2_addOne 45 = .ok (.iload 4, 2) := by decide +kernel
theorem dX2_addOne_47 : decode cX2_addOne 47 = .ok (.invokevirtual 28, 3) := by decide +kernel
theorem dX2_addOne_50 : decode cX2_addOne 50 = .ok (.ifCond .eq 8, 3) := by decide +kernel
theorem dX2_addOne_53 : decode cX2_addOne 53 = .ok (.iload 4, 2) := by decide +kernel
theorem dX2_addOne_55 : decode cX2_addOne 55 = .ok (.goto 4, 3) := by decide +kernel
theorem dX2_addOne_58 : decode cX2_addOne 58 = .ok (.iconst (-1), 1) := by decide +kernel
theorem dX2_addOne_59 : decode cX2_addOne 59 = .ok (.aload_n 1, 1) := by decide +kernel
theorem dX2_addOne_60 : decode cX2_addOne 60 = .ok (.iload 5, 2) := by decide +kernel
theorem dX2_addOne_62 : decode cX2_addOne 62 = .ok (.invokevirtual 32, 3) := by decide +kernel
theorem dX2_addOne_65 : decode cX2_addOne 65 = .ok (.ifCond .eq 8, 3) := by decide +kernel
theorem dX2_addOne_68 : decode cX2_addOne 68 = .ok (.iload 5, 2) := by decide +kernel
theorem dX2_addOne_70 : decode cX2_addOne 70 = .ok (.goto 4, 3) := by decide +kernel
theorem dX2_addOne_73 : decode cX2_addOne 73 = .ok (.iconst (-1), 1) := by decide +kernel
theorem dX2_addOne_74 : decode cX2_addOne 74 = .ok (.invokevirtual 35, 3) := by decide +kernel
theorem dX2_addOne_77 : decode cX2_addOne 77 = .ok (.return_, 1) := by decide +kernel
set_option maxRecDepth 20000 in
theorem ggX3_init_X6_init : GoodIn wsX3_init wsX6_init := goodIn_r _ [14, 15, 2, 3, 16, 17, 18, 19, 20, 8, 21, 22, 23] (by decide +kernel) (by decide +kernel)
set_option maxRecDepth 20000 in
theorem gX3_init_X6_init : GoodIn wsX3_init (wsX6_init) := ggX3_init_X6_init
theorem dX3_init_0 : decode cX3_init 0 = .ok (.aload_n 0, 1) := by decide +kernel
theorem dX3_init_1 : decode cX3_init 1 = .ok (.invokespecial 3, 3) := by decide +kernel
theorem dX3_init_4 : decode cX3_init 4 = .ok (.aload_n 0, 1) := by decide +kernel
theorem dX3_init_5 : decode cX3_init 5 = .ok (.new 9, 3) := by decide +kernel
theorem dX3_init_8 : decode cX3_init 8 = .ok (.dup, 1) := by decide +kernel
theorem dX3_init_9 : decode cX3_init 9 = .ok (.iconst 2, 1) := by decide +kernel
theorem dX3_init_10 : decode cX3_init 10 = .ok (.invokespecial 11, 3) := by decide +kernel
theorem dX3_init_13 : decode cX3_init 13 = .ok (.putfield 14, 3) := by decide +kernel
theorem dX3_init_16 : decode cX3_init 16 = .ok (.aload_n 0, 1) := by decide +kernel
theorem dX3_init_17 : decode cX3_init 17 = .ok (.iconst 2, 1) := by decide +kernel
theorem dX3_init_18 : decode cX3_init 18 = .ok (.newarray .int, 2) := by decide +kernel
theorem dX3_init_20 : decode cX3_init 20 = .ok (.putfield 20, 3) := by decide +kernel
theorem dX3_init_23 : decode cX3_init 23 = .ok (.aload_n 0, 1) := by decide +kernel
theorem dX3_init_24 : decode cX3_init 24 = .ok (.iconst 2, 1) := by decide +kernel
theorem dX3_init_25 : decode cX3_init 25 = .ok (.newarray .boolean, 2) := by decide +kernel
theorem dX3_init_27 : decode cX3_init 27 = .ok (.putfield 24, 3) := by decide +kernel
theorem dX3_init_30 : decode cX3_init 30 = .ok (.return_, 1) := by decide +kernel
theorem dX3_isStored_0 : decode cX3_isStored 0 = .ok (.iload_n 1, 1) := by decide +kernel
theorem dX3_isStored_1 : decode cX3_isStored 1 = .ok (.ifCond .lt 21, 3) := by decide +kernel
theorem dX3_isStored_4 : decode cX3_isStored 4 = .ok (.iload_n 1, 1) := by decide +kernel
theorem dX3_isStored_5 : decode cX3_isStored 5 = .ok (.iconst 2, 1) := by decide +kernel
theorem dX3_isStored_6 : decode cX3_isStored 6 = .ok (.if_icmp .ge 16, 3) := by decide +kernel
theorem dX3_isStored_9 : decode cX3_isStored 9 = .ok (.aload_n 0, 1) := by decide +kernel
theorem dX3_isStored_10 : decode cX3_isStored 10 = .ok (.getfield 24, 3) := by decide +kernel
theorem dX3_isStored_13 : decode cX3_isStored 13 = .ok (.iload_n 1, 1) := by decide +kernel
theorem dX3_isStored_14 : decode cX3_isStored 14 = .ok (.baload, 1) := by decide +kernel
theorem dX3_isStored_15 : decode cX3_isStored 15 = .ok (.ifCond .eq 7, 3) := by decide +kernel
theorem dX3_isStored_18 : decode cX3_isStored 18 = .ok (.iconst 1, 1) := by decide +kernel
theorem dX3_isStored_19 : decode cX3_isStored 19 = .ok (.goto 4, 3) := by decide +kernel
theorem dX3_isStored_22 : decode cX3_isStored 22 = .ok (.iconst 0, 1) := by decide +kernel
theorem dX3_isStored_23 : decode cX3_isStored 23 = .ok (.ireturn, 1) := by decide +kernel
set_option maxRecDepth 20000 in
theorem ggX3_store_X6_lay : GoodIn wsX3_store wsX6_lay := goodIn_r _ [9, 10, 11, 12, 13, 14, 15, 16, 21, 22, 23] (by decide +kernel) (by decide +kernel)
set_option maxRecDepth 20000 in
theorem gX3_store_X6_lay : GoodIn wsX3_store (wsV RX3 28 RX6 yX6_lay wsX6_lay) := goodIn_app (goodIn_of _ (by decide +kernel)) ggX3_store_X6_lay
theorem dX3_store_0 : decode cX3_store 0 = .ok (.iload_n 1, 1) := by decide +kernel
theorem dX3_store_1 : decode cX3_store 1 = .ok (.ifCond .lt 8, 3) := by decide +kernel
theorem dX3_store_4 : decode cX3_store 4 = .ok (.iload_n 1, 1) := by decide +kernel
theorem dX3_store_5 : decode cX3_store 5 = .ok (.iconst 2, 1) := by decide +kernel
theorem dX3_store_6 : decode cX3_store 6 = .ok (.if_icmp .lt 4, 3) := by decide +kernel
theorem dX3_store_9 : decode cX3_store 9 = .ok (.return_, 1) := by decide +kernel
theorem dX3_store_10 : decode cX3_store 10 = .ok (.aload_n 0, 1) := by decide +kernel
theorem dX3_store_11 : decode cX3_store 11 = .ok (.getfield 14, 3) := by decide +kernel
theorem dX3_store_14 : decode cX3_store 14 = .ok (.iload_n 1, 1) := by decide +kernel
theorem dX3_store_15 : decode cX3_store 15 = .ok (.aload_n 2, 1) := by decide +kernel
theorem dX3_store_16 : decode cX3_store 16 = .ok (.invokevirtual 28, 3) := by decide +kernel
theorem dX3_store_19 : decode cX3_store 19 = .ok (.aload_n 0, 1) := by decide +kernel
theorem dX3_store_20 : decode cX3_store 20 = .ok (.getfield 20, 3) := by decide +kernel
theorem dX3_store_23 : decode cX3_store 23 = .ok (.iload_n 1, 1) := by decide +kernel
theorem dX3_store_24 : decode cX3_store 24 = .ok (.aload_n 3, 1) := by decide +kernel
theorem dX3_store_25 : decode cX3_store 25 = .ok (.getfield 32, 3) := by decide +kernel
theorem dX3_store_28 : decode cX3_store 28 = .ok (.iastore, 1) := by decide +kernel
theorem dX3_store_29 : decode cX3_store 29 = .ok (.aload_n 0, 1) := by decide +kernel
theorem dX3_store_30 : decode cX3_store 30 = .ok (.getfield 24, 3) := by decide +kernel
theorem dX3_store_33 : decode cX3_store 33 = .ok (.iload_n 1, 1) := by decide +kernel
theorem dX3_store_34 : decode cX3_store 34 = .ok (.iconst 1, 1) := by decide +kernel
theorem dX3_store_35 : decode cX3_store 35 = .ok (.bastore, 1) := by decide +kernel
theorem dX3_store_36 : decode cX3_store 36 = .ok (.return_, 1) := by decide +kernel
set_option maxRecDepth 20000 in
theorem ggX3_restore_X3_isStored : GoodIn wsX3_restore wsX3_isStored := goodIn_r _ [8, 9, 22, 23, 24] (by decide +kernel) (by decide +kernel)
set_option maxRecDepth 20000 in
theorem gX3_restore_X3_isStored : GoodIn wsX3_restore (wsV RX3 38 RX3 yX3_isStored wsX3_isStored) := goodIn_app (goodIn_of _ (by decide +kernel)) ggX3_restore_X3_isStored
set_option maxRecDepth 20000 in
theorem ggX3_restore_X6_fetch : GoodIn wsX3_restore wsX6_fetch := goodIn_r _ [14, 15, 16, 17, 18, 19, 20, 21, 26, 27, 28] (by decide +kernel) (by decide +kernel)
set_option maxRecDepth 20000 in
theorem gX3_restore_X6_fetch : GoodIn wsX3_restore (wsV RX3 42 RX6 yX6_fetch wsX6_fetch) := goodIn_app (goodIn_of _ (by decide +kernel)) ggX3_restore_X6_fetch
theorem dX3_restore_0 : decode cX3_restore 0 = .ok (.aload_n 0, 1) := by decide +kernel
theorem dX3_restore_1 : decode cX3_restore 1 = .ok (.iload_n 1, 1) := by decide +kernel
theorem dX3_restore_2 : decode cX3_restore 2 = .ok (.invokevirtual 38, 3) := by decide +kernel
theorem dX3_restore_5 : decode cX3_restore 5 = .ok (.ifCond .ne 4, 3) := by decide +kernel
theorem dX3_restore_8 : decode cX3_restore 8 = .ok (.return_, 1) := by decide +kernel
theorem dX3_restore_9 : decode cX3_restore 9 = .ok (.aload_n 0, 1) := by decide +kernel
theorem dX3_restore_10 : decode cX3_restore 10 = .ok (.getfield 14, 3) := by decide +kernel
theorem dX3_restore_13 : decode cX3_restore 13 = .ok (.iload_n 1, 1) := by decide +kernel
theorem dX3_restore_14 : decode cX3_restore 14 = .ok (.aload_n 2, 1) := by decide +kernel
theorem dX3_restore_15 : decode cX3_restore 15 = .ok (.invokevirtual 42, 3) := by decide +kernel
theorem dX3_restore_18 : decode cX3_restore 18 = .ok (.aload_n 3, 1) := by decide +kernel
theorem dX3_restore_19 : decode cX3_restore 19 = .ok (.aload_n 0, 1) := by decide +kernel
theorem dX3_restore_20 : decode cX3_restore 20 = .ok (.getfield 20, 3) := by decide +kernel
theorem dX3_restore_23 : decode cX3_restore 23 = .ok (.iload_n 1, 1) := by decide +kernel
theorem dX3_restore_24 : decode cX3_restore 24 = .ok (.iaload, 1) := by decide +kernel
theorem dX3_restore_25 : decode cX3_restore 25 = .ok (.putfield 32, 3) := by decide +kernel
theorem dX3_restore_28 : decode cX3_restore 28 = .ok (.return_, 1) := by decide +kernel
theorem dX4_init_0 : decode cX4_init 0 = .ok (.aload_n 0, 1) := by decide +kernel
theorem dX4_init_1 : decode cX4_init 1 = .ok (.invokespecial 3, 3) := by decide +kernel
theorem dX4_init_4 : decode cX4_init 4 = .ok (.aload_n 0, 1) := by decide +kernel
theorem dX4_init_5 : decode cX4_init 5 = .ok (.bipush 16, 2) := by decide +kernel
theorem dX4_init_7 : decode cX4_init 7 = .ok (.newarray .int, 2) := by decide +kernel
theorem dX4_init_9 : decode cX4_init 9 = .ok (.putfield 9, 3) := by decide +kernel
theorem dX4_init_12 : decode cX4_init 12 = .ok (.aload_n 0, 1) := by decide +kernel
theorem dX4_init_13 : decode cX4_init 13 = .ok (.bipush 16, 2) := by decide +kernel
theorem dX4_init_15 : decode cX4_init 15 = .ok (.newarray .int, 2) := by decide +kernel
theorem dX4_init_17 : decode cX4_init 17 = .ok (.putfield 15, 3) := by decide +kernel
theorem dX4_init_20 : decode cX4_init 20 = .ok (.aload_n 0, 1) := by decide +kernel
theorem dX4_init_21 : decode cX4_init 21 = .ok (.iconst (-1), 1) := by decide +kernel
theorem dX4_init_22 : decode cX4_init 22 = .ok (.putfield 18, 3) := by decide +kernel
theorem dX4_init_25 : decode cX4_init 25 = .ok (.aload_n 0, 1) := by decide +kernel
theorem dX4_init_26 : decode cX4_init 26 = .ok (.iconst (-1), 1) := by decide +kernel
theorem dX4_init_27 : decode cX4_init 27 = .ok (.putfield 22, 3) := by decide +kernel
theorem dX4_init_30 : decode cX4_init 30 = .ok (.return_, 1) := by decide +kernel
set_option maxRecDepth 20000 in
theorem ggX4_seek_X4_countSteps : GoodIn wsX4_seek wsX4_countSteps := goodIn_r _ [8, 9, 10, 11, 12, 13, 14, 15, 16, 17, 18, 19, 20, 21, 22, 23, 24, 7, 25, 34] (by decide +kernel) (by decide +kernel)
set_option maxRecDepth 20000 in
theorem gX4_seek_X4_countSteps : GoodIn wsX4_seek (va_wsS RX4 25 yX4_countSteps wsX4_countSteps) := goodIn_app (goodIn_of _ (by decide +kernel)) ggX4_seek_X4_countSteps
set_option maxRecDepth 20000 in
theorem ggX4_seek_X7_people : GoodIn wsX4_seek wsX7_people := goodIn_r _ [29, 18, 34] (by decide +kernel) (by decide +kernel)
set_option maxRecDepth 20000 in
theorem gX4_seek_X7_people : GoodIn wsX4_seek (wsV RX4 29 RX7 yX7_people wsX7_people) := goodIn_app (goodIn_of _ (by decide +kernel)) ggX4_seek_X7_people
theorem dX4_seek_0 : decode cX4_seek 0 = .ok (.aload_n 1, 1) := by decide +kernel
theorem dX4_seek_1 : decode cX4_seek 1 = .ok (.iload_n 2, 1) := by decide +kernel
theorem dX4_seek_2 : decode cX4_seek 2 = .ok (.aload_n 0, 1) := by decide +kernel
theorem dX4_seek_3 : decode cX4_seek 3 = .ok (.getfield 9, 3) := by decide +kernel
theorem dX4_seek_6 : decode cX4_seek 6 = .ok (.invokestatic 25, 3) := by decide +kernel
theorem dX4_seek_9 : decode cX4_seek 9 = .ok (.aload_n 1, 1) := by decide +kernel
theorem dX4_seek_10 : decode cX4_seek 10 = .ok (.iload_n 3, 1) := by decide +kernel
theorem dX4_seek_11 : decode cX4_seek 11 = .ok (.aload_n 0, 1) := by decide +kernel
theorem dX4_seek_12 : decode cX4_seek 12 = .ok (.getfield 15, 3) := by decide +kernel
theorem dX4_seek_15 : decode cX4_seek 15 = .ok (.invokestatic 25, 3) := by decide +kernel
theorem dX4_seek_18 : decode cX4_seek 18 = .ok (.aload_n 0, 1) := by decide +kernel
theorem dX4_seek_19 : decode cX4_seek 19 = .ok (.iconst (-1), 1) := by decide +kernel
theorem dX4_seek_20 : decode cX4_seek 20 = .ok (.putfield 18, 3) := by decide +kernel
theorem dX4_seek_23 : decode cX4_seek 23 = .ok (.aload_n 0, 1) := by decide +kernel
theorem dX4_seek_24 : decode cX4_seek 24 = .ok (.iconst (-1), 1) := by decide +kernel
theorem dX4_seek_25 : decode cX4_seek 25 = .ok (.putfield 22, 3) := by decide +kernel
theorem dX4_seek_28 : decode cX4_seek 28 = .ok (.iconst 0, 1) := by decide +kernel
theorem dX4_seek_29 : decode cX4_seek 29 = .ok (.istore 4, 2) := by decide +kernel
theorem dX4_seek_31 : decode cX4_seek 31 = .ok (.iload 4, 2) := by decide +kernel
theorem dX4_seek_33 : decode cX4_seek 33 = .ok (.aload_n 1, 1) := by decide +kernel
theorem dX4_seek_34 : decode cX4_seek 34 = .ok (.invokevirtual 29, 3) := by decide +kernel
theorem dX4_seek_37 : decode cX4_seek 37 = .ok (.if_icmp .ge 84, 3) := by decide +kernel
theorem dX4_seek_40 : decode cX4_seek 40 = .ok (.iload 4, 2) := by decide +kernel
theorem dX4_seek_42 : decode cX4_seek 42 = .ok (.bipush 16, 2) := by decide +kernel
theorem dX4_seek_44 : decode cX4_seek 44 = .ok (.if_icmp .ge 77, 3) := by decide +kernel
theorem dX4_seek_47 : decode cX4_seek 47 = .ok (.aload_n 0, 1) := by decide +kernel
theorem dX4_seek_48 : decode cX4_seek 48 = .ok (.getfield 9, 3) := by decide +kernel
theorem dX4_seek_51 : decode cX4_seek 51 = .ok (.iload 4, 2) := by decide +kernel
theorem dX4_seek_53 : decode cX4_seek 53 = .ok (.iaload, 1) := by decide +kernel
theorem dX4_seek_54 : decode cX4_seek 54 = .ok (.aload_n 0, 1) := by decide +kernel
theorem dX4_seek_55 : decode cX4_seek 55 = .ok (.getfield 15, 3) := by decide +kernel
theorem dX4_seek_58 : decode cX4_seek 58 = .ok (.iload 4, 2) := by decide +kernel
theorem dX4_seek_60 : decode cX4_seek 60 = .ok (.iaload, 1) := by decide +kernel
theorem dX4_seek_61 : decode cX4_seek 61 = .ok (.iadd, 1) := by decide +kernel
theorem dX4_seek_62 : decode cX4_seek 62 = .ok (.istore 5, 2) := by decide +kernel
theorem dX4_seek_64 : decode cX4_seek 64 = .ok (.aload_n 0, 1) := by decide +kernel
theorem dX4_seek_65 : decode cX4_seek 65 = .ok (.getfield 9, 3) := by decide +kernel
theorem dX4_seek_68 : decode cX4_seek 68 = .ok (.iload 4, 2) := by decide +kernel
theorem dX4_seek_70 : decode cX4_seek 70 = .ok (.iaload, 1) := by decide +kernel
theorem dX4_seek_71 : decode cX4_seek 71 = .ok (.iconst (-1), 1) := by decide +kernel
theorem dX4_seek_72 : decode cX4_seek 72 = .ok (.if_icmp .eq 43, 3) := by decide +kernel
theorem dX4_seek_75 : decode cX4_seek 75 = .ok (.aload_n 0, 1) := by decide +kernel
theorem dX4_seek_76 : decode cX4_seek 76 = .ok (.getfield 15, 3) := by decide +kernel
theorem dX4_seek_79 : decode cX4_seek 79 = .ok (.iload 4, 2) := by decide +kernel
theorem dX4_seek_81 : decode cX4_seek 81 = .ok (.iaload, 1) := by decide +kernel
theorem dX4_seek_82 : decode cX4_seek 82 = .ok (.iconst (-1), 1) := by decide +kernel
theorem dX4_seek_83 : decode cX4_seek 83 = .ok (.if_icmp .eq 32, 3) := by decide +kernel
theorem dX4_seek_86 : decode cX4_seek 86 = .ok (.aload_n 0, 1) := by decide +kernel
theorem dX4_seek_87 : decode cX4_seek 87 = .ok (.getfield 18, 3) := by decide +kernel
theorem dX4_seek_90 : decode cX4_seek 90 = .ok (.iconst (-1), 1) := by decide +kernel
theorem dX4_seek_91 : decode cX4_seek 91 = .ok (.if_icmp .eq 12, 3) := by decide +kernel
theorem dX4_seek_94 : decode cX4_seek 94 = .ok (.iload 5, 2) := by decide +kernel
theorem dX4_seek_96 : decode cX4_seek 96 = .ok (.aload_n 0, 1) := by decide +kernel
theorem dX4_seek_97 : decode cX4_seek 97 = .ok (.getfield 18, 3) := by decide +kernel
theorem dX4_seek_100 : decode cX4_seek 100 = .ok (.if_icmp .gt 15, 3) := by decide +kernel
theorem dX4_seek_103 : decode cX4_seek 103 = .ok (.aload_n 0, 1) := by decide +kernel
theorem dX4_seek_104 : decode cX4_seek 104 = .ok (.iload 5, 2) := by decide +kernel
theorem dX4_seek_106 : decode cX4_seek 106 = .ok (.putfield 18, 3) := by decide +kernel
theorem dX4_seek_109 : decode cX4_seek 109 = .ok (.aload_n 0, 1) := by decide +kernel
theorem dX4_seek_110 : decode cX4_seek 110 = .ok (.iload 4, 2) := by decide +kernel
theorem dX4_seek_112 : decode cX4_seek 112 = .ok (.putfield 22, 3) := by decide +kernel
theorem dX4_seek_115 : decode cX4_seek 115 = .ok (.iinc 4 1, 3) := by decide +kernel
theorem dX4_seek_118 : decode cX4_seek 118 = .ok (.goto (-87), 3) := by decide +kernel
theorem dX4_seek_121 : decode cX4_seek 121 = .ok (.return_, 1) := by decide +kernel
set_option maxRecDepth 20000 in
theorem ggX4_countSteps_X7_fact : GoodIn wsX4_countSteps wsX7_fact := goodIn_r _ [9, 10, 11, 12, 13, 8, 14, 19] (by decide +kernel) (by decide +kernel)
set_option maxRecDepth 20000 in
theorem gX4_countSteps_X7_fact : GoodIn wsX4_countSteps (wsV RX4 41 RX7 yX7_fact wsX7_fact) := goodIn_app (goodIn_of _ (by decide +kernel)) ggX4_countSteps_X7_fact
set_option maxRecDepth 20000 in
theorem ggX4_countSteps_X4_handOn : GoodIn wsX4_countSteps wsX4_handOn := goodIn_r _ [18] (by decide +kernel) (by decide +kernel)
set_option maxRecDepth 20000 in
theorem gX4_countSteps_X4_handOn : GoodIn wsX4_countSteps (va_wsS RX4 44 yX4_handOn wsX4_handOn) := goodIn_app (goodIn_of _ (by decide +kernel)) ggX4_countSteps_X4_handOn
theorem dX4_countSteps_0 : decode cX4_countSteps 0 = .ok (.iconst 0, 1) := by decide +kernel
theorem dX4_countSteps_1 : decode cX4_countSteps 1 = .ok (.istore_n 3, 1) := by decide +kernel
theorem dX4_countSteps_2 : decode cX4_countSteps 2 = .ok (.iload_n 3, 1) := by decide +kernel
theorem dX4_countSteps_3 : decode cX4_countSteps 3 = .ok (.aload_n 2, 1) := by decide +kernel
theorem dX4_countSteps_4 : decode cX4_countSteps 4 = .ok (.arraylength, 1) := by decide +kernel
theorem dX4_countSteps_5 : decode cX4_countSteps 5 = .ok (.if_icmp .ge 22, 3) := by decide +kernel
theorem dX4_countSteps_8 : decode cX4_countSteps 8 = .ok (.aload_n 2, 1) := by decide +kernel
theorem dX4_countSteps_9 : decode cX4_countSteps 9 = .ok (.iload_n 3, 1) := by decide +kernel
theorem dX4_countSteps_10 : decode cX4_countSteps 10 = .ok (.iload_n 3, 1) := by decide +kernel
theorem dX4_countSteps_11 : decode cX4_countSteps 11 = .ok (.iload_n 1, 1) := by decide +kernel
theorem dX4_countSteps_12 : decode cX4_countSteps 12 = .ok (.if_icmp .ne 7, 3) := by decide +kernel
theorem dX4_countSteps_15 : decode cX4_countSteps 15 = .ok (.iconst 0, 1) := by decide +kernel
theorem dX4_countSteps_16 : decode cX4_countSteps 16 = .ok (.goto 4, 3) := by decide +kernel
theorem dX4_countSteps_19 : decode cX4_countSteps 19 = .ok (.iconst (-1), 1) := by decide +kernel
theorem dX4_countSteps_20 : decode cX4_countSteps 20 = .ok (.iastore, 1) := by decide +kernel
theorem dX4_countSteps_21 : decode cX4_countSteps 21 = .ok (.iinc 3 1, 3) := by decide +kernel
theorem dX4_countSteps_24 : decode cX4_countSteps 24 = .ok (.goto (-22), 3) := by decide +kernel
theorem dX4_countSteps_27 : decode cX4_countSteps 27 = .ok (.iload_n 1, 1) := by decide +kernel
theorem dX4_countSteps_28 : decode cX4_countSteps 28 = .ok (.aload_n 2, 1) := by decide +kernel
theorem dX4_countSteps_29 : decode cX4_countSteps 29 = .ok (.arraylength, 1) := by decide +kernel
theorem dX4_countSteps_30 : decode cX4_countSteps 30 = .ok (.iconst 1, 1) := by decide +kernel
theorem dX4_countSteps_31 : decode cX4_countSteps 31 = .ok (.isub, 1) := by decide +kernel
theorem dX4_countSteps_32 : decode cX4_countSteps 32 = .ok (.invokestatic 35, 3) := by decide +kernel
theorem dX4_countSteps_35 : decode cX4_countSteps 35 = .ok (.istore_n 3, 1) := by decide +kernel
theorem dX4_countSteps_36 : decode cX4_countSteps 36 = .ok (.iload_n 3, 1) := by decide +kernel
theorem dX4_countSteps_37 : decode cX4_countSteps 37 = .ok (.ifCond .lt 46, 3) := by decide +kernel
theorem dX4_countSteps_40 : decode cX4_countSteps 40 = .ok (.aload_n 2, 1) := by decide +kernel
theorem dX4_countSteps_41 : decode cX4_countSteps 41 = .ok (.iload_n 3, 1) := by decide +kernel
theorem dX4_countSteps_42 : decode cX4_countSteps 42 = .ok (.iaload, 1) := by decide +kernel
theorem dX4_countSteps_43 : decode cX4_countSteps 43 = .ok (.iconst (-1), 1) := by decide +kernel
theorem dX4_countSteps_44 : decode cX4_countSteps 44 = .ok (.if_icmp .eq 33, 3) := by decide +kernel
theorem dX4_countSteps_47 : decode cX4_countSteps 47 = .ok (.aload_n 2, 1) := by decide +kernel
theorem dX4_countSteps_48 : decode cX4_countSteps 48 = .ok (.aload_n 0, 1) := by decide +kernel
theorem dX4_countSteps_49 : decode cX4_countSteps 49 = .ok (.iload_n 3, 1) := by decide +kernel
theorem dX4_countSteps_50 : decode cX4_countSteps 50 = .ok (.iconst 2, 1) := by decide +kernel
theorem dX4_countSteps_51 : decode cX4_countSteps 51 = .ok (.invokevirtual 41, 3) := by decide +kernel
theorem dX4_countSteps_54 : decode cX4_countSteps 54 = .ok (.aload_n 2, 1) := by decide +kernel
theorem dX4_countSteps_55 : decode cX4_countSteps 55 = .ok (.iload_n 3, 1) := by decide +kernel
theorem dX4_countSteps_56 : decode cX4_countSteps 56 = .ok (.iaload, 1) := by decide +kernel
theorem dX4_countSteps_57 : decode cX4_countSteps 57 = .ok (.iconst 1, 1) := by decide +kernel
theorem dX4_countSteps_58 : decode cX4_countSteps 58 = .ok (.iadd, 1) := by decide +kernel
theorem dX4_countSteps_59 : decode cX4_countSteps 59 = .ok (.invokestatic 44, 3) := by decide +kernel
theorem dX4_countSteps_62 : decode cX4_countSteps 62 = .ok (.aload_n 2, 1) := by decide +kernel
theorem dX4_countSteps_63 : decode cX4_countSteps 63 = .ok (.aload_n 0, 1) := by decide +kernel
theorem dX4_countSteps_64 : decode cX4_countSteps 64 = .ok (.iload_n 3, 1) := by decide +kernel
theorem dX4_countSteps_65 : decode cX4_countSteps 65 = .ok (.iconst 3, 1) := by decide +kernel
theorem dX4_countSteps_66 : decode cX4_countSteps 66 = .ok (.invokevirtual 41, 3) := by decide +kernel
theorem dX4_countSteps_69 : decode cX4_countSteps 69 = .ok (.aload_n 2, 1) := by decide +kernel
theorem dX4_countSteps_70 : decode cX4_countSteps 70 = .ok (.iload_n 3, 1) := by decide +kernel
theorem dX4_countSteps_71 : decode cX4_countSteps 71 = .ok (.iaload, 1) := by decide +kernel
theorem dX4_countSteps_72 : decode cX4_countSteps 72 = .ok (.iconst 1, 1) := by decide +kernel
theorem dX4_countSteps_73 : decode cX4_countSteps 73 = .ok (.iadd, 1) := by decide +kernel
theorem dX4_countSteps_74 : decode cX4_countSteps 74 = .ok (.invokestatic 44, 3) := by decide +kernel
theorem dX4_countSteps_77 : decode cX4_countSteps 77 = .ok (.iinc 3 (-1), 3) := by decide +kernel
theorem dX4_countSteps_80 : decode cX4_countSteps 80 = .ok (.goto (-44), 3) := by decide +kernel
theorem dX4_countSteps_83 : decode cX4_countSteps 83 = .ok (.return_, 1) := by decide +kernel
theorem dX4_handOn_0 : decode cX4_handOn 0 = .ok (.iload_n 1, 1) := by decide +kernel
theorem dX4_handOn_1 : decode cX4_handOn 1 = .ok (.ifCond .lt 27, 3) := by decide +kernel
theorem dX4_handOn_4 : decode cX4_handOn 4 = .ok (.iload_n 1, 1) := by decide +kernel
theorem dX4_handOn_5 : decode cX4_handOn 5 = .ok (.aload_n 0, 1) := by decide +kernel
theorem dX4_handOn_6 : decode cX4_handOn 6 = .ok (.arraylength, 1) := by decide +kernel
theorem dX4_handOn_7 : decode cX4_handOn 7 = .ok (.if_icmp .ge 21, 3) := by decide +kernel
theorem dX4_handOn_10 : decode cX4_handOn 10 = .ok (.aload_n 0, 1) := by decide +kernel
theorem dX4_handOn_11 : decode cX4_handOn 11 = .ok (.iload_n 1, 1) := by decide +kernel
theorem dX4_handOn_12 : decode cX4_handOn 12 = .ok (.iaload, 1) := by decide +kernel
theorem dX4_handOn_13 : decode cX4_handOn 13 = .ok (.iconst (-1), 1) := by decide +kernel
theorem dX4_handOn_14 : decode cX4_handOn 14 = .ok (.if_icmp .eq 10, 3) := by decide +kernel
theorem dX4_handOn_17 : decode cX4_handOn 17 = .ok (.iload_n 2, 1) := by decide +kernel
theorem dX4_handOn_18 : decode cX4_handOn 18 = .ok (.aload_n 0, 1) := by decide +kernel
theorem dX4_handOn_19 : decode cX4_handOn 19 = .ok (.iload_n 1, 1) := by decide +kernel
theorem dX4_handOn_20 : decode cX4_handOn 20 = .ok (.iaload, 1) := by decide +kernel
theorem dX4_handOn_21 : decode cX4_handOn 21 = .ok (.if_icmp .ge 7, 3) := by decide +kernel
theorem dX4_handOn_24 : decode cX4_handOn 24 = .ok (.aload_n 0, 1) := by decide +kernel
theorem dX4_handOn_25 : decode cX4_handOn 25 = .ok (.iload_n 1, 1) := by decide +kernel
theorem dX4_handOn_26 : decode cX4_handOn 26 = .ok (.iload_n 2, 1) := by decide +kernel
theorem dX4_handOn_27 : decode cX4_handOn 27 = .ok (.iastore, 1) := by decide +kernel
theorem dX4_handOn_28 : decode cX4_handOn 28 = .ok (.return_, 1) := by decide +kernel
set_option maxRecDepth 20000 in
theorem ggX5_init_X6_init : GoodIn wsX5_init wsX6_init := goodIn_r _ [10, 11, 2, 3, 12, 13, 14, 15, 16, 17, 18, 19, 20] (by decide +kernel) (by decide +kernel)
set_option maxRecDepth 20000 in
theorem gX5_init_X6_init : GoodIn wsX5_init (wsX6_init) := ggX5_init_X6_init
theorem dX5_init_0 : decode cX5_init 0 = .ok (.aload_n 0, 1) := by decide +kernel
theorem dX5_init_1 : decode cX5_init 1 = .ok (.invokespecial 3, 3) := by decide +kernel
theorem dX5_init_4 : decode cX5_init 4 = .ok (.aload_n 0, 1) := by decide +kernel
theorem dX5_init_5 : decode cX5_init 5 = .ok (.new 9, 3) := by decide +kernel
theorem dX5_init_8 : decode cX5_init 8 = .ok (.dup, 1) := by decide +kernel
theorem dX5_init_9 : decode cX5_init 9 = .ok (.bipush 20, 2) := by decide +kernel
theorem dX5_init_11 : decode cX5_init 11 = .ok (.invokespecial 11, 3) := by decide +kernel
theorem dX5_init_14 : decode cX5_init 14 = .ok (.putfield 14, 3) := by decide +kernel
theorem dX5_init_17 : decode cX5_init 17 = .ok (.return_, 1) := by decide +kernel
set_option maxRecDepth 20000 in
theorem ggX5_remember_X6_lay : GoodIn wsX5_remember wsX6_lay := goodIn_r _ [12, 13, 14, 15, 16, 17, 18, 19, 23, 24, 25] (by decide +kernel) (by decide +kernel)
set_option maxRecDepth 20000 in
theorem gX5_remember_X6_lay : GoodIn wsX5_remember (wsV RX5 24 RX6 yX6_lay wsX6_lay) := goodIn_app (goodIn_of _ (by decide +kernel)) ggX5_remember_X6_lay
theorem dX5_remember_0 : decode cX5_remember 0 = .ok (.aload_n 0, 1) := by decide +kernel
theorem dX5_remember_1 : decode cX5_remember 1 = .ok (.getfield 14, 3) := by decide +kernel
theorem dX5_remember_4 : decode cX5_remember 4 = .ok (.aload_n 0, 1) := by decide +kernel
theorem dX5_remember_5 : decode cX5_remember 5 = .ok (.getfield 20, 3) := by decide +kernel
theorem dX5_remember_8 : decode cX5_remember 8 = .ok (.aload_n 1, 1) := by decide +kernel
theorem dX5_remember_9 : decode cX5_remember 9 = .ok (.invokevirtual 24, 3) := by decide +kernel
theorem dX5_remember_12 : decode cX5_remember 12 = .ok (.aload_n 0, 1) := by decide +kernel
theorem dX5_remember_13 : decode cX5_remember 13 = .ok (.aload_n 0, 1) := by decide +kernel
theorem dX5_remember_14 : decode cX5_remember 14 = .ok (.getfield 20, 3) := by decide +kernel
theorem dX5_remember_17 : decode cX5_remember 17 = .ok (.iconst 1, 1) := by decide +kernel
theorem dX5_remember_18 : decode cX5_remember 18 = .ok (.iadd, 1) := by decide +kernel
theorem dX5_remember_19 : decode cX5_remember 19 = .ok (.bipush 20, 2) := by decide +kernel
theorem dX5_remember_21 : decode cX5_remember 21 = .ok (.irem, 1) := by decide +kernel
theorem dX5_remember_22 : decode cX5_remember 22 = .ok (.putfield 20, 3) := by decide +kernel
theorem dX5_remember_25 : decode cX5_remember 25 = .ok (.aload_n 0, 1) := by decide +kernel
theorem dX5_remember_26 : decode cX5_remember 26 = .ok (.aload_n 0, 1) := by decide +kernel
theorem dX5_remember_27 : decode cX5_remember 27 = .ok (.getfield 28, 3) := by decide +kernel
theorem dX5_remember_30 : decode cX5_remember 30 = .ok (.iconst 1, 1) := by decide +kernel
theorem dX5_remember_31 : decode cX5_remember 31 = .ok (.iadd, 1) := by decide +kernel
theorem dX5_remember_32 : decode cX5_remember 32 = .ok (.bipush 20, 2) := by decide +kernel
theorem dX5_remember_34 : decode cX5_remember 34 = .ok (.invokestatic 31, 3) := by decide +kernel
theorem dX5_remember_37 : decode cX5_remember 37 = .ok (.putfield 28, 3) := by decide +kernel
theorem dX5_remember_40 : decode cX5_remember 40 = .ok (.return_, 1) := by decide +kernel
set_option maxRecDepth 20000 in
theorem ggX5_stepBack_X6_fetch : GoodIn wsX5_stepBack wsX6_fetch := goodIn_r _ [8, 9, 10, 11, 12, 13, 14, 15, 19, 20, 21] (by decide +kernel) (by decide +kernel)
set_option maxRecDepth 20000 in
theorem gX5_stepBack_X6_fetch : GoodIn wsX5_stepBack (wsV RX5 37 RX6 yX6_fetch wsX6_fetch) := goodIn_app (goodIn_of _ (by decide +kernel)) ggX5_stepBack_X6_fetch
theorem dX5_stepBack_0 : decode cX5_stepBack 0 = .ok (.iload_n 2, 1) := by decide +kernel
theorem dX5_stepBack_1 : decode cX5_stepBack 1 = .ok (.iconst 1, 1) := by decide +kernel
theorem dX5_stepBack_2 : decode cX5_stepBack 2 = .ok (.if_icmp .lt 11, 3) := by decide +kernel
theorem dX5_stepBack_5 : decode cX5_stepBack 5 = .ok (.iload_n 2, 1) := by decide +kernel
theorem dX5_stepBack_6 : decode cX5_stepBack 6 = .ok (.aload_n 0, 1) := by decide +kernel
theorem dX5_stepBack_7 : decode cX5_stepBack 7 = .ok (.getfield 28, 3) := by decide +kernel
theorem dX5_stepBack_10 : decode cX5_stepBack 10 = .ok (.if_icmp .le 4, 3) := by decide +kernel
theorem dX5_stepBack_13 : decode cX5_stepBack 13 = .ok (.return_, 1) := by decide +kernel
theorem dX5_stepBack_14 : decode cX5_stepBack 14 = .ok (.aload_n 0, 1) := by decide +kernel
theorem dX5_stepBack_15 : decode cX5_stepBack 15 = .ok (.aload_n 0, 1) := by decide +kernel
theorem dX5_stepBack_16 : decode cX5_stepBack 16 = .ok (.getfield 20, 3) := by decide +kernel
theorem dX5_stepBack_19 : decode cX5_stepBack 19 = .ok (.bipush 20, 2) := by decide +kernel
theorem dX5_stepBack_21 : decode cX5_stepBack 21 = .ok (.iadd, 1) := by decide +kernel
theorem dX5_stepBack_22 : decode cX5_stepBack 22 = .ok (.iload_n 2, 1) := by decide +kernel
theorem dX5_stepBack_23 : decode cX5_stepBack 23 = .ok (.isub, 1) := by decide +kernel
theorem dX5_stepBack_24 : decode cX5_stepBack 24 = .ok (.bipush 20, 2) := by decide +kernel
theorem dX5_stepBack_26 : decode cX5_stepBack 26 = .ok (.irem, 1) := by decide +kernel
theorem dX5_stepBack_27 : decode cX5_stepBack 27 = .ok (.putfield 20, 3) := by decide +kernel
theorem dX5_stepBack_30 : decode cX5_stepBack 30 = .ok (.aload_n 0, 1) := by decide +kernel
theorem dX5_stepBack_31 : decode cX5_stepBack 31 = .ok (.dup, 1) := by decide +kernel
theorem dX5_stepBack_32 : decode cX5_stepBack 32 = .ok (.getfield 28, 3) := by decide +kernel
theorem dX5_stepBack_35 : decode cX5_stepBack 35 = .ok (.iload_n 2, 1) := by decide +kernel
theorem dX5_stepBack_36 : decode cX5_stepBack 36 = .ok (.isub, 1) := by decide +kernel
theorem dX5_stepBack_37 : decode cX5_stepBack 37 = .ok (.putfield 28, 3) := by decide +kernel
theorem dX5_stepBack_40 : decode cX5_stepBack 40 = .ok (.aload_n 0, 1) := by decide +kernel
theorem dX5_stepBack_41 : decode cX5_stepBack 41 = .ok (.getfield 14, 3) := by decide +kernel
theorem dX5_stepBack_44 : decode cX5_stepBack 44 = .ok (.aload_n 0, 1) := by decide +kernel
theorem dX5_stepBack_45 : decode cX5_stepBack 45 = .ok (.getfield 20, 3) := by decide +kernel
theorem dX5_stepBack_48 : decode cX5_stepBack 48 = .ok (.aload_n 1, 1) := by decide +kernel
theorem dX5_stepBack_49 : decode cX5_stepBack 49 = .ok (.invokevirtual 37, 3) := by decide +kernel
theorem dX5_stepBack_52 : decode cX5_stepBack 52 = .ok (.return_, 1) := by decide +kernel
theorem dX6_init_0 : decode cX6_init 0 = .ok (.aload_n 0, 1) := by decide +kernel
theorem dX6_init_1 : decode cX6_init 1 = .ok (.invokespecial 1, 3) := by decide +kernel
theorem dX6_init_4 : decode cX6_init 4 = .ok (.aload_n 0, 1) := by decide +kernel
theorem dX6_init_5 : decode cX6_init 5 = .ok (.iload_n 1, 1) := by decide +kernel
theorem dX6_init_6 : decode cX6_init 6 = .ok (.iconst 0, 1) := by decide +kernel
theorem dX6_init_7 : decode cX6_init 7 = .ok (.invokestatic 7, 3) := by decide +kernel
theorem dX6_init_10 : decode cX6_init 10 = .ok (.putfield 13, 3) := by decide +kernel
theorem dX6_init_13 : decode cX6_init 13 = .ok (.aload_n 0, 1) := by decide +kernel
theorem dX6_init_14 : decode cX6_init 14 = .ok (.aload_n 0, 1) := by decide +kernel
theorem dX6_init_15 : decode cX6_init 15 = .ok (.getfield 13, 3) := by decide +kernel
theorem dX6_init_18 : decode cX6_init 18 = .ok (.sipush 141, 3) := by decide +kernel
theorem dX6_init_21 : decode cX6_init 21 = .ok (.imul, 1) := by decide +kernel
theorem dX6_init_22 : decode cX6_init 22 = .ok (.newarray .int, 2) := by decide +kernel
theorem dX6_init_24 : decode cX6_init 24 = .ok (.putfield 21, 3) := by decide +kernel
theorem dX6_init_27 : decode cX6_init 27 = .ok (.return_, 1) := by decide +kernel
theorem dX6_lay_0 : decode cX6_lay 0 = .ok (.iload_n 1, 1) := by decide +kernel
theorem dX6_lay_1 : decode cX6_lay 1 = .ok (.ifCond .lt 31, 3) := by decide +kernel
theorem dX6_lay_4 : decode cX6_lay 4 = .ok (.iload_n 1, 1) := by decide +kernel
theorem dX6_lay_5 : decode cX6_lay 5 = .ok (.aload_n 0, 1) := by decide +kernel
theorem dX6_lay_6 : decode cX6_lay 6 = .ok (.getfield 13, 3) := by decide +kernel
theorem dX6_lay_9 : decode cX6_lay 9 = .ok (.if_icmp .ge 23, 3) := by decide +kernel
theorem dX6_lay_12 : decode cX6_lay 12 = .ok (.aload_n 2, 1) := by decide +kernel
theorem dX6_lay_13 : decode cX6_lay 13 = .ok (.getfield 25, 3) := by decide +kernel
theorem dX6_lay_16 : decode cX6_lay 16 = .ok (.iconst 0, 1) := by decide +kernel
theorem dX6_lay_17 : decode cX6_lay 17 = .ok (.aload_n 0, 1) := by decide +kernel
theorem dX6_lay_18 : decode cX6_lay 18 = .ok (.getfield 21, 3) := by decide +kernel
theorem dX6_lay_21 : decode cX6_lay 21 = .ok (.iload_n 1, 1) := by decide +kernel
theorem dX6_lay_22 : decode cX6_lay 22 = .ok (.sipush 141, 3) := by decide +kernel
theorem dX6_lay_25 : decode cX6_lay 25 = .ok (.imul, 1) := by decide +kernel
theorem dX6_lay_26 : decode cX6_lay 26 = .ok (.sipush 141, 3) := by decide +kernel
theorem dX6_lay_29 : decode cX6_lay 29 = .ok (.invokestatic 28, 3) := by decide +kernel
theorem dX6_lay_32 : decode cX6_lay 32 = .ok (.return_, 1) := by decide +kernel
theorem dX6_fetch_0 : decode cX6_fetch 0 = .ok (.iload_n 1, 1) := by decide +kernel
theorem dX6_fetch_1 : decode cX6_fetch 1 = .ok (.ifCond .lt 31, 3) := by decide +kernel
theorem dX6_fetch_4 : decode cX6_fetch 4 = .ok (.iload_n 1, 1) := by decide +kernel
theorem dX6_fetch_5 : decode cX6_fetch 5 = .ok (.aload_n 0, 1) := by decide +kernel
theorem dX6_fetch_6 : decode cX6_fetch 6 = .ok (.getfield 13, 3) := by decide +kernel
theorem dX6_fetch_9 : decode cX6_fetch 9 = .ok (.if_icmp .ge 23, 3) := by decide +kernel
theorem dX6_fetch_12 : decode cX6_fetch 12 = .ok (.aload_n 0, 1) := by decide +kernel
theorem dX6_fetch_13 : decode cX6_fetch 13 = .ok (.getfield 21, 3) := by decide +kernel
theorem dX6_fetch_16 : decode cX6_fetch 16 = .ok (.iload_n 1, 1) := by decide +kernel
theorem dX6_fetch_17 : decode cX6_fetch 17 = .ok (.sipush 141, 3) := by decide +kernel
theorem dX6_fetch_20 : decode cX6_fetch 20 = .ok (.imul, 1) := by decide +kernel
theorem dX6_fetch_21 : decode cX6_fetch 21 = .ok (.aload_n 2, 1) := by decide +kernel
theorem dX6_fetch_22 : decode cX6_fetch 22 = .ok (.getfield 25, 3) := by decide +kernel
theorem dX6_fetch_25 : decode cX6_fetch 25 = .ok (.iconst 0, 1) := by decide +kernel
theorem dX6_fetch_26 : decode cX6_fetch 26 = .ok (.sipush 141, 3) := by decide +kernel
theorem dX6_fetch_29 : decode cX6_fetch 29 = .ok (.invokestatic 28, 3) := by decide +kernel
theorem dX6_fetch_32 : decode cX6_fetch 32 = .ok (.return_, 1) := by decide +kernel
