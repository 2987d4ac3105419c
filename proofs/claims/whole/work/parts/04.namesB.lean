theorem dX7_init_0 : decode cX7_init 0 = .ok (.aload_n 0, 1) := by decide +kernel
theorem dX7_init_1 : decode cX7_init 1 = .ok (.invokespecial 5, 3) := by decide +kernel
theorem dX7_init_4 : decode cX7_init 4 = .ok (.aload_n 0, 1) := by decide +kernel
theorem dX7_init_5 : decode cX7_init 5 = .ok (.sipush 141, 3) := by decide +kernel
theorem dX7_init_8 : decode cX7_init 8 = .ok (.newarray .int, 2) := by decide +kernel
theorem dX7_init_10 : decode cX7_init 10 = .ok (.putfield 11, 3) := by decide +kernel
theorem dX7_init_13 : decode cX7_init 13 = .ok (.return_, 1) := by decide +kernel
theorem dX7_people_0 : decode cX7_people 0 = .ok (.aload_n 0, 1) := by decide +kernel
theorem dX7_people_1 : decode cX7_people 1 = .ok (.getfield 11, 3) := by decide +kernel
theorem dX7_people_4 : decode cX7_people 4 = .ok (.iconst 0, 1) := by decide +kernel
theorem dX7_people_5 : decode cX7_people 5 = .ok (.iaload, 1) := by decide +kernel
theorem dX7_people_6 : decode cX7_people 6 = .ok (.ireturn, 1) := by decide +kernel
theorem dX7_has_0 : decode cX7_has 0 = .ok (.iload_n 1, 1) := by decide +kernel
theorem dX7_has_1 : decode cX7_has 1 = .ok (.ifCond .lt 17, 3) := by decide +kernel
theorem dX7_has_4 : decode cX7_has 4 = .ok (.iload_n 1, 1) := by decide +kernel
theorem dX7_has_5 : decode cX7_has 5 = .ok (.aload_n 0, 1) := by decide +kernel
theorem dX7_has_6 : decode cX7_has 6 = .ok (.getfield 11, 3) := by decide +kernel
theorem dX7_has_9 : decode cX7_has 9 = .ok (.iconst 0, 1) := by decide +kernel
theorem dX7_has_10 : decode cX7_has 10 = .ok (.iaload, 1) := by decide +kernel
theorem dX7_has_11 : decode cX7_has 11 = .ok (.if_icmp .ge 7, 3) := by decide +kernel
theorem dX7_has_14 : decode cX7_has 14 = .ok (.iconst 1, 1) := by decide +kernel
theorem dX7_has_15 : decode cX7_has 15 = .ok (.goto 4, 3) := by decide +kernel
theorem dX7_has_18 : decode cX7_has 18 = .ok (.iconst 0, 1) := by decide +kernel
theorem dX7_has_19 : decode cX7_has 19 = .ok (.ireturn, 1) := by decide +kernel
set_option maxRecDepth 20000 in
theorem ggX7_hasOrNone_X7_has : GoodIn wsX7_hasOrNone wsX7_has := goodIn_r _ [5, 6, 7] (by decide +kernel) (by decide +kernel)
set_option maxRecDepth 20000 in
theorem gX7_hasOrNone_X7_has : GoodIn wsX7_hasOrNone (wsV RX7 15 RX7 yX7_has wsX7_has) := goodIn_app (goodIn_of _ (by decide +kernel)) ggX7_hasOrNone_X7_has
theorem dX7_hasOrNone_0 : decode cX7_hasOrNone 0 = .ok (.iload_n 1, 1) := by decide +kernel
theorem dX7_hasOrNone_1 : decode cX7_hasOrNone 1 = .ok (.iconst (-1), 1) := by decide +kernel
theorem dX7_hasOrNone_2 : decode cX7_hasOrNone 2 = .ok (.if_icmp .eq 11, 3) := by decide +kernel
theorem dX7_hasOrNone_5 : decode cX7_hasOrNone 5 = .ok (.aload_n 0, 1) := by decide +kernel
theorem dX7_hasOrNone_6 : decode cX7_hasOrNone 6 = .ok (.iload_n 1, 1) := by decide +kernel
theorem dX7_hasOrNone_7 : decode cX7_hasOrNone 7 = .ok (.invokevirtual 15, 3) := by decide +kernel
theorem dX7_hasOrNone_10 : decode cX7_hasOrNone 10 = .ok (.ifCond .eq 7, 3) := by decide +kernel
theorem dX7_hasOrNone_13 : decode cX7_hasOrNone 13 = .ok (.iconst 1, 1) := by decide +kernel
theorem dX7_hasOrNone_14 : decode cX7_hasOrNone 14 = .ok (.goto 4, 3) := by decide +kernel
theorem dX7_hasOrNone_17 : decode cX7_hasOrNone 17 = .ok (.iconst 0, 1) := by decide +kernel
theorem dX7_hasOrNone_18 : decode cX7_hasOrNone 18 = .ok (.ireturn, 1) := by decide +kernel
set_option maxRecDepth 20000 in
theorem ggX7_hasRoom_X7_people : GoodIn wsX7_hasRoom wsX7_people := goodIn_r _ [5, 6, 7] (by decide +kernel) (by decide +kernel)
set_option maxRecDepth 20000 in
theorem gX7_hasRoom_X7_people : GoodIn wsX7_hasRoom (wsV RX7 19 RX7 yX7_people wsX7_people) := goodIn_app (goodIn_of _ (by decide +kernel)) ggX7_hasRoom_X7_people
theorem dX7_hasRoom_0 : decode cX7_hasRoom 0 = .ok (.aload_n 0, 1) := by decide +kernel
theorem dX7_hasRoom_1 : decode cX7_hasRoom 1 = .ok (.invokevirtual 19, 3) := by decide +kernel
theorem dX7_hasRoom_4 : decode cX7_hasRoom 4 = .ok (.bipush 16, 2) := by decide +kernel
theorem dX7_hasRoom_6 : decode cX7_hasRoom 6 = .ok (.if_icmp .ge 7, 3) := by decide +kernel
theorem dX7_hasRoom_9 : decode cX7_hasRoom 9 = .ok (.iconst 1, 1) := by decide +kernel
theorem dX7_hasRoom_10 : decode cX7_hasRoom 10 = .ok (.goto 4, 3) := by decide +kernel
theorem dX7_hasRoom_13 : decode cX7_hasRoom 13 = .ok (.iconst 0, 1) := by decide +kernel
theorem dX7_hasRoom_14 : decode cX7_hasRoom 14 = .ok (.ireturn, 1) := by decide +kernel
set_option maxRecDepth 20000 in
theorem ggX7_fact_X7_has : GoodIn wsX7_fact wsX7_has := goodIn_r _ [6, 1, 7] (by decide +kernel) (by decide +kernel)
set_option maxRecDepth 20000 in
theorem gX7_fact_X7_has : GoodIn wsX7_fact (wsV RX7 15 RX7 yX7_has wsX7_has) := goodIn_app (goodIn_of _ (by decide +kernel)) ggX7_fact_X7_has
theorem dX7_fact_0 : decode cX7_fact 0 = .ok (.aload_n 0, 1) := by decide +kernel
theorem dX7_fact_1 : decode cX7_fact 1 = .ok (.iload_n 1, 1) := by decide +kernel
theorem dX7_fact_2 : decode cX7_fact 2 = .ok (.invokevirtual 15, 3) := by decide +kernel
theorem dX7_fact_5 : decode cX7_fact 5 = .ok (.ifCond .eq 13, 3) := by decide +kernel
theorem dX7_fact_8 : decode cX7_fact 8 = .ok (.iload_n 2, 1) := by decide +kernel
theorem dX7_fact_9 : decode cX7_fact 9 = .ok (.ifCond .lt 9, 3) := by decide +kernel
theorem dX7_fact_12 : decode cX7_fact 12 = .ok (.iload_n 2, 1) := by decide +kernel
theorem dX7_fact_13 : decode cX7_fact 13 = .ok (.bipush 8, 2) := by decide +kernel
theorem dX7_fact_15 : decode cX7_fact 15 = .ok (.if_icmp .lt 5, 3) := by decide +kernel
theorem dX7_fact_18 : decode cX7_fact 18 = .ok (.iconst (-1), 1) := by decide +kernel
theorem dX7_fact_19 : decode cX7_fact 19 = .ok (.ireturn, 1) := by decide +kernel
theorem dX7_fact_20 : decode cX7_fact 20 = .ok (.aload_n 0, 1) := by decide +kernel
theorem dX7_fact_21 : decode cX7_fact 21 = .ok (.getfield 11, 3) := by decide +kernel
theorem dX7_fact_24 : decode cX7_fact 24 = .ok (.bipush 13, 2) := by decide +kernel
theorem dX7_fact_26 : decode cX7_fact 26 = .ok (.iload_n 1, 1) := by decide +kernel
theorem dX7_fact_27 : decode cX7_fact 27 = .ok (.bipush 8, 2) := by decide +kernel
theorem dX7_fact_29 : decode cX7_fact 29 = .ok (.imul, 1) := by decide +kernel
theorem dX7_fact_30 : decode cX7_fact 30 = .ok (.iadd, 1) := by decide +kernel
theorem dX7_fact_31 : decode cX7_fact 31 = .ok (.iload_n 2, 1) := by decide +kernel
theorem dX7_fact_32 : decode cX7_fact 32 = .ok (.iadd, 1) := by decide +kernel
theorem dX7_fact_33 : decode cX7_fact 33 = .ok (.iaload, 1) := by decide +kernel
theorem dX7_fact_34 : decode cX7_fact 34 = .ok (.ireturn, 1) := by decide +kernel
set_option maxRecDepth 20000 in
theorem ggX7_isMan_X7_fact : GoodIn wsX7_isMan wsX7_fact := goodIn_r _ [5, 6, 7, 8, 9, 4, 10, 11] (by decide +kernel) (by decide +kernel)
set_option maxRecDepth 20000 in
theorem gX7_isMan_X7_fact : GoodIn wsX7_isMan (wsV RX7 23 RX7 yX7_fact wsX7_fact) := goodIn_app (goodIn_of _ (by decide +kernel)) ggX7_isMan_X7_fact
theorem dX7_isMan_0 : decode cX7_isMan 0 = .ok (.aload_n 0, 1) := by decide +kernel
theorem dX7_isMan_1 : decode cX7_isMan 1 = .ok (.iload_n 1, 1) := by decide +kernel
theorem dX7_isMan_2 : decode cX7_isMan 2 = .ok (.iconst 0, 1) := by decide +kernel
theorem dX7_isMan_3 : decode cX7_isMan 3 = .ok (.invokevirtual 23, 3) := by decide +kernel
theorem dX7_isMan_6 : decode cX7_isMan 6 = .ok (.ifCond .ne 7, 3) := by decide +kernel
theorem dX7_isMan_9 : decode cX7_isMan 9 = .ok (.iconst 1, 1) := by decide +kernel
theorem dX7_isMan_10 : decode cX7_isMan 10 = .ok (.goto 4, 3) := by decide +kernel
theorem dX7_isMan_13 : decode cX7_isMan 13 = .ok (.iconst 0, 1) := by decide +kernel
theorem dX7_isMan_14 : decode cX7_isMan 14 = .ok (.ireturn, 1) := by decide +kernel
set_option maxRecDepth 20000 in
theorem ggX7_isWoman_X7_fact : GoodIn wsX7_isWoman wsX7_fact := goodIn_r _ [5, 6, 7, 8, 9, 4, 10, 11] (by decide +kernel) (by decide +kernel)
set_option maxRecDepth 20000 in
theorem gX7_isWoman_X7_fact : GoodIn wsX7_isWoman (wsV RX7 23 RX7 yX7_fact wsX7_fact) := goodIn_app (goodIn_of _ (by decide +kernel)) ggX7_isWoman_X7_fact
theorem dX7_isWoman_0 : decode cX7_isWoman 0 = .ok (.aload_n 0, 1) := by decide +kernel
theorem dX7_isWoman_1 : decode cX7_isWoman 1 = .ok (.iload_n 1, 1) := by decide +kernel
theorem dX7_isWoman_2 : decode cX7_isWoman 2 = .ok (.iconst 0, 1) := by decide +kernel
theorem dX7_isWoman_3 : decode cX7_isWoman 3 = .ok (.invokevirtual 23, 3) := by decide +kernel
theorem dX7_isWoman_6 : decode cX7_isWoman 6 = .ok (.iconst 1, 1) := by decide +kernel
theorem dX7_isWoman_7 : decode cX7_isWoman 7 = .ok (.if_icmp .ne 7, 3) := by decide +kernel
theorem dX7_isWoman_10 : decode cX7_isWoman 10 = .ok (.iconst 1, 1) := by decide +kernel
theorem dX7_isWoman_11 : decode cX7_isWoman 11 = .ok (.goto 4, 3) := by decide +kernel
theorem dX7_isWoman_14 : decode cX7_isWoman 14 = .ok (.iconst 0, 1) := by decide +kernel
theorem dX7_isWoman_15 : decode cX7_isWoman 15 = .ok (.ireturn, 1) := by decide +kernel
set_option maxRecDepth 20000 in
theorem ggX7_childrenOf_X7_people : GoodIn wsX7_childrenOf wsX7_people := goodIn_r _ [5, 6, 15] (by decide +kernel) (by decide +kernel)
set_option maxRecDepth 20000 in
theorem gX7_childrenOf_X7_people : GoodIn wsX7_childrenOf (wsV RX7 19 RX7 yX7_people wsX7_people) := goodIn_app (goodIn_of _ (by decide +kernel)) ggX7_childrenOf_X7_people
set_option maxRecDepth 20000 in
theorem ggX7_childrenOf_X7_fact : GoodIn wsX7_childrenOf wsX7_fact := goodIn_r _ [10, 6, 11, 12, 13, 4, 14, 15] (by decide +kernel) (by decide +kernel)
set_option maxRecDepth 20000 in
theorem gX7_childrenOf_X7_fact : GoodIn wsX7_childrenOf (wsV RX7 23 RX7 yX7_fact wsX7_fact) := goodIn_app (goodIn_of _ (by decide +kernel)) ggX7_childrenOf_X7_fact
theorem dX7_childrenOf_0 : decode cX7_childrenOf 0 = .ok (.iconst 0, 1) := by decide +kernel
theorem dX7_childrenOf_1 : decode cX7_childrenOf 1 = .ok (.istore_n 2, 1) := by decide +kernel
theorem dX7_childrenOf_2 : decode cX7_childrenOf 2 = .ok (.iconst 0, 1) := by decide +kernel
theorem dX7_childrenOf_3 : decode cX7_childrenOf 3 = .ok (.istore_n 3, 1) := by decide +kernel
theorem dX7_childrenOf_4 : decode cX7_childrenOf 4 = .ok (.iload_n 3, 1) := by decide +kernel
theorem dX7_childrenOf_5 : decode cX7_childrenOf 5 = .ok (.aload_n 0, 1) := by decide +kernel
theorem dX7_childrenOf_6 : decode cX7_childrenOf 6 = .ok (.invokevirtual 19, 3) := by decide +kernel
theorem dX7_childrenOf_9 : decode cX7_childrenOf 9 = .ok (.if_icmp .ge 35, 3) := by decide +kernel
theorem dX7_childrenOf_12 : decode cX7_childrenOf 12 = .ok (.aload_n 0, 1) := by decide +kernel
theorem dX7_childrenOf_13 : decode cX7_childrenOf 13 = .ok (.iload_n 3, 1) := by decide +kernel
theorem dX7_childrenOf_14 : decode cX7_childrenOf 14 = .ok (.iconst 2, 1) := by decide +kernel
theorem dX7_childrenOf_15 : decode cX7_childrenOf 15 = .ok (.invokevirtual 23, 3) := by decide +kernel
theorem dX7_childrenOf_18 : decode cX7_childrenOf 18 = .ok (.iload_n 1, 1) := by decide +kernel
theorem dX7_childrenOf_19 : decode cX7_childrenOf 19 = .ok (.if_icmp .eq 13, 3) := by decide +kernel
theorem dX7_childrenOf_22 : decode cX7_childrenOf 22 = .ok (.aload_n 0, 1) := by decide +kernel
theorem dX7_childrenOf_23 : decode cX7_childrenOf 23 = .ok (.iload_n 3, 1) := by decide +kernel
theorem dX7_childrenOf_24 : decode cX7_childrenOf 24 = .ok (.iconst 3, 1) := by decide +kernel
theorem dX7_childrenOf_25 : decode cX7_childrenOf 25 = .ok (.invokevirtual 23, 3) := by decide +kernel
theorem dX7_childrenOf_28 : decode cX7_childrenOf 28 = .ok (.iload_n 1, 1) := by decide +kernel
theorem dX7_childrenOf_29 : decode cX7_childrenOf 29 = .ok (.if_icmp .ne 9, 3) := by decide +kernel
theorem dX7_childrenOf_32 : decode cX7_childrenOf 32 = .ok (.iload_n 2, 1) := by decide +kernel
theorem dX7_childrenOf_33 : decode cX7_childrenOf 33 = .ok (.iconst 1, 1) := by decide +kernel
theorem dX7_childrenOf_34 : decode cX7_childrenOf 34 = .ok (.iload_n 3, 1) := by decide +kernel
theorem dX7_childrenOf_35 : decode cX7_childrenOf 35 = .ok (.ishl, 1) := by decide +kernel
theorem dX7_childrenOf_36 : decode cX7_childrenOf 36 = .ok (.ior, 1) := by decide +kernel
theorem dX7_childrenOf_37 : decode cX7_childrenOf 37 = .ok (.istore_n 2, 1) := by decide +kernel
theorem dX7_childrenOf_38 : decode cX7_childrenOf 38 = .ok (.iinc 3 1, 3) := by decide +kernel
theorem dX7_childrenOf_41 : decode cX7_childrenOf 41 = .ok (.goto (-37), 3) := by decide +kernel
theorem dX7_childrenOf_44 : decode cX7_childrenOf 44 = .ok (.iload_n 2, 1) := by decide +kernel
theorem dX7_childrenOf_45 : decode cX7_childrenOf 45 = .ok (.ireturn, 1) := by decide +kernel
set_option maxRecDepth 20000 in
theorem ggX7_addPerson_X7_hasRoom : GoodIn wsX7_addPerson wsX7_hasRoom := goodIn_r _ [6, 7, 8, 9, 5, 10, 1, 19] (by decide +kernel) (by decide +kernel)
set_option maxRecDepth 20000 in
theorem gX7_addPerson_X7_hasRoom : GoodIn wsX7_addPerson (wsV RX7 27 RX7 yX7_hasRoom wsX7_hasRoom) := goodIn_app (goodIn_of _ (by decide +kernel)) ggX7_addPerson_X7_hasRoom
set_option maxRecDepth 20000 in
theorem ggX7_addPerson_X7_people : GoodIn wsX7_addPerson wsX7_people := goodIn_r _ [10, 1, 19] (by decide +kernel) (by decide +kernel)
set_option maxRecDepth 20000 in
theorem gX7_addPerson_X7_people : GoodIn wsX7_addPerson (wsV RX7 19 RX7 yX7_people wsX7_people) := goodIn_app (goodIn_of _ (by decide +kernel)) ggX7_addPerson_X7_people
set_option maxRecDepth 20000 in
theorem ggX7_addPerson_X7_fact : GoodIn wsX7_addPerson wsX7_fact := goodIn_r _ [14, 1, 15, 16, 17, 5, 18, 19] (by decide +kernel) (by decide +kernel)
set_option maxRecDepth 20000 in
theorem gX7_addPerson_X7_fact : GoodIn wsX7_addPerson (wsV RX7 23 RX7 yX7_fact wsX7_fact) := goodIn_app (goodIn_of _ (by decide +kernel)) ggX7_addPerson_X7_fact
theorem dX7_addPerson_0 : decode cX7_addPerson 0 = .ok (.aload_n 0, 1) := by decide +kernel
theorem dX7_addPerson_1 : decode cX7_addPerson 1 = .ok (.invokevirtual 27, 3) := by decide +kernel
theorem dX7_addPerson_4 : decode cX7_addPerson 4 = .ok (.ifCond .ne 4, 3) := by decide +kernel
theorem dX7_addPerson_7 : decode cX7_addPerson 7 = .ok (.return_, 1) := by decide +kernel
theorem dX7_addPerson_8 : decode cX7_addPerson 8 = .ok (.bipush 13, 2) := by decide +kernel
theorem dX7_addPerson_10 : decode cX7_addPerson 10 = .ok (.aload_n 0, 1) := by decide +kernel
theorem dX7_addPerson_11 : decode cX7_addPerson 11 = .ok (.invokevirtual 19, 3) := by decide +kernel
theorem dX7_addPerson_14 : decode cX7_addPerson 14 = .ok (.bipush 8, 2) := by decide +kernel
theorem dX7_addPerson_16 : decode cX7_addPerson 16 = .ok (.imul, 1) := by decide +kernel
theorem dX7_addPerson_17 : decode cX7_addPerson 17 = .ok (.iadd, 1) := by decide +kernel
theorem dX7_addPerson_18 : decode cX7_addPerson 18 = .ok (.istore 5, 2) := by decide +kernel
theorem dX7_addPerson_20 : decode cX7_addPerson 20 = .ok (.aload_n 0, 1) := by decide +kernel
theorem dX7_addPerson_21 : decode cX7_addPerson 21 = .ok (.getfield 11, 3) := by decide +kernel
theorem dX7_addPerson_24 : decode cX7_addPerson 24 = .ok (.iload 5, 2) := by decide +kernel
theorem dX7_addPerson_26 : decode cX7_addPerson 26 = .ok (.iconst 0, 1) := by decide +kernel
theorem dX7_addPerson_27 : decode cX7_addPerson 27 = .ok (.iadd, 1) := by decide +kernel
theorem dX7_addPerson_28 : decode cX7_addPerson 28 = .ok (.iload_n 1, 1) := by decide +kernel
theorem dX7_addPerson_29 : decode cX7_addPerson 29 = .ok (.iastore, 1) := by decide +kernel
theorem dX7_addPerson_30 : decode cX7_addPerson 30 = .ok (.aload_n 0, 1) := by decide +kernel
theorem dX7_addPerson_31 : decode cX7_addPerson 31 = .ok (.getfield 11, 3) := by decide +kernel
theorem dX7_addPerson_34 : decode cX7_addPerson 34 = .ok (.iload 5, 2) := by decide +kernel
theorem dX7_addPerson_36 : decode cX7_addPerson 36 = .ok (.iconst 1, 1) := by decide +kernel
theorem dX7_addPerson_37 : decode cX7_addPerson 37 = .ok (.iadd, 1) := by decide +kernel
theorem dX7_addPerson_38 : decode cX7_addPerson 38 = .ok (.iload_n 3, 1) := by decide +kernel
theorem dX7_addPerson_39 : decode cX7_addPerson 39 = .ok (.iconst (-1), 1) := by decide +kernel
theorem dX7_addPerson_40 : decode cX7_addPerson 40 = .ok (.if_icmp .ne 7, 3) := by decide +kernel
theorem dX7_addPerson_43 : decode cX7_addPerson 43 = .ok (.iload_n 2, 1) := by decide +kernel
theorem dX7_addPerson_44 : decode cX7_addPerson 44 = .ok (.goto 9, 3) := by decide +kernel
theorem dX7_addPerson_47 : decode cX7_addPerson 47 = .ok (.aload_n 0, 1) := by decide +kernel
theorem dX7_addPerson_48 : decode cX7_addPerson 48 = .ok (.iload_n 3, 1) := by decide +kernel
theorem dX7_addPerson_49 : decode cX7_addPerson 49 = .ok (.iconst 1, 1) := by decide +kernel
theorem dX7_addPerson_50 : decode cX7_addPerson 50 = .ok (.invokevirtual 23, 3) := by decide +kernel
theorem dX7_addPerson_53 : decode cX7_addPerson 53 = .ok (.iastore, 1) := by decide +kernel
theorem dX7_addPerson_54 : decode cX7_addPerson 54 = .ok (.aload_n 0, 1) := by decide +kernel
theorem dX7_addPerson_55 : decode cX7_addPerson 55 = .ok (.getfield 11, 3) := by decide +kernel
theorem dX7_addPerson_58 : decode cX7_addPerson 58 = .ok (.iload 5, 2) := by decide +kernel
theorem dX7_addPerson_60 : decode cX7_addPerson 60 = .ok (.iconst 2, 1) := by decide +kernel
theorem dX7_addPerson_61 : decode cX7_addPerson 61 = .ok (.iadd, 1) := by decide +kernel
theorem dX7_addPerson_62 : decode cX7_addPerson 62 = .ok (.iload_n 3, 1) := by decide +kernel
theorem dX7_addPerson_63 : decode cX7_addPerson 63 = .ok (.iastore, 1) := by decide +kernel
theorem dX7_addPerson_64 : decode cX7_addPerson 64 = .ok (.aload_n 0, 1) := by decide +kernel
theorem dX7_addPerson_65 : decode cX7_addPerson 65 = .ok (.getfield 11, 3) := by decide +kernel
theorem dX7_addPerson_68 : decode cX7_addPerson 68 = .ok (.iload 5, 2) := by decide +kernel
theorem dX7_addPerson_70 : decode cX7_addPerson 70 = .ok (.iconst 3, 1) := by decide +kernel
theorem dX7_addPerson_71 : decode cX7_addPerson 71 = .ok (.iadd, 1) := by decide +kernel
theorem dX7_addPerson_72 : decode cX7_addPerson 72 = .ok (.iload 4, 2) := by decide +kernel
theorem dX7_addPerson_74 : decode cX7_addPerson 74 = .ok (.iastore, 1) := by decide +kernel
theorem dX7_addPerson_75 : decode cX7_addPerson 75 = .ok (.aload_n 0, 1) := by decide +kernel
theorem dX7_addPerson_76 : decode cX7_addPerson 76 = .ok (.getfield 11, 3) := by decide +kernel
theorem dX7_addPerson_79 : decode cX7_addPerson 79 = .ok (.iload 5, 2) := by decide +kernel
theorem dX7_addPerson_81 : decode cX7_addPerson 81 = .ok (.iconst 4, 1) := by decide +kernel
theorem dX7_addPerson_82 : decode cX7_addPerson 82 = .ok (.iadd, 1) := by decide +kernel
theorem dX7_addPerson_83 : decode cX7_addPerson 83 = .ok (.iconst 0, 1) := by decide +kernel
theorem dX7_addPerson_84 : decode cX7_addPerson 84 = .ok (.iastore, 1) := by decide +kernel
theorem dX7_addPerson_85 : decode cX7_addPerson 85 = .ok (.aload_n 0, 1) := by decide +kernel
theorem dX7_addPerson_86 : decode cX7_addPerson 86 = .ok (.getfield 11, 3) := by decide +kernel
theorem dX7_addPerson_89 : decode cX7_addPerson 89 = .ok (.iload 5, 2) := by decide +kernel
theorem dX7_addPerson_91 : decode cX7_addPerson 91 = .ok (.iconst 5, 1) := by decide +kernel
theorem dX7_addPerson_92 : decode cX7_addPerson 92 = .ok (.iadd, 1) := by decide +kernel
theorem dX7_addPerson_93 : decode cX7_addPerson 93 = .ok (.sipush 999, 3) := by decide +kernel
theorem dX7_addPerson_96 : decode cX7_addPerson 96 = .ok (.iastore, 1) := by decide +kernel
theorem dX7_addPerson_97 : decode cX7_addPerson 97 = .ok (.aload_n 0, 1) := by decide +kernel
theorem dX7_addPerson_98 : decode cX7_addPerson 98 = .ok (.getfield 11, 3) := by decide +kernel
theorem dX7_addPerson_101 : decode cX7_addPerson 101 = .ok (.iload 5, 2) := by decide +kernel
theorem dX7_addPerson_103 : decode cX7_addPerson 103 = .ok (.bipush 6, 2) := by decide +kernel
theorem dX7_addPerson_105 : decode cX7_addPerson 105 = .ok (.iadd, 1) := by decide +kernel
theorem dX7_addPerson_106 : decode cX7_addPerson 106 = .ok (.iconst 0, 1) := by decide +kernel
theorem dX7_addPerson_107 : decode cX7_addPerson 107 = .ok (.iastore, 1) := by decide +kernel
theorem dX7_addPerson_108 : decode cX7_addPerson 108 = .ok (.aload_n 0, 1) := by decide +kernel
theorem dX7_addPerson_109 : decode cX7_addPerson 109 = .ok (.getfield 11, 3) := by decide +kernel
theorem dX7_addPerson_112 : decode cX7_addPerson 112 = .ok (.iload 5, 2) := by decide +kernel
theorem dX7_addPerson_114 : decode cX7_addPerson 114 = .ok (.bipush 7, 2) := by decide +kernel
theorem dX7_addPerson_116 : decode cX7_addPerson 116 = .ok (.iadd, 1) := by decide +kernel
theorem dX7_addPerson_117 : decode cX7_addPerson 117 = .ok (.sipush 999, 3) := by decide +kernel
theorem dX7_addPerson_120 : decode cX7_addPerson 120 = .ok (.iastore, 1) := by decide +kernel
theorem dX7_addPerson_121 : decode cX7_addPerson 121 = .ok (.aload_n 0, 1) := by decide +kernel
theorem dX7_addPerson_122 : decode cX7_addPerson 122 = .ok (.getfield 11, 3) := by decide +kernel
theorem dX7_addPerson_125 : decode cX7_addPerson 125 = .ok (.iconst 0, 1) := by decide +kernel
theorem dX7_addPerson_126 : decode cX7_addPerson 126 = .ok (.dup2, 1) := by decide +kernel
theorem dX7_addPerson_127 : decode cX7_addPerson 127 = .ok (.iaload, 1) := by decide +kernel
theorem dX7_addPerson_128 : decode cX7_addPerson 128 = .ok (.iconst 1, 1) := by decide +kernel
theorem dX7_addPerson_129 : decode cX7_addPerson 129 = .ok (.iadd, 1) := by decide +kernel
theorem dX7_addPerson_130 : decode cX7_addPerson 130 = .ok (.iastore, 1) := by decide +kernel
theorem dX7_addPerson_131 : decode cX7_addPerson 131 = .ok (.return_, 1) := by decide +kernel
set_option maxRecDepth 20000 in
theorem ggX7_setBounds_X7_has : GoodIn wsX7_setBounds wsX7_has := goodIn_r _ [6, 1, 7] (by decide +kernel) (by decide +kernel)
set_option maxRecDepth 20000 in
theorem gX7_setBounds_X7_has : GoodIn wsX7_setBounds (wsV RX7 15 RX7 yX7_has wsX7_has) := goodIn_app (goodIn_of _ (by decide +kernel)) ggX7_setBounds_X7_has
theorem dX7_setBounds_0 : decode cX7_setBounds 0 = .ok (.aload_n 0, 1) := by decide +kernel
theorem dX7_setBounds_1 : decode cX7_setBounds 1 = .ok (.iload_n 1, 1) := by decide +kernel
theorem dX7_setBounds_2 : decode cX7_setBounds 2 = .ok (.invokevirtual 15, 3) := by decide +kernel
theorem dX7_setBounds_5 : decode cX7_setBounds 5 = .ok (.ifCond .eq 14, 3) := by decide +kernel
theorem dX7_setBounds_8 : decode cX7_setBounds 8 = .ok (.iload_n 2, 1) := by decide +kernel
theorem dX7_setBounds_9 : decode cX7_setBounds 9 = .ok (.iconst 4, 1) := by decide +kernel
theorem dX7_setBounds_10 : decode cX7_setBounds 10 = .ok (.if_icmp .lt 9, 3) := by decide +kernel
theorem dX7_setBounds_13 : decode cX7_setBounds 13 = .ok (.iload_n 2, 1) := by decide +kernel
theorem dX7_setBounds_14 : decode cX7_setBounds 14 = .ok (.bipush 6, 2) := by decide +kernel
theorem dX7_setBounds_16 : decode cX7_setBounds 16 = .ok (.if_icmp .le 4, 3) := by decide +kernel
theorem dX7_setBounds_19 : decode cX7_setBounds 19 = .ok (.return_, 1) := by decide +kernel
theorem dX7_setBounds_20 : decode cX7_setBounds 20 = .ok (.bipush 13, 2) := by decide +kernel
theorem dX7_setBounds_22 : decode cX7_setBounds 22 = .ok (.iload_n 1, 1) := by decide +kernel
theorem dX7_setBounds_23 : decode cX7_setBounds 23 = .ok (.bipush 8, 2) := by decide +kernel
theorem dX7_setBounds_25 : decode cX7_setBounds 25 = .ok (.imul, 1) := by decide +kernel
theorem dX7_setBounds_26 : decode cX7_setBounds 26 = .ok (.iadd, 1) := by decide +kernel
theorem dX7_setBounds_27 : decode cX7_setBounds 27 = .ok (.iload_n 2, 1) := by decide +kernel
theorem dX7_setBounds_28 : decode cX7_setBounds 28 = .ok (.iadd, 1) := by decide +kernel
theorem dX7_setBounds_29 : decode cX7_setBounds 29 = .ok (.istore 5, 2) := by decide +kernel
theorem dX7_setBounds_31 : decode cX7_setBounds 31 = .ok (.aload_n 0, 1) := by decide +kernel
theorem dX7_setBounds_32 : decode cX7_setBounds 32 = .ok (.getfield 11, 3) := by decide +kernel
theorem dX7_setBounds_35 : decode cX7_setBounds 35 = .ok (.iload 5, 2) := by decide +kernel
theorem dX7_setBounds_37 : decode cX7_setBounds 37 = .ok (.iload_n 3, 1) := by decide +kernel
theorem dX7_setBounds_38 : decode cX7_setBounds 38 = .ok (.iastore, 1) := by decide +kernel
theorem dX7_setBounds_39 : decode cX7_setBounds 39 = .ok (.aload_n 0, 1) := by decide +kernel
theorem dX7_setBounds_40 : decode cX7_setBounds 40 = .ok (.getfield 11, 3) := by decide +kernel
theorem dX7_setBounds_43 : decode cX7_setBounds 43 = .ok (.iload 5, 2) := by decide +kernel
theorem dX7_setBounds_45 : decode cX7_setBounds 45 = .ok (.iconst 1, 1) := by decide +kernel
theorem dX7_setBounds_46 : decode cX7_setBounds 46 = .ok (.iadd, 1) := by decide +kernel
theorem dX7_setBounds_47 : decode cX7_setBounds 47 = .ok (.iload 4, 2) := by decide +kernel
theorem dX7_setBounds_49 : decode cX7_setBounds 49 = .ok (.iastore, 1) := by decide +kernel
theorem dX7_setBounds_50 : decode cX7_setBounds 50 = .ok (.return_, 1) := by decide +kernel
theorem dX7_ruleNow_0 : decode cX7_ruleNow 0 = .ok (.aload_n 0, 1) := by decide +kernel
theorem dX7_ruleNow_1 : decode cX7_ruleNow 1 = .ok (.getfield 11, 3) := by decide +kernel
theorem dX7_ruleNow_4 : decode cX7_ruleNow 4 = .ok (.iconst 1, 1) := by decide +kernel
theorem dX7_ruleNow_5 : decode cX7_ruleNow 5 = .ok (.iaload, 1) := by decide +kernel
theorem dX7_ruleNow_6 : decode cX7_ruleNow 6 = .ok (.ireturn, 1) := by decide +kernel
theorem dX7_setRule_0 : decode cX7_setRule 0 = .ok (.aload_n 0, 1) := by decide +kernel
theorem dX7_setRule_1 : decode cX7_setRule 1 = .ok (.getfield 11, 3) := by decide +kernel
theorem dX7_setRule_4 : decode cX7_setRule 4 = .ok (.iconst 1, 1) := by decide +kernel
theorem dX7_setRule_5 : decode cX7_setRule 5 = .ok (.iload_n 1, 1) := by decide +kernel
theorem dX7_setRule_6 : decode cX7_setRule 6 = .ok (.iastore, 1) := by decide +kernel
theorem dX7_setRule_7 : decode cX7_setRule 7 = .ok (.return_, 1) := by decide +kernel
theorem dX7_signs_0 : decode cX7_signs 0 = .ok (.aload_n 0, 1) := by decide +kernel
theorem dX7_signs_1 : decode cX7_signs 1 = .ok (.getfield 11, 3) := by decide +kernel
theorem dX7_signs_4 : decode cX7_signs 4 = .ok (.iconst 2, 1) := by decide +kernel
theorem dX7_signs_5 : decode cX7_signs 5 = .ok (.iaload, 1) := by decide +kernel
theorem dX7_signs_6 : decode cX7_signs 6 = .ok (.ireturn, 1) := by decide +kernel
set_option maxRecDepth 20000 in
theorem ggX7_signNumber_X7_signs : GoodIn wsX7_signNumber wsX7_signs := goodIn_r _ [6, 1, 7] (by decide +kernel) (by decide +kernel)
set_option maxRecDepth 20000 in
theorem gX7_signNumber_X7_signs : GoodIn wsX7_signNumber (wsV RX7 31 RX7 yX7_signs wsX7_signs) := goodIn_app (goodIn_of _ (by decide +kernel)) ggX7_signNumber_X7_signs
theorem dX7_signNumber_0 : decode cX7_signNumber 0 = .ok (.iload_n 1, 1) := by decide +kernel
theorem dX7_signNumber_1 : decode cX7_signNumber 1 = .ok (.ifCond .lt 22, 3) := by decide +kernel
theorem dX7_signNumber_4 : decode cX7_signNumber 4 = .ok (.iload_n 1, 1) := by decide +kernel
theorem dX7_signNumber_5 : decode cX7_signNumber 5 = .ok (.aload_n 0, 1) := by decide +kernel
theorem dX7_signNumber_6 : decode cX7_signNumber 6 = .ok (.invokevirtual 31, 3) := by decide +kernel
theorem dX7_signNumber_9 : decode cX7_signNumber 9 = .ok (.if_icmp .ge 14, 3) := by decide +kernel
theorem dX7_signNumber_12 : decode cX7_signNumber 12 = .ok (.aload_n 0, 1) := by decide +kernel
theorem dX7_signNumber_13 : decode cX7_signNumber 13 = .ok (.getfield 11, 3) := by decide +kernel
theorem dX7_signNumber_16 : decode cX7_signNumber 16 = .ok (.iconst 3, 1) := by decide +kernel
theorem dX7_signNumber_17 : decode cX7_signNumber 17 = .ok (.iload_n 1, 1) := by decide +kernel
theorem dX7_signNumber_18 : decode cX7_signNumber 18 = .ok (.iadd, 1) := by decide +kernel
theorem dX7_signNumber_19 : decode cX7_signNumber 19 = .ok (.iaload, 1) := by decide +kernel
theorem dX7_signNumber_20 : decode cX7_signNumber 20 = .ok (.goto 4, 3) := by decide +kernel
theorem dX7_signNumber_23 : decode cX7_signNumber 23 = .ok (.iconst (-1), 1) := by decide +kernel
theorem dX7_signNumber_24 : decode cX7_signNumber 24 = .ok (.ireturn, 1) := by decide +kernel
set_option maxRecDepth 20000 in
theorem ggX7_addSign_X7_signs : GoodIn wsX7_addSign wsX7_signs := goodIn_r _ [6, 1, 7] (by decide +kernel) (by decide +kernel)
set_option maxRecDepth 20000 in
theorem gX7_addSign_X7_signs : GoodIn wsX7_addSign (wsV RX7 31 RX7 yX7_signs wsX7_signs) := goodIn_app (goodIn_of _ (by decide +kernel)) ggX7_addSign_X7_signs
theorem dX7_addSign_0 : decode cX7_addSign 0 = .ok (.aload_n 0, 1) := by decide +kernel
theorem dX7_addSign_1 : decode cX7_addSign 1 = .ok (.invokevirtual 31, 3) := by decide +kernel
theorem dX7_addSign_4 : decode cX7_addSign 4 = .ok (.bipush 10, 2) := by decide +kernel
theorem dX7_addSign_6 : decode cX7_addSign 6 = .ok (.if_icmp .ge 25, 3) := by decide +kernel
theorem dX7_addSign_9 : decode cX7_addSign 9 = .ok (.aload_n 0, 1) := by decide +kernel
theorem dX7_addSign_10 : decode cX7_addSign 10 = .ok (.getfield 11, 3) := by decide +kernel
theorem dX7_addSign_13 : decode cX7_addSign 13 = .ok (.iconst 3, 1) := by decide +kernel
theorem dX7_addSign_14 : decode cX7_addSign 14 = .ok (.aload_n 0, 1) := by decide +kernel
theorem dX7_addSign_15 : decode cX7_addSign 15 = .ok (.invokevirtual 31, 3) := by decide +kernel
theorem dX7_addSign_18 : decode cX7_addSign 18 = .ok (.iadd, 1) := by decide +kernel
theorem dX7_addSign_19 : decode cX7_addSign 19 = .ok (.iload_n 1, 1) := by decide +kernel
theorem dX7_addSign_20 : decode cX7_addSign 20 = .ok (.iastore, 1) := by decide +kernel
theorem dX7_addSign_21 : decode cX7_addSign 21 = .ok (.aload_n 0, 1) := by decide +kernel
theorem dX7_addSign_22 : decode cX7_addSign 22 = .ok (.getfield 11, 3) := by decide +kernel
theorem dX7_addSign_25 : decode cX7_addSign 25 = .ok (.iconst 2, 1) := by decide +kernel
theorem dX7_addSign_26 : decode cX7_addSign 26 = .ok (.dup2, 1) := by decide +kernel
theorem dX7_addSign_27 : decode cX7_addSign 27 = .ok (.iaload, 1) := by decide +kernel
theorem dX7_addSign_28 : decode cX7_addSign 28 = .ok (.iconst 1, 1) := by decide +kernel
theorem dX7_addSign_29 : decode cX7_addSign 29 = .ok (.iadd, 1) := by decide +kernel
theorem dX7_addSign_30 : decode cX7_addSign 30 = .ok (.iastore, 1) := by decide +kernel
theorem dX7_addSign_31 : decode cX7_addSign 31 = .ok (.return_, 1) := by decide +kernel
theorem dX7_clearSigns_0 : decode cX7_clearSigns 0 = .ok (.aload_n 0, 1) := by decide +kernel
theorem dX7_clearSigns_1 : decode cX7_clearSigns 1 = .ok (.getfield 11, 3) := by decide +kernel
theorem dX7_clearSigns_4 : decode cX7_clearSigns 4 = .ok (.iconst 2, 1) := by decide +kernel
theorem dX7_clearSigns_5 : decode cX7_clearSigns 5 = .ok (.iconst 0, 1) := by decide +kernel
theorem dX7_clearSigns_6 : decode cX7_clearSigns 6 = .ok (.iastore, 1) := by decide +kernel
theorem dX7_clearSigns_7 : decode cX7_clearSigns 7 = .ok (.return_, 1) := by decide +kernel
theorem dX8_init_0 : decode cX8_init 0 = .ok (.aload_n 0, 1) := by decide +kernel
theorem dX8_init_1 : decode cX8_init 1 = .ok (.invokespecial 3, 3) := by decide +kernel
theorem dX8_init_4 : decode cX8_init 4 = .ok (.aload_n 0, 1) := by decide +kernel
theorem dX8_init_5 : decode cX8_init 5 = .ok (.bipush 11, 2) := by decide +kernel
theorem dX8_init_7 : decode cX8_init 7 = .ok (.newarray .int, 2) := by decide +kernel
theorem dX8_init_9 : decode cX8_init 9 = .ok (.putfield 9, 3) := by decide +kernel
theorem dX8_init_12 : decode cX8_init 12 = .ok (.return_, 1) := by decide +kernel
theorem dX8_fits_0 : decode cX8_fits 0 = .ok (.iload_n 0, 1) := by decide +kernel
theorem dX8_fits_1 : decode cX8_fits 1 = .ok (.bipush 10, 2) := by decide +kernel
theorem dX8_fits_3 : decode cX8_fits 3 = .ok (.if_icmp .eq 8, 3) := by decide +kernel
theorem dX8_fits_6 : decode cX8_fits 6 = .ok (.iload_n 0, 1) := by decide +kernel
theorem dX8_fits_7 : decode cX8_fits 7 = .ok (.iload_n 1, 1) := by decide +kernel
theorem dX8_fits_8 : decode cX8_fits 8 = .ok (.if_icmp .ne 7, 3) := by decide +kernel
theorem dX8_fits_11 : decode cX8_fits 11 = .ok (.iconst 1, 1) := by decide +kernel
theorem dX8_fits_12 : decode cX8_fits 12 = .ok (.goto 4, 3) := by decide +kernel
theorem dX8_fits_15 : decode cX8_fits 15 = .ok (.iconst 0, 1) := by decide +kernel
theorem dX8_fits_16 : decode cX8_fits 16 = .ok (.ireturn, 1) := by decide +kernel
set_option maxRecDepth 20000 in
theorem ggX8_meantByAll_X7_people : GoodIn wsX8_meantByAll wsX7_people := goodIn_r _ [5, 6, 35] (by decide +kernel) (by decide +kernel)
set_option maxRecDepth 20000 in
theorem gX8_meantByAll_X7_people : GoodIn wsX8_meantByAll (wsV RX8 15 RX7 yX7_people wsX7_people) := goodIn_app (goodIn_of _ (by decide +kernel)) ggX8_meantByAll_X7_people
set_option maxRecDepth 20000 in
theorem ggX8_meantByAll_X7_signs : GoodIn wsX8_meantByAll wsX7_signs := goodIn_r _ [10, 6, 35] (by decide +kernel) (by decide +kernel)
set_option maxRecDepth 20000 in
theorem gX8_meantByAll_X7_signs : GoodIn wsX8_meantByAll (wsV RX8 21 RX7 yX7_signs wsX7_signs) := goodIn_app (goodIn_of _ (by decide +kernel)) ggX8_meantByAll_X7_signs
set_option maxRecDepth 20000 in
theorem ggX8_meantByAll_X1_sizeOf : GoodIn wsX8_meantByAll wsX1_sizeOf := goodIn_r _ [15, 16, 36, 37, 38, 39, 40] (by decide +kernel) (by decide +kernel)
set_option maxRecDepth 20000 in
theorem gX8_meantByAll_X1_sizeOf : GoodIn wsX8_meantByAll (wsV RX8 24 RX1 yX1_sizeOf wsX1_sizeOf) := goodIn_app (goodIn_of _ (by decide +kernel)) ggX8_meantByAll_X1_sizeOf
set_option maxRecDepth 20000 in
theorem ggX8_meantByAll_X8_fitsEach : GoodIn wsX8_meantByAll wsX8_fitsEach := goodIn_r _ [20, 7, 8, 9, 4, 10, 6, 21, 22, 23, 24, 25, 26, 27, 28, 14, 29, 30, 31, 12, 13, 15, 16, 32, 33, 19, 34, 35, 36, 37, 38, 39, 40] (by decide +kernel) (by decide +kernel)
set_option maxRecDepth 20000 in
theorem gX8_meantByAll_X8_fitsEach : GoodIn wsX8_meantByAll (va_wsS RX8 30 yX8_fitsEach wsX8_fitsEach) := goodIn_app (goodIn_of _ (by decide +kernel)) ggX8_meantByAll_X8_fitsEach
theorem dX8_meantByAll_0 : decode cX8_meantByAll 0 = .ok (.iconst 0, 1) := by decide +kernel
theorem dX8_meantByAll_1 : decode cX8_meantByAll 1 = .ok (.istore_n 3, 1) := by decide +kernel
theorem dX8_meantByAll_2 : decode cX8_meantByAll 2 = .ok (.iconst 0, 1) := by decide +kernel
theorem dX8_meantByAll_3 : decode cX8_meantByAll 3 = .ok (.istore 4, 2) := by decide +kernel
theorem dX8_meantByAll_5 : decode cX8_meantByAll 5 = .ok (.iload 4, 2) := by decide +kernel
theorem dX8_meantByAll_7 : decode cX8_meantByAll 7 = .ok (.aload_n 1, 1) := by decide +kernel
theorem dX8_meantByAll_8 : decode cX8_meantByAll 8 = .ok (.invokevirtual 15, 3) := by decide +kernel
theorem dX8_meantByAll_11 : decode cX8_meantByAll 11 = .ok (.if_icmp .ge 46, 3) := by decide +kernel
theorem dX8_meantByAll_14 : decode cX8_meantByAll 14 = .ok (.aload_n 1, 1) := by decide +kernel
theorem dX8_meantByAll_15 : decode cX8_meantByAll 15 = .ok (.invokevirtual 21, 3) := by decide +kernel
theorem dX8_meantByAll_18 : decode cX8_meantByAll 18 = .ok (.ifCond .le 33, 3) := by decide +kernel
theorem dX8_meantByAll_21 : decode cX8_meantByAll 21 = .ok (.aload_n 2, 1) := by decide +kernel
theorem dX8_meantByAll_22 : decode cX8_meantByAll 22 = .ok (.iload 4, 2) := by decide +kernel
theorem dX8_meantByAll_24 : decode cX8_meantByAll 24 = .ok (.invokevirtual 24, 3) := by decide +kernel
theorem dX8_meantByAll_27 : decode cX8_meantByAll 27 = .ok (.aload_n 1, 1) := by decide +kernel
theorem dX8_meantByAll_28 : decode cX8_meantByAll 28 = .ok (.invokevirtual 21, 3) := by decide +kernel
theorem dX8_meantByAll_31 : decode cX8_meantByAll 31 = .ok (.if_icmp .ne 20, 3) := by decide +kernel
theorem dX8_meantByAll_34 : decode cX8_meantByAll 34 = .ok (.aload_n 1, 1) := by decide +kernel
theorem dX8_meantByAll_35 : decode cX8_meantByAll 35 = .ok (.aload_n 2, 1) := by decide +kernel
theorem dX8_meantByAll_36 : decode cX8_meantByAll 36 = .ok (.iload 4, 2) := by decide +kernel
theorem dX8_meantByAll_38 : decode cX8_meantByAll 38 = .ok (.invokestatic 30, 3) := by decide +kernel
theorem dX8_meantByAll_41 : decode cX8_meantByAll 41 = .ok (.ifCond .eq 10, 3) := by decide +kernel
theorem dX8_meantByAll_44 : decode cX8_meantByAll 44 = .ok (.iload_n 3, 1) := by decide +kernel
theorem dX8_meantByAll_45 : decode cX8_meantByAll 45 = .ok (.iconst 1, 1) := by decide +kernel
theorem dX8_meantByAll_46 : decode cX8_meantByAll 46 = .ok (.iload 4, 2) := by decide +kernel
theorem dX8_meantByAll_48 : decode cX8_meantByAll 48 = .ok (.ishl, 1) := by decide +kernel
theorem dX8_meantByAll_49 : decode cX8_meantByAll 49 = .ok (.ior, 1) := by decide +kernel
theorem dX8_meantByAll_50 : decode cX8_meantByAll 50 = .ok (.istore_n 3, 1) := by decide +kernel
theorem dX8_meantByAll_51 : decode cX8_meantByAll 51 = .ok (.iinc 4 1, 3) := by decide +kernel
theorem dX8_meantByAll_54 : decode cX8_meantByAll 54 = .ok (.goto (-49), 3) := by decide +kernel
theorem dX8_meantByAll_57 : decode cX8_meantByAll 57 = .ok (.iload_n 3, 1) := by decide +kernel
theorem dX8_meantByAll_58 : decode cX8_meantByAll 58 = .ok (.ireturn, 1) := by decide +kernel
set_option maxRecDepth 20000 in
theorem ggX8_fitsEach_X7_signs : GoodIn wsX8_fitsEach wsX7_signs := goodIn_r _ [5, 6, 27] (by decide +kernel) (by decide +kernel)
set_option maxRecDepth 20000 in
theorem gX8_fitsEach_X7_signs : GoodIn wsX8_fitsEach (wsV RX8 21 RX7 yX7_signs wsX7_signs) := goodIn_app (goodIn_of _ (by decide +kernel)) ggX8_fitsEach_X7_signs
set_option maxRecDepth 20000 in
theorem ggX8_fitsEach_X7_signNumber : GoodIn wsX8_fitsEach wsX7_signNumber := goodIn_r _ [10, 6, 11, 2, 3, 4, 5, 27] (by decide +kernel) (by decide +kernel)
set_option maxRecDepth 20000 in
theorem gX8_fitsEach_X7_signNumber : GoodIn wsX8_fitsEach (wsV RX8 34 RX7 yX7_signNumber wsX7_signNumber) := goodIn_app (goodIn_of _ (by decide +kernel)) ggX8_fitsEach_X7_signNumber
set_option maxRecDepth 20000 in
theorem ggX8_fitsEach_X1_armsAt : GoodIn wsX8_fitsEach wsX1_armsAt := goodIn_r _ [16, 17, 18, 19, 20, 15, 21, 22, 28, 29, 30, 31, 32] (by decide +kernel) (by decide +kernel)
set_option maxRecDepth 20000 in
theorem gX8_fitsEach_X1_armsAt : GoodIn wsX8_fitsEach (wsV RX8 37 RX1 yX1_armsAt wsX1_armsAt) := goodIn_app (goodIn_of _ (by decide +kernel)) ggX8_fitsEach_X1_armsAt
set_option maxRecDepth 20000 in
theorem ggX8_fitsEach_X8_fits : GoodIn wsX8_fitsEach wsX8_fits := goodIn_r _ [26] (by decide +kernel) (by decide +kernel)
set_option maxRecDepth 20000 in
theorem gX8_fitsEach_X8_fits : GoodIn wsX8_fitsEach (va_wsS RX8 41 yX8_fits wsX8_fits) := goodIn_app (goodIn_of _ (by decide +kernel)) ggX8_fitsEach_X8_fits
theorem dX8_fitsEach_0 : decode cX8_fitsEach 0 = .ok (.iconst 0, 1) := by decide +kernel
theorem dX8_fitsEach_1 : decode cX8_fitsEach 1 = .ok (.istore_n 3, 1) := by decide +kernel
theorem dX8_fitsEach_2 : decode cX8_fitsEach 2 = .ok (.iload_n 3, 1) := by decide +kernel
theorem dX8_fitsEach_3 : decode cX8_fitsEach 3 = .ok (.aload_n 0, 1) := by decide +kernel
theorem dX8_fitsEach_4 : decode cX8_fitsEach 4 = .ok (.invokevirtual 21, 3) := by decide +kernel
theorem dX8_fitsEach_7 : decode cX8_fitsEach 7 = .ok (.if_icmp .ge 28, 3) := by decide +kernel
theorem dX8_fitsEach_10 : decode cX8_fitsEach 10 = .ok (.aload_n 0, 1) := by decide +kernel
theorem dX8_fitsEach_11 : decode cX8_fitsEach 11 = .ok (.iload_n 3, 1) := by decide +kernel
theorem dX8_fitsEach_12 : decode cX8_fitsEach 12 = .ok (.invokevirtual 34, 3) := by decide +kernel
theorem dX8_fitsEach_15 : decode cX8_fitsEach 15 = .ok (.aload_n 1, 1) := by decide +kernel
theorem dX8_fitsEach_16 : decode cX8_fitsEach 16 = .ok (.iload_n 2, 1) := by decide +kernel
theorem dX8_fitsEach_17 : decode cX8_fitsEach 17 = .ok (.iload_n 3, 1) := by decide +kernel
theorem dX8_fitsEach_18 : decode cX8_fitsEach 18 = .ok (.invokevirtual 37, 3) := by decide +kernel
theorem dX8_fitsEach_21 : decode cX8_fitsEach 21 = .ok (.invokestatic 41, 3) := by decide +kernel
theorem dX8_fitsEach_24 : decode cX8_fitsEach 24 = .ok (.ifCond .ne 5, 3) := by decide +kernel
theorem dX8_fitsEach_27 : decode cX8_fitsEach 27 = .ok (.iconst 0, 1) := by decide +kernel
theorem dX8_fitsEach_28 : decode cX8_fitsEach 28 = .ok (.ireturn, 1) := by decide +kernel
theorem dX8_fitsEach_29 : decode cX8_fitsEach 29 = .ok (.iinc 3 1, 3) := by decide +kernel
theorem dX8_fitsEach_32 : decode cX8_fitsEach 32 = .ok (.goto (-30), 3) := by decide +kernel
theorem dX8_fitsEach_35 : decode cX8_fitsEach 35 = .ok (.iconst 1, 1) := by decide +kernel
theorem dX8_fitsEach_36 : decode cX8_fitsEach 36 = .ok (.ireturn, 1) := by decide +kernel
set_option maxRecDepth 20000 in
theorem ggX8_meantBySome_X7_people : GoodIn wsX8_meantBySome wsX7_people := goodIn_r _ [5, 6, 35] (by decide +kernel) (by decide +kernel)
set_option maxRecDepth 20000 in
theorem gX8_meantBySome_X7_people : GoodIn wsX8_meantBySome (wsV RX8 15 RX7 yX7_people wsX7_people) := goodIn_app (goodIn_of _ (by decide +kernel)) ggX8_meantBySome_X7_people
set_option maxRecDepth 20000 in
theorem ggX8_meantBySome_X7_signs : GoodIn wsX8_meantBySome wsX7_signs := goodIn_r _ [10, 6, 35] (by decide +kernel) (by decide +kernel)
set_option maxRecDepth 20000 in
theorem gX8_meantBySome_X7_signs : GoodIn wsX8_meantBySome (wsV RX8 21 RX7 yX7_signs wsX7_signs) := goodIn_app (goodIn_of _ (by decide +kernel)) ggX8_meantBySome_X7_signs
set_option maxRecDepth 20000 in
theorem ggX8_meantBySome_X7_signNumber : GoodIn wsX8_meantBySome wsX7_signNumber := goodIn_r _ [14, 6, 15, 8, 9, 4, 10, 35] (by decide +kernel) (by decide +kernel)
set_option maxRecDepth 20000 in
theorem gX8_meantBySome_X7_signNumber : GoodIn wsX8_meantBySome (wsV RX8 34 RX7 yX7_signNumber wsX7_signNumber) := goodIn_app (goodIn_of _ (by decide +kernel)) ggX8_meantBySome_X7_signNumber
set_option maxRecDepth 20000 in
theorem ggX8_meantBySome_X1_armsAt : GoodIn wsX8_meantBySome wsX1_armsAt := goodIn_r _ [20, 21, 22, 23, 24, 19, 25, 26, 36, 37, 38, 39, 40] (by decide +kernel) (by decide +kernel)
set_option maxRecDepth 20000 in
theorem gX8_meantBySome_X1_armsAt : GoodIn wsX8_meantBySome (wsV RX8 37 RX1 yX1_armsAt wsX1_armsAt) := goodIn_app (goodIn_of _ (by decide +kernel)) ggX8_meantBySome_X1_armsAt
set_option maxRecDepth 20000 in
theorem ggX8_meantBySome_X8_fits : GoodIn wsX8_meantBySome wsX8_fits := goodIn_r _ [30] (by decide +kernel) (by decide +kernel)
set_option maxRecDepth 20000 in
theorem gX8_meantBySome_X8_fits : GoodIn wsX8_meantBySome (va_wsS RX8 41 yX8_fits wsX8_fits) := goodIn_app (goodIn_of _ (by decide +kernel)) ggX8_meantBySome_X8_fits
set_option maxRecDepth 20000 in
theorem ggX8_meantBySome_X8_holdsRest : GoodIn wsX8_meantBySome wsX8_holdsRest := goodIn_r _ [33, 34, 23, 24, 19, 25, 26, 7, 8, 9, 4, 10, 6, 11, 12, 13, 14, 15, 16, 17, 18, 20, 21, 22, 27, 28, 29, 30, 36, 37, 38, 39, 40, 35] (by decide +kernel) (by decide +kernel)
set_option maxRecDepth 20000 in
theorem gX8_meantBySome_X8_holdsRest : GoodIn wsX8_meantBySome (va_wsS RX8 45 yX8_holdsRest wsX8_holdsRest) := goodIn_app (goodIn_of _ (by decide +kernel)) ggX8_meantBySome_X8_holdsRest
theorem dX8_meantBySome_0 : decode cX8_meantBySome 0 = .ok (.iconst 0, 1) := by decide +kernel
theorem dX8_meantBySome_1 : decode cX8_meantBySome 1 = .ok (.istore_n 3, 1) := by decide +kernel
theorem dX8_meantBySome_2 : decode cX8_meantBySome 2 = .ok (.iconst 0, 1) := by decide +kernel
theorem dX8_meantBySome_3 : decode cX8_meantBySome 3 = .ok (.istore 4, 2) := by decide +kernel
theorem dX8_meantBySome_5 : decode cX8_meantBySome 5 = .ok (.iload 4, 2) := by decide +kernel
theorem dX8_meantBySome_7 : decode cX8_meantBySome 7 = .ok (.aload_n 1, 1) := by decide +kernel
theorem dX8_meantBySome_8 : decode cX8_meantBySome 8 = .ok (.invokevirtual 15, 3) := by decide +kernel
theorem dX8_meantBySome_11 : decode cX8_meantBySome 11 = .ok (.if_icmp .ge 51, 3) := by decide +kernel
theorem dX8_meantBySome_14 : decode cX8_meantBySome 14 = .ok (.aload_n 1, 1) := by decide +kernel
theorem dX8_meantBySome_15 : decode cX8_meantBySome 15 = .ok (.invokevirtual 21, 3) := by decide +kernel
theorem dX8_meantBySome_18 : decode cX8_meantBySome 18 = .ok (.ifCond .le 38, 3) := by decide +kernel
theorem dX8_meantBySome_21 : decode cX8_meantBySome 21 = .ok (.aload_n 1, 1) := by decide +kernel
theorem dX8_meantBySome_22 : decode cX8_meantBySome 22 = .ok (.iconst 0, 1) := by decide +kernel
theorem dX8_meantBySome_23 : decode cX8_meantBySome 23 = .ok (.invokevirtual 34, 3) := by decide +kernel
theorem dX8_meantBySome_26 : decode cX8_meantBySome 26 = .ok (.aload_n 2, 1) := by decide +kernel
theorem dX8_meantBySome_27 : decode cX8_meantBySome 27 = .ok (.iload 4, 2) := by decide +kernel
theorem dX8_meantBySome_29 : decode cX8_meantBySome 29 = .ok (.iconst 0, 1) := by decide +kernel
theorem dX8_meantBySome_30 : decode cX8_meantBySome 30 = .ok (.invokevirtual 37, 3) := by decide +kernel
theorem dX8_meantBySome_33 : decode cX8_meantBySome 33 = .ok (.invokestatic 41, 3) := by decide +kernel
theorem dX8_meantBySome_36 : decode cX8_meantBySome 36 = .ok (.ifCond .eq 20, 3) := by decide +kernel
theorem dX8_meantBySome_39 : decode cX8_meantBySome 39 = .ok (.aload_n 1, 1) := by decide +kernel
theorem dX8_meantBySome_40 : decode cX8_meantBySome 40 = .ok (.aload_n 2, 1) := by decide +kernel
theorem dX8_meantBySome_41 : decode cX8_meantBySome 41 = .ok (.iload 4, 2) := by decide +kernel
theorem dX8_meantBySome_43 : decode cX8_meantBySome 43 = .ok (.invokestatic 45, 3) := by decide +kernel
theorem dX8_meantBySome_46 : decode cX8_meantBySome 46 = .ok (.ifCond .eq 10, 3) := by decide +kernel
theorem dX8_meantBySome_49 : decode cX8_meantBySome 49 = .ok (.iload_n 3, 1) := by decide +kernel
theorem dX8_meantBySome_50 : decode cX8_meantBySome 50 = .ok (.iconst 1, 1) := by decide +kernel
theorem dX8_meantBySome_51 : decode cX8_meantBySome 51 = .ok (.iload 4, 2) := by decide +kernel
theorem dX8_meantBySome_53 : decode cX8_meantBySome 53 = .ok (.ishl, 1) := by decide +kernel
theorem dX8_meantBySome_54 : decode cX8_meantBySome 54 = .ok (.ior, 1) := by decide +kernel
theorem dX8_meantBySome_55 : decode cX8_meantBySome 55 = .ok (.istore_n 3, 1) := by decide +kernel
theorem dX8_meantBySome_56 : decode cX8_meantBySome 56 = .ok (.iinc 4 1, 3) := by decide +kernel
theorem dX8_meantBySome_59 : decode cX8_meantBySome 59 = .ok (.goto (-54), 3) := by decide +kernel
theorem dX8_meantBySome_62 : decode cX8_meantBySome 62 = .ok (.iload_n 3, 1) := by decide +kernel
theorem dX8_meantBySome_63 : decode cX8_meantBySome 63 = .ok (.ireturn, 1) := by decide +kernel
set_option maxRecDepth 20000 in
theorem ggX8_holdsRest_X1_sizeOf : GoodIn wsX8_holdsRest wsX1_sizeOf := goodIn_r _ [5, 6, 28, 29, 30, 31, 32] (by decide +kernel) (by decide +kernel)
set_option maxRecDepth 20000 in
theorem gX8_holdsRest_X1_sizeOf : GoodIn wsX8_holdsRest (wsV RX8 24 RX1 yX1_sizeOf wsX1_sizeOf) := goodIn_app (goodIn_of _ (by decide +kernel)) ggX8_holdsRest_X1_sizeOf
set_option maxRecDepth 20000 in
theorem ggX8_holdsRest_X7_signs : GoodIn wsX8_holdsRest wsX7_signs := goodIn_r _ [11, 12, 33] (by decide +kernel) (by decide +kernel)
set_option maxRecDepth 20000 in
theorem gX8_holdsRest_X7_signs : GoodIn wsX8_holdsRest (wsV RX8 21 RX7 yX7_signs wsX7_signs) := goodIn_app (goodIn_of _ (by decide +kernel)) ggX8_holdsRest_X7_signs
set_option maxRecDepth 20000 in
theorem ggX8_holdsRest_X7_signNumber : GoodIn wsX8_holdsRest wsX7_signNumber := goodIn_r _ [16, 12, 17, 8, 9, 10, 11, 33] (by decide +kernel) (by decide +kernel)
set_option maxRecDepth 20000 in
theorem gX8_holdsRest_X7_signNumber : GoodIn wsX8_holdsRest (wsV RX8 34 RX7 yX7_signNumber wsX7_signNumber) := goodIn_app (goodIn_of _ (by decide +kernel)) ggX8_holdsRest_X7_signNumber
set_option maxRecDepth 20000 in
theorem ggX8_holdsRest_X1_armsAt : GoodIn wsX8_holdsRest wsX1_armsAt := goodIn_r _ [21, 22, 23, 2, 3, 4, 5, 6, 28, 29, 30, 31, 32] (by decide +kernel) (by decide +kernel)
set_option maxRecDepth 20000 in
theorem gX8_holdsRest_X1_armsAt : GoodIn wsX8_holdsRest (wsV RX8 37 RX1 yX1_armsAt wsX1_armsAt) := goodIn_app (goodIn_of _ (by decide +kernel)) ggX8_holdsRest_X1_armsAt
set_option maxRecDepth 20000 in
theorem ggX8_holdsRest_X8_fits : GoodIn wsX8_holdsRest wsX8_fits := goodIn_r _ [27] (by decide +kernel) (by decide +kernel)
set_option maxRecDepth 20000 in
theorem gX8_holdsRest_X8_fits : GoodIn wsX8_holdsRest (va_wsS RX8 41 yX8_fits wsX8_fits) := goodIn_app (goodIn_of _ (by decide +kernel)) ggX8_holdsRest_X8_fits
theorem dX8_holdsRest_0 : decode cX8_holdsRest 0 = .ok (.iconst 1, 1) := by decide +kernel
theorem dX8_holdsRest_1 : decode cX8_holdsRest 1 = .ok (.istore_n 3, 1) := by decide +kernel
theorem dX8_holdsRest_2 : decode cX8_holdsRest 2 = .ok (.iconst 1, 1) := by decide +kernel
theorem dX8_holdsRest_3 : decode cX8_holdsRest 3 = .ok (.istore 4, 2) := by decide +kernel
theorem dX8_holdsRest_5 : decode cX8_holdsRest 5 = .ok (.iload 4, 2) := by decide +kernel
theorem dX8_holdsRest_7 : decode cX8_holdsRest 7 = .ok (.aload_n 1, 1) := by decide +kernel
theorem dX8_holdsRest_8 : decode cX8_holdsRest 8 = .ok (.iload_n 2, 1) := by decide +kernel
theorem dX8_holdsRest_9 : decode cX8_holdsRest 9 = .ok (.invokevirtual 24, 3) := by decide +kernel
theorem dX8_holdsRest_12 : decode cX8_holdsRest 12 = .ok (.if_icmp .ge 38, 3) := by decide +kernel
theorem dX8_holdsRest_15 : decode cX8_holdsRest 15 = .ok (.iload_n 3, 1) := by decide +kernel
theorem dX8_holdsRest_16 : decode cX8_holdsRest 16 = .ok (.aload_n 0, 1) := by decide +kernel
theorem dX8_holdsRest_17 : decode cX8_holdsRest 17 = .ok (.invokevirtual 21, 3) := by decide +kernel
theorem dX8_holdsRest_20 : decode cX8_holdsRest 20 = .ok (.if_icmp .ge 30, 3) := by decide +kernel
theorem dX8_holdsRest_23 : decode cX8_holdsRest 23 = .ok (.aload_n 0, 1) := by decide +kernel
theorem dX8_holdsRest_24 : decode cX8_holdsRest 24 = .ok (.iload_n 3, 1) := by decide +kernel
theorem dX8_holdsRest_25 : decode cX8_holdsRest 25 = .ok (.invokevirtual 34, 3) := by decide +kernel
theorem dX8_holdsRest_28 : decode cX8_holdsRest 28 = .ok (.aload_n 1, 1) := by decide +kernel
theorem dX8_holdsRest_29 : decode cX8_holdsRest 29 = .ok (.iload_n 2, 1) := by decide +kernel
theorem dX8_holdsRest_30 : decode cX8_holdsRest 30 = .ok (.iload 4, 2) := by decide +kernel
theorem dX8_holdsRest_32 : decode cX8_holdsRest 32 = .ok (.invokevirtual 37, 3) := by decide +kernel
theorem dX8_holdsRest_35 : decode cX8_holdsRest 35 = .ok (.invokestatic 41, 3) := by decide +kernel
theorem dX8_holdsRest_38 : decode cX8_holdsRest 38 = .ok (.ifCond .eq 6, 3) := by decide +kernel
theorem dX8_holdsRest_41 : decode cX8_holdsRest 41 = .ok (.iinc 3 1, 3) := by decide +kernel
theorem dX8_holdsRest_44 : decode cX8_holdsRest 44 = .ok (.iinc 4 1, 3) := by decide +kernel
theorem dX8_holdsRest_47 : decode cX8_holdsRest 47 = .ok (.goto (-42), 3) := by decide +kernel
theorem dX8_holdsRest_50 : decode cX8_holdsRest 50 = .ok (.iload_n 3, 1) := by decide +kernel
theorem dX8_holdsRest_51 : decode cX8_holdsRest 51 = .ok (.aload_n 0, 1) := by decide +kernel
theorem dX8_holdsRest_52 : decode cX8_holdsRest 52 = .ok (.invokevirtual 21, 3) := by decide +kernel
theorem dX8_holdsRest_55 : decode cX8_holdsRest 55 = .ok (.if_icmp .lt 7, 3) := by decide +kernel
theorem dX8_holdsRest_58 : decode cX8_holdsRest 58 = .ok (.iconst 1, 1) := by decide +kernel
theorem dX8_holdsRest_59 : decode cX8_holdsRest 59 = .ok (.goto 4, 3) := by decide +kernel
theorem dX8_holdsRest_62 : decode cX8_holdsRest 62 = .ok (.iconst 0, 1) := by decide +kernel
theorem dX8_holdsRest_63 : decode cX8_holdsRest 63 = .ok (.ireturn, 1) := by decide +kernel
set_option maxRecDepth 20000 in
theorem ggX8_like_X1_sizeOf : GoodIn wsX8_like wsX1_sizeOf := goodIn_r _ [10, 11, 38, 39, 40, 41, 42] (by decide +kernel) (by decide +kernel)
set_option maxRecDepth 20000 in
theorem gX8_like_X1_sizeOf : GoodIn wsX8_like (wsV RX8 24 RX1 yX1_sizeOf wsX1_sizeOf) := goodIn_app (goodIn_of _ (by decide +kernel)) ggX8_like_X1_sizeOf
set_option maxRecDepth 20000 in
theorem ggX8_like_X7_signs : GoodIn wsX8_like wsX7_signs := goodIn_r _ [16, 17, 43] (by decide +kernel) (by decide +kernel)
set_option maxRecDepth 20000 in
theorem gX8_like_X7_signs : GoodIn wsX8_like (wsV RX8 21 RX7 yX7_signs wsX7_signs) := goodIn_app (goodIn_of _ (by decide +kernel)) ggX8_like_X7_signs
set_option maxRecDepth 20000 in
theorem ggX8_like_X7_signNumber : GoodIn wsX8_like wsX7_signNumber := goodIn_r _ [21, 17, 22, 13, 14, 15, 16, 43] (by decide +kernel) (by decide +kernel)
set_option maxRecDepth 20000 in
theorem gX8_like_X7_signNumber : GoodIn wsX8_like (wsV RX8 34 RX7 yX7_signNumber wsX7_signNumber) := goodIn_app (goodIn_of _ (by decide +kernel)) ggX8_like_X7_signNumber
set_option maxRecDepth 20000 in
theorem ggX8_like_X8_countOneMore : GoodIn wsX8_like wsX8_countOneMore := goodIn_r _ [27, 5, 28, 29, 3, 30, 31, 32, 33, 9, 34, 35, 36, 7, 8, 10, 11, 37, 38, 39, 40, 41, 42] (by decide +kernel) (by decide +kernel)
set_option maxRecDepth 20000 in
theorem gX8_like_X8_countOneMore : GoodIn wsX8_like (wsV RX8 53 RX8 yX8_countOneMore wsX8_countOneMore) := goodIn_app (goodIn_of _ (by decide +kernel)) ggX8_like_X8_countOneMore
theorem dX8_like_0 : decode cX8_like 0 = .ok (.aload_n 2, 1) := by decide +kernel
theorem dX8_like_1 : decode cX8_like 1 = .ok (.iload_n 3, 1) := by decide +kernel
theorem dX8_like_2 : decode cX8_like 2 = .ok (.invokevirtual 24, 3) := by decide +kernel
theorem dX8_like_5 : decode cX8_like 5 = .ok (.bipush 10, 2) := by decide +kernel
theorem dX8_like_7 : decode cX8_like 7 = .ok (.invokestatic 48, 3) := by decide +kernel
theorem dX8_like_10 : decode cX8_like 10 = .ok (.istore 4, 2) := by decide +kernel
theorem dX8_like_12 : decode cX8_like 12 = .ok (.iconst 0, 1) := by decide +kernel
theorem dX8_like_13 : decode cX8_like 13 = .ok (.istore 5, 2) := by decide +kernel
theorem dX8_like_15 : decode cX8_like 15 = .ok (.iload 5, 2) := by decide +kernel
theorem dX8_like_17 : decode cX8_like 17 = .ok (.iload 4, 2) := by decide +kernel
theorem dX8_like_19 : decode cX8_like 19 = .ok (.if_icmp .gt 17, 3) := by decide +kernel
theorem dX8_like_22 : decode cX8_like 22 = .ok (.aload_n 0, 1) := by decide +kernel
theorem dX8_like_23 : decode cX8_like 23 = .ok (.getfield 9, 3) := by decide +kernel
theorem dX8_like_26 : decode cX8_like 26 = .ok (.iload 5, 2) := by decide +kernel
theorem dX8_like_28 : decode cX8_like 28 = .ok (.iconst 0, 1) := by decide +kernel
theorem dX8_like_29 : decode cX8_like 29 = .ok (.iastore, 1) := by decide +kernel
theorem dX8_like_30 : decode cX8_like 30 = .ok (.iinc 5 1, 3) := by decide +kernel
theorem dX8_like_33 : decode cX8_like 33 = .ok (.goto (-18), 3) := by decide +kernel
theorem dX8_like_36 : decode cX8_like 36 = .ok (.iconst 0, 1) := by decide +kernel
theorem dX8_like_37 : decode cX8_like 37 = .ok (.istore 5, 2) := by decide +kernel
theorem dX8_like_39 : decode cX8_like 39 = .ok (.iload 5, 2) := by decide +kernel
theorem dX8_like_41 : decode cX8_like 41 = .ok (.aload_n 1, 1) := by decide +kernel
theorem dX8_like_42 : decode cX8_like 42 = .ok (.invokevirtual 21, 3) := by decide +kernel
theorem dX8_like_45 : decode cX8_like 45 = .ok (.if_icmp .ge 34, 3) := by decide +kernel
theorem dX8_like_48 : decode cX8_like 48 = .ok (.aload_n 1, 1) := by decide +kernel
theorem dX8_like_49 : decode cX8_like 49 = .ok (.iload 5, 2) := by decide +kernel
theorem dX8_like_51 : decode cX8_like 51 = .ok (.invokevirtual 34, 3) := by decide +kernel
theorem dX8_like_54 : decode cX8_like 54 = .ok (.bipush 10, 2) := by decide +kernel
theorem dX8_like_56 : decode cX8_like 56 = .ok (.if_icmp .eq 17, 3) := by decide +kernel
theorem dX8_like_59 : decode cX8_like 59 = .ok (.aload_n 0, 1) := by decide +kernel
theorem dX8_like_60 : decode cX8_like 60 = .ok (.aload_n 1, 1) := by decide +kernel
theorem dX8_like_61 : decode cX8_like 61 = .ok (.iload 5, 2) := by decide +kernel
theorem dX8_like_63 : decode cX8_like 63 = .ok (.invokevirtual 34, 3) := by decide +kernel
theorem dX8_like_66 : decode cX8_like 66 = .ok (.aload_n 2, 1) := by decide +kernel
theorem dX8_like_67 : decode cX8_like 67 = .ok (.iload_n 3, 1) := by decide +kernel
theorem dX8_like_68 : decode cX8_like 68 = .ok (.iload 4, 2) := by decide +kernel
theorem dX8_like_70 : decode cX8_like 70 = .ok (.invokevirtual 53, 3) := by decide +kernel
theorem dX8_like_73 : decode cX8_like 73 = .ok (.iinc 5 1, 3) := by decide +kernel
theorem dX8_like_76 : decode cX8_like 76 = .ok (.goto (-37), 3) := by decide +kernel
theorem dX8_like_79 : decode cX8_like 79 = .ok (.aload_n 0, 1) := by decide +kernel
theorem dX8_like_80 : decode cX8_like 80 = .ok (.getfield 9, 3) := by decide +kernel
theorem dX8_like_83 : decode cX8_like 83 = .ok (.iload 4, 2) := by decide +kernel
theorem dX8_like_85 : decode cX8_like 85 = .ok (.iaload, 1) := by decide +kernel
theorem dX8_like_86 : decode cX8_like 86 = .ok (.ireturn, 1) := by decide +kernel
set_option maxRecDepth 20000 in
theorem ggX8_countOneMore_X1_armsAt : GoodIn wsX8_countOneMore wsX1_armsAt := goodIn_r _ [10, 11, 12, 13, 14, 9, 15, 16, 18, 19, 20, 21, 22] (by decide +kernel) (by decide +kernel)
set_option maxRecDepth 20000 in
theorem gX8_countOneMore_X1_armsAt : GoodIn wsX8_countOneMore (wsV RX8 37 RX1 yX1_armsAt wsX1_armsAt) := goodIn_app (goodIn_of _ (by decide +kernel)) ggX8_countOneMore_X1_armsAt
theorem dX8_countOneMore_0 : decode cX8_countOneMore 0 = .ok (.iconst 0, 1) := by decide +kernel
theorem dX8_countOneMore_1 : decode cX8_countOneMore 1 = .ok (.istore 5, 2) := by decide +kernel
theorem dX8_countOneMore_3 : decode cX8_countOneMore 3 = .ok (.iconst 1, 1) := by decide +kernel
theorem dX8_countOneMore_4 : decode cX8_countOneMore 4 = .ok (.istore 6, 2) := by decide +kernel
theorem dX8_countOneMore_6 : decode cX8_countOneMore 6 = .ok (.iload 6, 2) := by decide +kernel
theorem dX8_countOneMore_8 : decode cX8_countOneMore 8 = .ok (.iload 4, 2) := by decide +kernel
theorem dX8_countOneMore_10 : decode cX8_countOneMore 10 = .ok (.if_icmp .gt 85, 3) := by decide +kernel
theorem dX8_countOneMore_13 : decode cX8_countOneMore 13 = .ok (.iload 6, 2) := by decide +kernel
theorem dX8_countOneMore_15 : decode cX8_countOneMore 15 = .ok (.aload_n 0, 1) := by decide +kernel
theorem dX8_countOneMore_16 : decode cX8_countOneMore 16 = .ok (.getfield 9, 3) := by decide +kernel
theorem dX8_countOneMore_19 : decode cX8_countOneMore 19 = .ok (.arraylength, 1) := by decide +kernel
theorem dX8_countOneMore_20 : decode cX8_countOneMore 20 = .ok (.if_icmp .ge 75, 3) := by decide +kernel
theorem dX8_countOneMore_23 : decode cX8_countOneMore 23 = .ok (.aload_n 0, 1) := by decide +kernel
theorem dX8_countOneMore_24 : decode cX8_countOneMore 24 = .ok (.getfield 9, 3) := by decide +kernel
theorem dX8_countOneMore_27 : decode cX8_countOneMore 27 = .ok (.iload 6, 2) := by decide +kernel
theorem dX8_countOneMore_29 : decode cX8_countOneMore 29 = .ok (.iaload, 1) := by decide +kernel
theorem dX8_countOneMore_30 : decode cX8_countOneMore 30 = .ok (.istore 7, 2) := by decide +kernel
theorem dX8_countOneMore_32 : decode cX8_countOneMore 32 = .ok (.aload_n 2, 1) := by decide +kernel
theorem dX8_countOneMore_33 : decode cX8_countOneMore 33 = .ok (.iload_n 3, 1) := by decide +kernel
theorem dX8_countOneMore_34 : decode cX8_countOneMore 34 = .ok (.iload 6, 2) := by decide +kernel
theorem dX8_countOneMore_36 : decode cX8_countOneMore 36 = .ok (.iconst 1, 1) := by decide +kernel
theorem dX8_countOneMore_37 : decode cX8_countOneMore 37 = .ok (.isub, 1) := by decide +kernel
theorem dX8_countOneMore_38 : decode cX8_countOneMore 38 = .ok (.invokevirtual 37, 3) := by decide +kernel
theorem dX8_countOneMore_41 : decode cX8_countOneMore 41 = .ok (.iload_n 1, 1) := by decide +kernel
theorem dX8_countOneMore_42 : decode cX8_countOneMore 42 = .ok (.if_icmp .ne 17, 3) := by decide +kernel
theorem dX8_countOneMore_45 : decode cX8_countOneMore 45 = .ok (.aload_n 0, 1) := by decide +kernel
theorem dX8_countOneMore_46 : decode cX8_countOneMore 46 = .ok (.getfield 9, 3) := by decide +kernel
theorem dX8_countOneMore_49 : decode cX8_countOneMore 49 = .ok (.iload 6, 2) := by decide +kernel
theorem dX8_countOneMore_51 : decode cX8_countOneMore 51 = .ok (.iload 5, 2) := by decide +kernel
theorem dX8_countOneMore_53 : decode cX8_countOneMore 53 = .ok (.iconst 1, 1) := by decide +kernel
theorem dX8_countOneMore_54 : decode cX8_countOneMore 54 = .ok (.iadd, 1) := by decide +kernel
theorem dX8_countOneMore_55 : decode cX8_countOneMore 55 = .ok (.iastore, 1) := by decide +kernel
theorem dX8_countOneMore_56 : decode cX8_countOneMore 56 = .ok (.goto 29, 3) := by decide +kernel
theorem dX8_countOneMore_59 : decode cX8_countOneMore 59 = .ok (.aload_n 0, 1) := by decide +kernel
theorem dX8_countOneMore_60 : decode cX8_countOneMore 60 = .ok (.getfield 9, 3) := by decide +kernel
theorem dX8_countOneMore_63 : decode cX8_countOneMore 63 = .ok (.iload 6, 2) := by decide +kernel
theorem dX8_countOneMore_65 : decode cX8_countOneMore 65 = .ok (.aload_n 0, 1) := by decide +kernel
theorem dX8_countOneMore_66 : decode cX8_countOneMore 66 = .ok (.getfield 9, 3) := by decide +kernel
theorem dX8_countOneMore_69 : decode cX8_countOneMore 69 = .ok (.iload 6, 2) := by decide +kernel
theorem dX8_countOneMore_71 : decode cX8_countOneMore 71 = .ok (.iaload, 1) := by decide +kernel
theorem dX8_countOneMore_72 : decode cX8_countOneMore 72 = .ok (.aload_n 0, 1) := by decide +kernel
theorem dX8_countOneMore_73 : decode cX8_countOneMore 73 = .ok (.getfield 9, 3) := by decide +kernel
theorem dX8_countOneMore_76 : decode cX8_countOneMore 76 = .ok (.iload 6, 2) := by decide +kernel
theorem dX8_countOneMore_78 : decode cX8_countOneMore 78 = .ok (.iconst 1, 1) := by decide +kernel
theorem dX8_countOneMore_79 : decode cX8_countOneMore 79 = .ok (.isub, 1) := by decide +kernel
theorem dX8_countOneMore_80 : decode cX8_countOneMore 80 = .ok (.iaload, 1) := by decide +kernel
theorem dX8_countOneMore_81 : decode cX8_countOneMore 81 = .ok (.invokestatic 57, 3) := by decide +kernel
theorem dX8_countOneMore_84 : decode cX8_countOneMore 84 = .ok (.iastore, 1) := by decide +kernel
theorem dX8_countOneMore_85 : decode cX8_countOneMore 85 = .ok (.iload 7, 2) := by decide +kernel
theorem dX8_countOneMore_87 : decode cX8_countOneMore 87 = .ok (.istore 5, 2) := by decide +kernel
theorem dX8_countOneMore_89 : decode cX8_countOneMore 89 = .ok (.iinc 6 1, 3) := by decide +kernel
theorem dX8_countOneMore_92 : decode cX8_countOneMore 92 = .ok (.goto (-86), 3) := by decide +kernel
theorem dX8_countOneMore_95 : decode cX8_countOneMore 95 = .ok (.return_, 1) := by decide +kernel
set_option maxRecDepth 20000 in
theorem ggX8_likely_X7_people : GoodIn wsX8_likely wsX7_people := goodIn_r _ [5, 6, 45] (by decide +kernel) (by decide +kernel)
set_option maxRecDepth 20000 in
theorem gX8_likely_X7_people : GoodIn wsX8_likely (wsV RX8 15 RX7 yX7_people wsX7_people) := goodIn_app (goodIn_of _ (by decide +kernel)) ggX8_likely_X7_people
set_option maxRecDepth 20000 in
theorem ggX8_likely_X8_like : GoodIn wsX8_likely wsX8_like := goodIn_r _ [11, 12, 13, 14, 15, 16, 17, 18, 19, 20, 21, 22, 23, 24, 25, 4, 26, 6, 27, 28, 29, 30, 31, 32, 33, 34, 10, 35, 36, 37, 38, 39, 40, 41, 42, 43, 44, 46, 47, 48, 49, 50, 51, 45] (by decide +kernel) (by decide +kernel)
set_option maxRecDepth 20000 in
theorem gX8_likely_X8_like : GoodIn wsX8_likely (wsV RX8 60 RX8 yX8_like wsX8_like) := goodIn_app (goodIn_of _ (by decide +kernel)) ggX8_likely_X8_like
set_option maxRecDepth 20000 in
theorem ggX8_likely_X1_sizeOf : GoodIn wsX8_likely wsX1_sizeOf := goodIn_r _ [21, 22, 47, 48, 49, 50, 51] (by decide +kernel) (by decide +kernel)
set_option maxRecDepth 20000 in
theorem gX8_likely_X1_sizeOf : GoodIn wsX8_likely (wsV RX8 24 RX1 yX1_sizeOf wsX1_sizeOf) := goodIn_app (goodIn_of _ (by decide +kernel)) ggX8_likely_X1_sizeOf
theorem dX8_likely_0 : decode cX8_likely 0 = .ok (.iconst (-1), 1) := by decide +kernel
theorem dX8_likely_1 : decode cX8_likely 1 = .ok (.istore_n 3, 1) := by decide +kernel
theorem dX8_likely_2 : decode cX8_likely 2 = .ok (.iconst 0, 1) := by decide +kernel
theorem dX8_likely_3 : decode cX8_likely 3 = .ok (.istore 4, 2) := by decide +kernel
theorem dX8_likely_5 : decode cX8_likely 5 = .ok (.iconst 0, 1) := by decide +kernel
theorem dX8_likely_6 : decode cX8_likely 6 = .ok (.istore 5, 2) := by decide +kernel
theorem dX8_likely_8 : decode cX8_likely 8 = .ok (.iload 5, 2) := by decide +kernel
theorem dX8_likely_10 : decode cX8_likely 10 = .ok (.aload_n 1, 1) := by decide +kernel
theorem dX8_likely_11 : decode cX8_likely 11 = .ok (.invokevirtual 15, 3) := by decide +kernel
theorem dX8_likely_14 : decode cX8_likely 14 = .ok (.if_icmp .ge 71, 3) := by decide +kernel
theorem dX8_likely_17 : decode cX8_likely 17 = .ok (.aload_n 0, 1) := by decide +kernel
theorem dX8_likely_18 : decode cX8_likely 18 = .ok (.aload_n 1, 1) := by decide +kernel
theorem dX8_likely_19 : decode cX8_likely 19 = .ok (.aload_n 2, 1) := by decide +kernel
theorem dX8_likely_20 : decode cX8_likely 20 = .ok (.iload 5, 2) := by decide +kernel
theorem dX8_likely_22 : decode cX8_likely 22 = .ok (.invokevirtual 60, 3) := by decide +kernel
theorem dX8_likely_25 : decode cX8_likely 25 = .ok (.istore 6, 2) := by decide +kernel
theorem dX8_likely_27 : decode cX8_likely 27 = .ok (.iload_n 3, 1) := by decide +kernel
theorem dX8_likely_28 : decode cX8_likely 28 = .ok (.iconst (-1), 1) := by decide +kernel
theorem dX8_likely_29 : decode cX8_likely 29 = .ok (.if_icmp .eq 28, 3) := by decide +kernel
theorem dX8_likely_32 : decode cX8_likely 32 = .ok (.iload 6, 2) := by decide +kernel
theorem dX8_likely_34 : decode cX8_likely 34 = .ok (.iload 4, 2) := by decide +kernel
theorem dX8_likely_36 : decode cX8_likely 36 = .ok (.if_icmp .ne 21, 3) := by decide +kernel
theorem dX8_likely_39 : decode cX8_likely 39 = .ok (.aload_n 2, 1) := by decide +kernel
theorem dX8_likely_40 : decode cX8_likely 40 = .ok (.iload 5, 2) := by decide +kernel
theorem dX8_likely_42 : decode cX8_likely 42 = .ok (.invokevirtual 24, 3) := by decide +kernel
theorem dX8_likely_45 : decode cX8_likely 45 = .ok (.aload_n 2, 1) := by decide +kernel
theorem dX8_likely_46 : decode cX8_likely 46 = .ok (.iload_n 3, 1) := by decide +kernel
theorem dX8_likely_47 : decode cX8_likely 47 = .ok (.invokevirtual 24, 3) := by decide +kernel
theorem dX8_likely_50 : decode cX8_likely 50 = .ok (.if_icmp .ge 7, 3) := by decide +kernel
theorem dX8_likely_53 : decode cX8_likely 53 = .ok (.iconst 1, 1) := by decide +kernel
theorem dX8_likely_54 : decode cX8_likely 54 = .ok (.goto 4, 3) := by decide +kernel
theorem dX8_likely_57 : decode cX8_likely 57 = .ok (.iconst 0, 1) := by decide +kernel
theorem dX8_likely_58 : decode cX8_likely 58 = .ok (.istore 7, 2) := by decide +kernel
theorem dX8_likely_60 : decode cX8_likely 60 = .ok (.iload 6, 2) := by decide +kernel
theorem dX8_likely_62 : decode cX8_likely 62 = .ok (.iload 4, 2) := by decide +kernel
theorem dX8_likely_64 : decode cX8_likely 64 = .ok (.if_icmp .gt 8, 3) := by decide +kernel
theorem dX8_likely_67 : decode cX8_likely 67 = .ok (.iload 7, 2) := by decide +kernel
theorem dX8_likely_69 : decode cX8_likely 69 = .ok (.ifCond .eq 10, 3) := by decide +kernel
theorem dX8_likely_72 : decode cX8_likely 72 = .ok (.iload 5, 2) := by decide +kernel
theorem dX8_likely_74 : decode cX8_likely 74 = .ok (.istore_n 3, 1) := by decide +kernel
theorem dX8_likely_75 : decode cX8_likely 75 = .ok (.iload 6, 2) := by decide +kernel
theorem dX8_likely_77 : decode cX8_likely 77 = .ok (.istore 4, 2) := by decide +kernel
theorem dX8_likely_79 : decode cX8_likely 79 = .ok (.iinc 5 1, 3) := by decide +kernel
theorem dX8_likely_82 : decode cX8_likely 82 = .ok (.goto (-74), 3) := by decide +kernel
theorem dX8_likely_85 : decode cX8_likely 85 = .ok (.iload_n 3, 1) := by decide +kernel
theorem dX8_likely_86 : decode cX8_likely 86 = .ok (.ireturn, 1) := by decide +kernel
theorem dX9_init_0 : decode cX9_init 0 = .ok (.aload_n 0, 1) := by decide +kernel
theorem dX9_init_1 : decode cX9_init 1 = .ok (.invokespecial 3, 3) := by decide +kernel
theorem dX9_init_4 : decode cX9_init 4 = .ok (.aload_n 0, 1) := by decide +kernel
theorem dX9_init_5 : decode cX9_init 5 = .ok (.bipush 32, 2) := by decide +kernel
theorem dX9_init_7 : decode cX9_init 7 = .ok (.newarray .int, 2) := by decide +kernel
theorem dX9_init_9 : decode cX9_init 9 = .ok (.putfield 9, 3) := by decide +kernel
theorem dX9_init_12 : decode cX9_init 12 = .ok (.aload_n 0, 1) := by decide +kernel
theorem dX9_init_13 : decode cX9_init 13 = .ok (.bipush 32, 2) := by decide +kernel
theorem dX9_init_15 : decode cX9_init 15 = .ok (.newarray .int, 2) := by decide +kernel
theorem dX9_init_17 : decode cX9_init 17 = .ok (.putfield 15, 3) := by decide +kernel
theorem dX9_init_20 : decode cX9_init 20 = .ok (.aload_n 0, 1) := by decide +kernel
theorem dX9_init_21 : decode cX9_init 21 = .ok (.bipush 112, 2) := by decide +kernel
theorem dX9_init_23 : decode cX9_init 23 = .ok (.newarray .int, 2) := by decide +kernel
theorem dX9_init_25 : decode cX9_init 25 = .ok (.putfield 18, 3) := by decide +kernel
theorem dX9_init_28 : decode cX9_init 28 = .ok (.aload_n 0, 1) := by decide +kernel
theorem dX9_init_29 : decode cX9_init 29 = .ok (.bipush 112, 2) := by decide +kernel
theorem dX9_init_31 : decode cX9_init 31 = .ok (.newarray .int, 2) := by decide +kernel
theorem dX9_init_33 : decode cX9_init 33 = .ok (.putfield 21, 3) := by decide +kernel
theorem dX9_init_36 : decode cX9_init 36 = .ok (.aload_n 0, 1) := by decide +kernel
theorem dX9_init_37 : decode cX9_init 37 = .ok (.bipush 112, 2) := by decide +kernel
theorem dX9_init_39 : decode cX9_init 39 = .ok (.newarray .int, 2) := by decide +kernel
theorem dX9_init_41 : decode cX9_init 41 = .ok (.putfield 24, 3) := by decide +kernel
theorem dX9_init_44 : decode cX9_init 44 = .ok (.return_, 1) := by decide +kernel
theorem dX9_birth_0 : decode cX9_birth 0 = .ok (.iconst 2, 1) := by decide +kernel
theorem dX9_birth_1 : decode cX9_birth 1 = .ok (.iload_n 0, 1) := by decide +kernel
theorem dX9_birth_2 : decode cX9_birth 2 = .ok (.imul, 1) := by decide +kernel
theorem dX9_birth_3 : decode cX9_birth 3 = .ok (.ireturn, 1) := by decide +kernel
theorem dX9_death_0 : decode cX9_death 0 = .ok (.iconst 2, 1) := by decide +kernel
theorem dX9_death_1 : decode cX9_death 1 = .ok (.iload_n 0, 1) := by decide +kernel
theorem dX9_death_2 : decode cX9_death 2 = .ok (.imul, 1) := by decide +kernel
theorem dX9_death_3 : decode cX9_death 3 = .ok (.iconst 1, 1) := by decide +kernel
theorem dX9_death_4 : decode cX9_death 4 = .ok (.iadd, 1) := by decide +kernel
theorem dX9_death_5 : decode cX9_death 5 = .ok (.ireturn, 1) := by decide +kernel
set_option maxRecDepth 20000 in
theorem ggX9_reckon_X7_people : GoodIn wsX9_reckon wsX7_people := goodIn_r _ [7, 8, 62] (by decide +kernel) (by decide +kernel)
set_option maxRecDepth 20000 in
theorem gX9_reckon_X7_people : GoodIn wsX9_reckon (wsV RX9 27 RX7 yX7_people wsX7_people) := goodIn_app (goodIn_of _ (by decide +kernel)) ggX9_reckon_X7_people
set_option maxRecDepth 20000 in
theorem ggX9_reckon_X9_layBounds : GoodIn wsX9_reckon wsX9_layBounds := goodIn_r _ [13, 14, 15, 3, 4, 5, 6, 7, 8, 16, 17, 12, 18, 19, 20, 21, 22, 23, 24, 25, 26, 27, 28, 29, 54, 55, 56, 57, 58, 59, 60, 61, 62] (by decide +kernel) (by decide +kernel)
set_option maxRecDepth 20000 in
theorem gX9_reckon_X9_layBounds : GoodIn wsX9_reckon (wsV RX9 37 RX9 yX9_layBounds wsX9_layBounds) := goodIn_app (goodIn_of _ (by decide +kernel)) ggX9_reckon_X9_layBounds
set_option maxRecDepth 20000 in
theorem ggX9_reckon_X9_layGaps : GoodIn wsX9_reckon wsX9_layGaps := goodIn_r _ [33, 34, 3, 4, 5, 6, 7, 8, 19, 20, 21, 22, 23, 24, 25, 26, 16, 17, 12, 18, 27, 28, 29, 35, 36, 37, 38, 39, 40, 41, 54, 55, 56, 57, 58, 59, 60, 61, 62] (by decide +kernel) (by decide +kernel)
set_option maxRecDepth 20000 in
theorem gX9_reckon_X9_layGaps : GoodIn wsX9_reckon (wsV RX9 41 RX9 yX9_layGaps wsX9_layGaps) := goodIn_app (goodIn_of _ (by decide +kernel)) ggX9_reckon_X9_layGaps
set_option maxRecDepth 20000 in
theorem ggX9_reckon_X9_raiseLeast : GoodIn wsX9_reckon wsX9_raiseLeast := goodIn_r _ [45, 1, 34, 14, 40, 39, 41, 54, 55, 56, 57, 58, 59, 60, 61] (by decide +kernel) (by decide +kernel)
set_option maxRecDepth 20000 in
theorem gX9_reckon_X9_raiseLeast : GoodIn wsX9_reckon (wsV RX9 44 RX9 yX9_raiseLeast wsX9_raiseLeast) := goodIn_app (goodIn_of _ (by decide +kernel)) ggX9_reckon_X9_raiseLeast
set_option maxRecDepth 20000 in
theorem ggX9_reckon_X9_isCrossed : GoodIn wsX9_reckon wsX9_isCrossed := goodIn_r _ [49, 1, 14, 15, 54, 55, 56, 57, 58, 59, 60, 61] (by decide +kernel) (by decide +kernel)
set_option maxRecDepth 20000 in
theorem gX9_reckon_X9_isCrossed : GoodIn wsX9_reckon (wsV RX9 48 RX9 yX9_isCrossed wsX9_isCrossed) := goodIn_app (goodIn_of _ (by decide +kernel)) ggX9_reckon_X9_isCrossed
set_option maxRecDepth 20000 in
theorem ggX9_reckon_X9_lowerGreatest : GoodIn wsX9_reckon wsX9_lowerGreatest := goodIn_r _ [53, 1, 34, 15, 41, 39, 40, 54, 55, 56, 57, 58, 59, 60, 61] (by decide +kernel) (by decide +kernel)
set_option maxRecDepth 20000 in
theorem gX9_reckon_X9_lowerGreatest : GoodIn wsX9_reckon (wsV RX9 55 RX9 yX9_lowerGreatest wsX9_lowerGreatest) := goodIn_app (goodIn_of _ (by decide +kernel)) ggX9_reckon_X9_lowerGreatest
theorem dX9_reckon_0 : decode cX9_reckon 0 = .ok (.aload_n 0, 1) := by decide +kernel
theorem dX9_reckon_1 : decode cX9_reckon 1 = .ok (.iconst 2, 1) := by decide +kernel
theorem dX9_reckon_2 : decode cX9_reckon 2 = .ok (.aload_n 1, 1) := by decide +kernel
theorem dX9_reckon_3 : decode cX9_reckon 3 = .ok (.invokevirtual 27, 3) := by decide +kernel
theorem dX9_reckon_6 : decode cX9_reckon 6 = .ok (.imul, 1) := by decide +kernel
theorem dX9_reckon_7 : decode cX9_reckon 7 = .ok (.putfield 33, 3) := by decide +kernel
theorem dX9_reckon_10 : decode cX9_reckon 10 = .ok (.aload_n 0, 1) := by decide +kernel
theorem dX9_reckon_11 : decode cX9_reckon 11 = .ok (.aload_n 1, 1) := by decide +kernel
theorem dX9_reckon_12 : decode cX9_reckon 12 = .ok (.invokevirtual 37, 3) := by decide +kernel
theorem dX9_reckon_15 : decode cX9_reckon 15 = .ok (.aload_n 0, 1) := by decide +kernel
theorem dX9_reckon_16 : decode cX9_reckon 16 = .ok (.aload_n 1, 1) := by decide +kernel
theorem dX9_reckon_17 : decode cX9_reckon 17 = .ok (.invokevirtual 41, 3) := by decide +kernel
theorem dX9_reckon_20 : decode cX9_reckon 20 = .ok (.aload_n 0, 1) := by decide +kernel
theorem dX9_reckon_21 : decode cX9_reckon 21 = .ok (.aload_n 0, 1) := by decide +kernel
theorem dX9_reckon_22 : decode cX9_reckon 22 = .ok (.invokevirtual 44, 3) := by decide +kernel
theorem dX9_reckon_25 : decode cX9_reckon 25 = .ok (.ifCond .eq 10, 3) := by decide +kernel
theorem dX9_reckon_28 : decode cX9_reckon 28 = .ok (.aload_n 0, 1) := by decide +kernel
theorem dX9_reckon_29 : decode cX9_reckon 29 = .ok (.invokevirtual 48, 3) := by decide +kernel
theorem dX9_reckon_32 : decode cX9_reckon 32 = .ok (.ifCond .eq 7, 3) := by decide +kernel
theorem dX9_reckon_35 : decode cX9_reckon 35 = .ok (.iconst 1, 1) := by decide +kernel
theorem dX9_reckon_36 : decode cX9_reckon 36 = .ok (.goto 4, 3) := by decide +kernel
theorem dX9_reckon_39 : decode cX9_reckon 39 = .ok (.iconst 0, 1) := by decide +kernel
theorem dX9_reckon_40 : decode cX9_reckon 40 = .ok (.putfield 51, 3) := by decide +kernel
theorem dX9_reckon_43 : decode cX9_reckon 43 = .ok (.aload_n 0, 1) := by decide +kernel
theorem dX9_reckon_44 : decode cX9_reckon 44 = .ok (.getfield 51, 3) := by decide +kernel
theorem dX9_reckon_47 : decode cX9_reckon 47 = .ok (.ifCond .ne 7, 3) := by decide +kernel
theorem dX9_reckon_50 : decode cX9_reckon 50 = .ok (.aload_n 0, 1) := by decide +kernel
theorem dX9_reckon_51 : decode cX9_reckon 51 = .ok (.invokevirtual 55, 3) := by decide +kernel
theorem dX9_reckon_54 : decode cX9_reckon 54 = .ok (.return_, 1) := by decide +kernel
set_option maxRecDepth 20000 in
theorem ggX9_layBounds_X7_people : GoodIn wsX9_layBounds wsX7_people := goodIn_r _ [7, 8, 32] (by decide +kernel) (by decide +kernel)
set_option maxRecDepth 20000 in
theorem gX9_layBounds_X7_people : GoodIn wsX9_layBounds (wsV RX9 27 RX7 yX7_people wsX7_people) := goodIn_app (goodIn_of _ (by decide +kernel)) ggX9_layBounds_X7_people
set_option maxRecDepth 20000 in
theorem ggX9_layBounds_X9_birth : GoodIn wsX9_layBounds wsX9_birth := goodIn_r _ [12] (by decide +kernel) (by decide +kernel)
set_option maxRecDepth 20000 in
theorem gX9_layBounds_X9_birth : GoodIn wsX9_layBounds (va_wsS RX9 58 yX9_birth wsX9_birth) := goodIn_app (goodIn_of _ (by decide +kernel)) ggX9_layBounds_X9_birth
set_option maxRecDepth 20000 in
theorem ggX9_layBounds_X7_fact : GoodIn wsX9_layBounds wsX7_fact := goodIn_r _ [16, 8, 17, 18, 19, 6, 20, 32] (by decide +kernel) (by decide +kernel)
set_option maxRecDepth 20000 in
theorem gX9_layBounds_X7_fact : GoodIn wsX9_layBounds (wsV RX9 62 RX7 yX7_fact wsX7_fact) := goodIn_app (goodIn_of _ (by decide +kernel)) ggX9_layBounds_X7_fact
set_option maxRecDepth 20000 in
theorem ggX9_layBounds_X9_death : GoodIn wsX9_layBounds wsX9_death := goodIn_r _ [23] (by decide +kernel) (by decide +kernel)
set_option maxRecDepth 20000 in
theorem gX9_layBounds_X9_death : GoodIn wsX9_layBounds (va_wsS RX9 66 yX9_death wsX9_death) := goodIn_app (goodIn_of _ (by decide +kernel)) ggX9_layBounds_X9_death
theorem dX9_layBounds_0 : decode cX9_layBounds 0 = .ok (.iconst 0, 1) := by decide +kernel
theorem dX9_layBounds_1 : decode cX9_layBounds 1 = .ok (.istore_n 2, 1) := by decide +kernel
theorem dX9_layBounds_2 : decode cX9_layBounds 2 = .ok (.iload_n 2, 1) := by decide +kernel
theorem dX9_layBounds_3 : decode cX9_layBounds 3 = .ok (.aload_n 1, 1) := by decide +kernel
theorem dX9_layBounds_4 : decode cX9_layBounds 4 = .ok (.invokevirtual 27, 3) := by decide +kernel
theorem dX9_layBounds_7 : decode cX9_layBounds 7 = .ok (.if_icmp .ge 71, 3) := by decide +kernel
theorem dX9_layBounds_10 : decode cX9_layBounds 10 = .ok (.aload_n 0, 1) := by decide +kernel
theorem dX9_layBounds_11 : decode cX9_layBounds 11 = .ok (.getfield 9, 3) := by decide +kernel
theorem dX9_layBounds_14 : decode cX9_layBounds 14 = .ok (.iload_n 2, 1) := by decide +kernel
theorem dX9_layBounds_15 : decode cX9_layBounds 15 = .ok (.invokestatic 58, 3) := by decide +kernel
theorem dX9_layBounds_18 : decode cX9_layBounds 18 = .ok (.aload_n 1, 1) := by decide +kernel
theorem dX9_layBounds_19 : decode cX9_layBounds 19 = .ok (.iload_n 2, 1) := by decide +kernel
theorem dX9_layBounds_20 : decode cX9_layBounds 20 = .ok (.iconst 4, 1) := by decide +kernel
theorem dX9_layBounds_21 : decode cX9_layBounds 21 = .ok (.invokevirtual 62, 3) := by decide +kernel
theorem dX9_layBounds_24 : decode cX9_layBounds 24 = .ok (.iastore, 1) := by decide +kernel
theorem dX9_layBounds_25 : decode cX9_layBounds 25 = .ok (.aload_n 0, 1) := by decide +kernel
theorem dX9_layBounds_26 : decode cX9_layBounds 26 = .ok (.getfield 15, 3) := by decide +kernel
theorem dX9_layBounds_29 : decode cX9_layBounds 29 = .ok (.iload_n 2, 1) := by decide +kernel
theorem dX9_layBounds_30 : decode cX9_layBounds 30 = .ok (.invokestatic 58, 3) := by decide +kernel
theorem dX9_layBounds_33 : decode cX9_layBounds 33 = .ok (.aload_n 1, 1) := by decide +kernel
theorem dX9_layBounds_34 : decode cX9_layBounds 34 = .ok (.iload_n 2, 1) := by decide +kernel
theorem dX9_layBounds_35 : decode cX9_layBounds 35 = .ok (.iconst 5, 1) := by decide +kernel
theorem dX9_layBounds_36 : decode cX9_layBounds 36 = .ok (.invokevirtual 62, 3) := by decide +kernel
theorem dX9_layBounds_39 : decode cX9_layBounds 39 = .ok (.iastore, 1) := by decide +kernel
theorem dX9_layBounds_40 : decode cX9_layBounds 40 = .ok (.aload_n 0, 1) := by decide +kernel
theorem dX9_layBounds_41 : decode cX9_layBounds 41 = .ok (.getfield 9, 3) := by decide +kernel
theorem dX9_layBounds_44 : decode cX9_layBounds 44 = .ok (.iload_n 2, 1) := by decide +kernel
theorem dX9_layBounds_45 : decode cX9_layBounds 45 = .ok (.invokestatic 66, 3) := by decide +kernel
theorem dX9_layBounds_48 : decode cX9_layBounds 48 = .ok (.aload_n 1, 1) := by decide +kernel
theorem dX9_layBounds_49 : decode cX9_layBounds 49 = .ok (.iload_n 2, 1) := by decide +kernel
theorem dX9_layBounds_50 : decode cX9_layBounds 50 = .ok (.bipush 6, 2) := by decide +kernel
theorem dX9_layBounds_52 : decode cX9_layBounds 52 = .ok (.invokevirtual 62, 3) := by decide +kernel
theorem dX9_layBounds_55 : decode cX9_layBounds 55 = .ok (.iastore, 1) := by decide +kernel
theorem dX9_layBounds_56 : decode cX9_layBounds 56 = .ok (.aload_n 0, 1) := by decide +kernel
theorem dX9_layBounds_57 : decode cX9_layBounds 57 = .ok (.getfield 15, 3) := by decide +kernel
theorem dX9_layBounds_60 : decode cX9_layBounds 60 = .ok (.iload_n 2, 1) := by decide +kernel
theorem dX9_layBounds_61 : decode cX9_layBounds 61 = .ok (.invokestatic 66, 3) := by decide +kernel
theorem dX9_layBounds_64 : decode cX9_layBounds 64 = .ok (.aload_n 1, 1) := by decide +kernel
theorem dX9_layBounds_65 : decode cX9_layBounds 65 = .ok (.iload_n 2, 1) := by decide +kernel
theorem dX9_layBounds_66 : decode cX9_layBounds 66 = .ok (.bipush 7, 2) := by decide +kernel
theorem dX9_layBounds_68 : decode cX9_layBounds 68 = .ok (.invokevirtual 62, 3) := by decide +kernel
theorem dX9_layBounds_71 : decode cX9_layBounds 71 = .ok (.iastore, 1) := by decide +kernel
theorem dX9_layBounds_72 : decode cX9_layBounds 72 = .ok (.iinc 2 1, 3) := by decide +kernel
theorem dX9_layBounds_75 : decode cX9_layBounds 75 = .ok (.goto (-73), 3) := by decide +kernel
theorem dX9_layBounds_78 : decode cX9_layBounds 78 = .ok (.return_, 1) := by decide +kernel
set_option maxRecDepth 20000 in
theorem ggX9_layGaps_X7_people : GoodIn wsX9_layGaps wsX7_people := goodIn_r _ [6, 7, 38] (by decide +kernel) (by decide +kernel)
set_option maxRecDepth 20000 in
theorem gX9_layGaps_X7_people : GoodIn wsX9_layGaps (wsV RX9 27 RX7 yX7_people wsX7_people) := goodIn_app (goodIn_of _ (by decide +kernel)) ggX9_layGaps_X7_people
set_option maxRecDepth 20000 in
theorem ggX9_layGaps_X7_fact : GoodIn wsX9_layGaps wsX7_fact := goodIn_r _ [11, 7, 12, 13, 14, 5, 15, 38] (by decide +kernel) (by decide +kernel)
set_option maxRecDepth 20000 in
theorem gX9_layGaps_X7_fact : GoodIn wsX9_layGaps (wsV RX9 62 RX7 yX7_fact wsX7_fact) := goodIn_app (goodIn_of _ (by decide +kernel)) ggX9_layGaps_X7_fact
set_option maxRecDepth 20000 in
theorem ggX9_layGaps_X9_birth : GoodIn wsX9_layGaps wsX9_birth := goodIn_r _ [19] (by decide +kernel) (by decide +kernel)
set_option maxRecDepth 20000 in
theorem gX9_layGaps_X9_birth : GoodIn wsX9_layGaps (va_wsS RX9 58 yX9_birth wsX9_birth) := goodIn_app (goodIn_of _ (by decide +kernel)) ggX9_layGaps_X9_birth
set_option maxRecDepth 20000 in
theorem ggX9_layGaps_X9_death : GoodIn wsX9_layGaps wsX9_death := goodIn_r _ [22] (by decide +kernel) (by decide +kernel)
set_option maxRecDepth 20000 in
theorem gX9_layGaps_X9_death : GoodIn wsX9_layGaps (va_wsS RX9 66 yX9_death wsX9_death) := goodIn_app (goodIn_of _ (by decide +kernel)) ggX9_layGaps_X9_death
set_option maxRecDepth 20000 in
theorem ggX9_layGaps_X9_addGap : GoodIn wsX9_layGaps wsX9_addGap := goodIn_r _ [26, 1, 27, 28, 29, 30, 31, 32, 33, 34, 35, 36, 37] (by decide +kernel) (by decide +kernel)
set_option maxRecDepth 20000 in
theorem gX9_layGaps_X9_addGap : GoodIn wsX9_layGaps (wsV RX9 72 RX9 yX9_addGap wsX9_addGap) := goodIn_app (goodIn_of _ (by decide +kernel)) ggX9_layGaps_X9_addGap
theorem dX9_layGaps_0 : decode cX9_layGaps 0 = .ok (.aload_n 0, 1) := by decide +kernel
theorem dX9_layGaps_1 : decode cX9_layGaps 1 = .ok (.iconst 0, 1) := by decide +kernel
theorem dX9_layGaps_2 : decode cX9_layGaps 2 = .ok (.putfield 69, 3) := by decide +kernel
theorem dX9_layGaps_5 : decode cX9_layGaps 5 = .ok (.iconst 0, 1) := by decide +kernel
theorem dX9_layGaps_6 : decode cX9_layGaps 6 = .ok (.istore_n 2, 1) := by decide +kernel
theorem dX9_layGaps_7 : decode cX9_layGaps 7 = .ok (.iload_n 2, 1) := by decide +kernel
theorem dX9_layGaps_8 : decode cX9_layGaps 8 = .ok (.aload_n 1, 1) := by decide +kernel
theorem dX9_layGaps_9 : decode cX9_layGaps 9 = .ok (.invokevirtual 27, 3) := by decide +kernel
theorem dX9_layGaps_12 : decode cX9_layGaps 12 = .ok (.if_icmp .ge 133, 3) := by decide +kernel
theorem dX9_layGaps_15 : decode cX9_layGaps 15 = .ok (.aload_n 1, 1) := by decide +kernel
theorem dX9_layGaps_16 : decode cX9_layGaps 16 = .ok (.iload_n 2, 1) := by decide +kernel
theorem dX9_layGaps_17 : decode cX9_layGaps 17 = .ok (.iconst 2, 1) := by decide +kernel
theorem dX9_layGaps_18 : decode cX9_layGaps 18 = .ok (.invokevirtual 62, 3) := by decide +kernel
theorem dX9_layGaps_21 : decode cX9_layGaps 21 = .ok (.istore_n 3, 1) := by decide +kernel
theorem dX9_layGaps_22 : decode cX9_layGaps 22 = .ok (.aload_n 1, 1) := by decide +kernel
theorem dX9_layGaps_23 : decode cX9_layGaps 23 = .ok (.iload_n 2, 1) := by decide +kernel
theorem dX9_layGaps_24 : decode cX9_layGaps 24 = .ok (.iconst 3, 1) := by decide +kernel
theorem dX9_layGaps_25 : decode cX9_layGaps 25 = .ok (.invokevirtual 62, 3) := by decide +kernel
theorem dX9_layGaps_28 : decode cX9_layGaps 28 = .ok (.istore 4, 2) := by decide +kernel
theorem dX9_layGaps_30 : decode cX9_layGaps 30 = .ok (.aload_n 0, 1) := by decide +kernel
theorem dX9_layGaps_31 : decode cX9_layGaps 31 = .ok (.iload_n 2, 1) := by decide +kernel
theorem dX9_layGaps_32 : decode cX9_layGaps 32 = .ok (.invokestatic 58, 3) := by decide +kernel
theorem dX9_layGaps_35 : decode cX9_layGaps 35 = .ok (.iload_n 2, 1) := by decide +kernel
theorem dX9_layGaps_36 : decode cX9_layGaps 36 = .ok (.invokestatic 66, 3) := by decide +kernel
theorem dX9_layGaps_39 : decode cX9_layGaps 39 = .ok (.iconst 0, 1) := by decide +kernel
theorem dX9_layGaps_40 : decode cX9_layGaps 40 = .ok (.invokevirtual 72, 3) := by decide +kernel
theorem dX9_layGaps_43 : decode cX9_layGaps 43 = .ok (.aload_n 0, 1) := by decide +kernel
theorem dX9_layGaps_44 : decode cX9_layGaps 44 = .ok (.iload_n 2, 1) := by decide +kernel
theorem dX9_layGaps_45 : decode cX9_layGaps 45 = .ok (.invokestatic 66, 3) := by decide +kernel
theorem dX9_layGaps_48 : decode cX9_layGaps 48 = .ok (.iload_n 2, 1) := by decide +kernel
theorem dX9_layGaps_49 : decode cX9_layGaps 49 = .ok (.invokestatic 58, 3) := by decide +kernel
theorem dX9_layGaps_52 : decode cX9_layGaps 52 = .ok (.bipush (-100), 2) := by decide +kernel
theorem dX9_layGaps_54 : decode cX9_layGaps 54 = .ok (.invokevirtual 72, 3) := by decide +kernel
theorem dX9_layGaps_57 : decode cX9_layGaps 57 = .ok (.iload_n 3, 1) := by decide +kernel
theorem dX9_layGaps_58 : decode cX9_layGaps 58 = .ok (.iconst (-1), 1) := by decide +kernel
theorem dX9_layGaps_59 : decode cX9_layGaps 59 = .ok (.if_icmp .eq 30, 3) := by decide +kernel
theorem dX9_layGaps_62 : decode cX9_layGaps 62 = .ok (.aload_n 0, 1) := by decide +kernel
theorem dX9_layGaps_63 : decode cX9_layGaps 63 = .ok (.iload_n 3, 1) := by decide +kernel
theorem dX9_layGaps_64 : decode cX9_layGaps 64 = .ok (.invokestatic 58, 3) := by decide +kernel
theorem dX9_layGaps_67 : decode cX9_layGaps 67 = .ok (.iload_n 2, 1) := by decide +kernel
theorem dX9_layGaps_68 : decode cX9_layGaps 68 = .ok (.invokestatic 58, 3) := by decide +kernel
theorem dX9_layGaps_71 : decode cX9_layGaps 71 = .ok (.bipush 15, 2) := by decide +kernel
theorem dX9_layGaps_73 : decode cX9_layGaps 73 = .ok (.invokevirtual 72, 3) := by decide +kernel
theorem dX9_layGaps_76 : decode cX9_layGaps 76 = .ok (.aload_n 0, 1) := by decide +kernel
theorem dX9_layGaps_77 : decode cX9_layGaps 77 = .ok (.iload_n 2, 1) := by decide +kernel
theorem dX9_layGaps_78 : decode cX9_layGaps 78 = .ok (.invokestatic 58, 3) := by decide +kernel
theorem dX9_layGaps_81 : decode cX9_layGaps 81 = .ok (.iload_n 3, 1) := by decide +kernel
theorem dX9_layGaps_82 : decode cX9_layGaps 82 = .ok (.invokestatic 66, 3) := by decide +kernel
theorem dX9_layGaps_85 : decode cX9_layGaps 85 = .ok (.iconst (-1), 1) := by decide +kernel
theorem dX9_layGaps_86 : decode cX9_layGaps 86 = .ok (.invokevirtual 72, 3) := by decide +kernel
theorem dX9_layGaps_89 : decode cX9_layGaps 89 = .ok (.iload 4, 2) := by decide +kernel
theorem dX9_layGaps_91 : decode cX9_layGaps 91 = .ok (.iconst (-1), 1) := by decide +kernel
theorem dX9_layGaps_92 : decode cX9_layGaps 92 = .ok (.if_icmp .eq 47, 3) := by decide +kernel
theorem dX9_layGaps_95 : decode cX9_layGaps 95 = .ok (.aload_n 0, 1) := by decide +kernel
theorem dX9_layGaps_96 : decode cX9_layGaps 96 = .ok (.iload 4, 2) := by decide +kernel
theorem dX9_layGaps_98 : decode cX9_layGaps 98 = .ok (.invokestatic 58, 3) := by decide +kernel
theorem dX9_layGaps_101 : decode cX9_layGaps 101 = .ok (.iload_n 2, 1) := by decide +kernel
theorem dX9_layGaps_102 : decode cX9_layGaps 102 = .ok (.invokestatic 58, 3) := by decide +kernel
theorem dX9_layGaps_105 : decode cX9_layGaps 105 = .ok (.bipush 15, 2) := by decide +kernel
theorem dX9_layGaps_107 : decode cX9_layGaps 107 = .ok (.invokevirtual 72, 3) := by decide +kernel
theorem dX9_layGaps_110 : decode cX9_layGaps 110 = .ok (.aload_n 0, 1) := by decide +kernel
theorem dX9_layGaps_111 : decode cX9_layGaps 111 = .ok (.iload_n 2, 1) := by decide +kernel
theorem dX9_layGaps_112 : decode cX9_layGaps 112 = .ok (.invokestatic 58, 3) := by decide +kernel
theorem dX9_layGaps_115 : decode cX9_layGaps 115 = .ok (.iload 4, 2) := by decide +kernel
theorem dX9_layGaps_117 : decode cX9_layGaps 117 = .ok (.invokestatic 58, 3) := by decide +kernel
theorem dX9_layGaps_120 : decode cX9_layGaps 120 = .ok (.bipush (-50), 2) := by decide +kernel
theorem dX9_layGaps_122 : decode cX9_layGaps 122 = .ok (.invokevirtual 72, 3) := by decide +kernel
theorem dX9_layGaps_125 : decode cX9_layGaps 125 = .ok (.aload_n 0, 1) := by decide +kernel
theorem dX9_layGaps_126 : decode cX9_layGaps 126 = .ok (.iload_n 2, 1) := by decide +kernel
theorem dX9_layGaps_127 : decode cX9_layGaps 127 = .ok (.invokestatic 58, 3) := by decide +kernel
theorem dX9_layGaps_130 : decode cX9_layGaps 130 = .ok (.iload 4, 2) := by decide +kernel
theorem dX9_layGaps_132 : decode cX9_layGaps 132 = .ok (.invokestatic 66, 3) := by decide +kernel
theorem dX9_layGaps_135 : decode cX9_layGaps 135 = .ok (.iconst 0, 1) := by decide +kernel
theorem dX9_layGaps_136 : decode cX9_layGaps 136 = .ok (.invokevirtual 72, 3) := by decide +kernel
theorem dX9_layGaps_139 : decode cX9_layGaps 139 = .ok (.iinc 2 1, 3) := by decide +kernel
theorem dX9_layGaps_142 : decode cX9_layGaps 142 = .ok (.goto (-135), 3) := by decide +kernel
theorem dX9_layGaps_145 : decode cX9_layGaps 145 = .ok (.return_, 1) := by decide +kernel
theorem dX9_addGap_0 : decode cX9_addGap 0 = .ok (.aload_n 0, 1) := by decide +kernel
theorem dX9_addGap_1 : decode cX9_addGap 1 = .ok (.getfield 69, 3) := by decide +kernel
theorem dX9_addGap_4 : decode cX9_addGap 4 = .ok (.aload_n 0, 1) := by decide +kernel
theorem dX9_addGap_5 : decode cX9_addGap 5 = .ok (.getfield 24, 3) := by decide +kernel
theorem dX9_addGap_8 : decode cX9_addGap 8 = .ok (.arraylength, 1) := by decide +kernel
theorem dX9_addGap_9 : decode cX9_addGap 9 = .ok (.if_icmp .ge 43, 3) := by decide +kernel
theorem dX9_addGap_12 : decode cX9_addGap 12 = .ok (.aload_n 0, 1) := by decide +kernel
theorem dX9_addGap_13 : decode cX9_addGap 13 = .ok (.getfield 18, 3) := by decide +kernel
theorem dX9_addGap_16 : decode cX9_addGap 16 = .ok (.aload_n 0, 1) := by decide +kernel
theorem dX9_addGap_17 : decode cX9_addGap 17 = .ok (.getfield 69, 3) := by decide +kernel
theorem dX9_addGap_20 : decode cX9_addGap 20 = .ok (.iload_n 1, 1) := by decide +kernel
theorem dX9_addGap_21 : decode cX9_addGap 21 = .ok (.iastore, 1) := by decide +kernel
theorem dX9_addGap_22 : decode cX9_addGap 22 = .ok (.aload_n 0, 1) := by decide +kernel
theorem dX9_addGap_23 : decode cX9_addGap 23 = .ok (.getfield 21, 3) := by decide +kernel
theorem dX9_addGap_26 : decode cX9_addGap 26 = .ok (.aload_n 0, 1) := by decide +kernel
theorem dX9_addGap_27 : decode cX9_addGap 27 = .ok (.getfield 69, 3) := by decide +kernel
theorem dX9_addGap_30 : decode cX9_addGap 30 = .ok (.iload_n 2, 1) := by decide +kernel
theorem dX9_addGap_31 : decode cX9_addGap 31 = .ok (.iastore, 1) := by decide +kernel
theorem dX9_addGap_32 : decode cX9_addGap 32 = .ok (.aload_n 0, 1) := by decide +kernel
theorem dX9_addGap_33 : decode cX9_addGap 33 = .ok (.getfield 24, 3) := by decide +kernel
theorem dX9_addGap_36 : decode cX9_addGap 36 = .ok (.aload_n 0, 1) := by decide +kernel
theorem dX9_addGap_37 : decode cX9_addGap 37 = .ok (.getfield 69, 3) := by decide +kernel
theorem dX9_addGap_40 : decode cX9_addGap 40 = .ok (.iload_n 3, 1) := by decide +kernel
theorem dX9_addGap_41 : decode cX9_addGap 41 = .ok (.iastore, 1) := by decide +kernel
theorem dX9_addGap_42 : decode cX9_addGap 42 = .ok (.aload_n 0, 1) := by decide +kernel
theorem dX9_addGap_43 : decode cX9_addGap 43 = .ok (.dup, 1) := by decide +kernel
theorem dX9_addGap_44 : decode cX9_addGap 44 = .ok (.getfield 69, 3) := by decide +kernel
theorem dX9_addGap_47 : decode cX9_addGap 47 = .ok (.iconst 1, 1) := by decide +kernel
theorem dX9_addGap_48 : decode cX9_addGap 48 = .ok (.iadd, 1) := by decide +kernel
theorem dX9_addGap_49 : decode cX9_addGap 49 = .ok (.putfield 69, 3) := by decide +kernel
theorem dX9_addGap_52 : decode cX9_addGap 52 = .ok (.return_, 1) := by decide +kernel
theorem dX9_raiseLeast_0 : decode cX9_raiseLeast 0 = .ok (.iconst 0, 1) := by decide +kernel
theorem dX9_raiseLeast_1 : decode cX9_raiseLeast 1 = .ok (.istore_n 1, 1) := by decide +kernel
theorem dX9_raiseLeast_2 : decode cX9_raiseLeast 2 = .ok (.iconst 0, 1) := by decide +kernel
theorem dX9_raiseLeast_3 : decode cX9_raiseLeast 3 = .ok (.istore_n 2, 1) := by decide +kernel
theorem dX9_raiseLeast_4 : decode cX9_raiseLeast 4 = .ok (.iload_n 2, 1) := by decide +kernel
theorem dX9_raiseLeast_5 : decode cX9_raiseLeast 5 = .ok (.aload_n 0, 1) := by decide +kernel
theorem dX9_raiseLeast_6 : decode cX9_raiseLeast 6 = .ok (.getfield 33, 3) := by decide +kernel
theorem dX9_raiseLeast_9 : decode cX9_raiseLeast 9 = .ok (.if_icmp .ge 84, 3) := by decide +kernel
theorem dX9_raiseLeast_12 : decode cX9_raiseLeast 12 = .ok (.iconst 0, 1) := by decide +kernel
theorem dX9_raiseLeast_13 : decode cX9_raiseLeast 13 = .ok (.istore_n 1, 1) := by decide +kernel
theorem dX9_raiseLeast_14 : decode cX9_raiseLeast 14 = .ok (.iconst 0, 1) := by decide +kernel
theorem dX9_raiseLeast_15 : decode cX9_raiseLeast 15 = .ok (.istore_n 3, 1) := by decide +kernel
theorem dX9_raiseLeast_16 : decode cX9_raiseLeast 16 = .ok (.iload_n 3, 1) := by decide +kernel
theorem dX9_raiseLeast_17 : decode cX9_raiseLeast 17 = .ok (.aload_n 0, 1) := by decide +kernel
theorem dX9_raiseLeast_18 : decode cX9_raiseLeast 18 = .ok (.getfield 69, 3) := by decide +kernel
theorem dX9_raiseLeast_21 : decode cX9_raiseLeast 21 = .ok (.if_icmp .ge 60, 3) := by decide +kernel
theorem dX9_raiseLeast_24 : decode cX9_raiseLeast 24 = .ok (.aload_n 0, 1) := by decide +kernel
theorem dX9_raiseLeast_25 : decode cX9_raiseLeast 25 = .ok (.getfield 9, 3) := by decide +kernel
theorem dX9_raiseLeast_28 : decode cX9_raiseLeast 28 = .ok (.aload_n 0, 1) := by decide +kernel
theorem dX9_raiseLeast_29 : decode cX9_raiseLeast 29 = .ok (.getfield 18, 3) := by decide +kernel
theorem dX9_raiseLeast_32 : decode cX9_raiseLeast 32 = .ok (.iload_n 3, 1) := by decide +kernel
theorem dX9_raiseLeast_33 : decode cX9_raiseLeast 33 = .ok (.iaload, 1) := by decide +kernel
theorem dX9_raiseLeast_34 : decode cX9_raiseLeast 34 = .ok (.iaload, 1) := by decide +kernel
theorem dX9_raiseLeast_35 : decode cX9_raiseLeast 35 = .ok (.aload_n 0, 1) := by decide +kernel
theorem dX9_raiseLeast_36 : decode cX9_raiseLeast 36 = .ok (.getfield 24, 3) := by decide +kernel
theorem dX9_raiseLeast_39 : decode cX9_raiseLeast 39 = .ok (.iload_n 3, 1) := by decide +kernel
theorem dX9_raiseLeast_40 : decode cX9_raiseLeast 40 = .ok (.iaload, 1) := by decide +kernel
theorem dX9_raiseLeast_41 : decode cX9_raiseLeast 41 = .ok (.iadd, 1) := by decide +kernel
theorem dX9_raiseLeast_42 : decode cX9_raiseLeast 42 = .ok (.istore 4, 2) := by decide +kernel
theorem dX9_raiseLeast_44 : decode cX9_raiseLeast 44 = .ok (.iload 4, 2) := by decide +kernel
theorem dX9_raiseLeast_46 : decode cX9_raiseLeast 46 = .ok (.aload_n 0, 1) := by decide +kernel
theorem dX9_raiseLeast_47 : decode cX9_raiseLeast 47 = .ok (.getfield 9, 3) := by decide +kernel
theorem dX9_raiseLeast_50 : decode cX9_raiseLeast 50 = .ok (.aload_n 0, 1) := by decide +kernel
theorem dX9_raiseLeast_51 : decode cX9_raiseLeast 51 = .ok (.getfield 21, 3) := by decide +kernel
theorem dX9_raiseLeast_54 : decode cX9_raiseLeast 54 = .ok (.iload_n 3, 1) := by decide +kernel
theorem dX9_raiseLeast_55 : decode cX9_raiseLeast 55 = .ok (.iaload, 1) := by decide +kernel
theorem dX9_raiseLeast_56 : decode cX9_raiseLeast 56 = .ok (.iaload, 1) := by decide +kernel
theorem dX9_raiseLeast_57 : decode cX9_raiseLeast 57 = .ok (.if_icmp .le 18, 3) := by decide +kernel
theorem dX9_raiseLeast_60 : decode cX9_raiseLeast 60 = .ok (.aload_n 0, 1) := by decide +kernel
theorem dX9_raiseLeast_61 : decode cX9_raiseLeast 61 = .ok (.getfield 9, 3) := by decide +kernel
theorem dX9_raiseLeast_64 : decode cX9_raiseLeast 64 = .ok (.aload_n 0, 1) := by decide +kernel
theorem dX9_raiseLeast_65 : decode cX9_raiseLeast 65 = .ok (.getfield 21, 3) := by decide +kernel
theorem dX9_raiseLeast_68 : decode cX9_raiseLeast 68 = .ok (.iload_n 3, 1) := by decide +kernel
theorem dX9_raiseLeast_69 : decode cX9_raiseLeast 69 = .ok (.iaload, 1) := by decide +kernel
theorem dX9_raiseLeast_70 : decode cX9_raiseLeast 70 = .ok (.iload 4, 2) := by decide +kernel
theorem dX9_raiseLeast_72 : decode cX9_raiseLeast 72 = .ok (.iastore, 1) := by decide +kernel
theorem dX9_raiseLeast_73 : decode cX9_raiseLeast 73 = .ok (.iconst 1, 1) := by decide +kernel
theorem dX9_raiseLeast_74 : decode cX9_raiseLeast 74 = .ok (.istore_n 1, 1) := by decide +kernel
theorem dX9_raiseLeast_75 : decode cX9_raiseLeast 75 = .ok (.iinc 3 1, 3) := by decide +kernel
theorem dX9_raiseLeast_78 : decode cX9_raiseLeast 78 = .ok (.goto (-62), 3) := by decide +kernel
theorem dX9_raiseLeast_81 : decode cX9_raiseLeast 81 = .ok (.iload_n 1, 1) := by decide +kernel
theorem dX9_raiseLeast_82 : decode cX9_raiseLeast 82 = .ok (.ifCond .ne 5, 3) := by decide +kernel
theorem dX9_raiseLeast_85 : decode cX9_raiseLeast 85 = .ok (.iconst 1, 1) := by decide +kernel
theorem dX9_raiseLeast_86 : decode cX9_raiseLeast 86 = .ok (.ireturn, 1) := by decide +kernel
theorem dX9_raiseLeast_87 : decode cX9_raiseLeast 87 = .ok (.iinc 2 1, 3) := by decide +kernel
theorem dX9_raiseLeast_90 : decode cX9_raiseLeast 90 = .ok (.goto (-86), 3) := by decide +kernel
theorem dX9_raiseLeast_93 : decode cX9_raiseLeast 93 = .ok (.iload_n 1, 1) := by decide +kernel
theorem dX9_raiseLeast_94 : decode cX9_raiseLeast 94 = .ok (.ifCond .ne 7, 3) := by decide +kernel
theorem dX9_raiseLeast_97 : decode cX9_raiseLeast 97 = .ok (.iconst 1, 1) := by decide +kernel
theorem dX9_raiseLeast_98 : decode cX9_raiseLeast 98 = .ok (.goto 4, 3) := by decide +kernel
theorem dX9_raiseLeast_101 : decode cX9_raiseLeast 101 = .ok (.iconst 0, 1) := by decide +kernel
theorem dX9_raiseLeast_102 : decode cX9_raiseLeast 102 = .ok (.ireturn, 1) := by decide +kernel
theorem dX9_lowerGreatest_0 : decode cX9_lowerGreatest 0 = .ok (.iconst 1, 1) := by decide +kernel
theorem dX9_lowerGreatest_1 : decode cX9_lowerGreatest 1 = .ok (.istore_n 1, 1) := by decide +kernel
theorem dX9_lowerGreatest_2 : decode cX9_lowerGreatest 2 = .ok (.iconst 0, 1) := by decide +kernel
theorem dX9_lowerGreatest_3 : decode cX9_lowerGreatest 3 = .ok (.istore_n 2, 1) := by decide +kernel
theorem dX9_lowerGreatest_4 : decode cX9_lowerGreatest 4 = .ok (.iload_n 2, 1) := by decide +kernel
theorem dX9_lowerGreatest_5 : decode cX9_lowerGreatest 5 = .ok (.aload_n 0, 1) := by decide +kernel
theorem dX9_lowerGreatest_6 : decode cX9_lowerGreatest 6 = .ok (.getfield 33, 3) := by decide +kernel
theorem dX9_lowerGreatest_9 : decode cX9_lowerGreatest 9 = .ok (.if_icmp .ge 82, 3) := by decide +kernel
theorem dX9_lowerGreatest_12 : decode cX9_lowerGreatest 12 = .ok (.iload_n 1, 1) := by decide +kernel
theorem dX9_lowerGreatest_13 : decode cX9_lowerGreatest 13 = .ok (.ifCond .eq 78, 3) := by decide +kernel
theorem dX9_lowerGreatest_16 : decode cX9_lowerGreatest 16 = .ok (.iconst 0, 1) := by decide +kernel
theorem dX9_lowerGreatest_17 : decode cX9_lowerGreatest 17 = .ok (.istore_n 1, 1) := by decide +kernel
theorem dX9_lowerGreatest_18 : decode cX9_lowerGreatest 18 = .ok (.iconst 0, 1) := by decide +kernel
theorem dX9_lowerGreatest_19 : decode cX9_lowerGreatest 19 = .ok (.istore_n 3, 1) := by decide +kernel
theorem dX9_lowerGreatest_20 : decode cX9_lowerGreatest 20 = .ok (.iload_n 3, 1) := by decide +kernel
theorem dX9_lowerGreatest_21 : decode cX9_lowerGreatest 21 = .ok (.aload_n 0, 1) := by decide +kernel
theorem dX9_lowerGreatest_22 : decode cX9_lowerGreatest 22 = .ok (.getfield 69, 3) := by decide +kernel
theorem dX9_lowerGreatest_25 : decode cX9_lowerGreatest 25 = .ok (.if_icmp .ge 60, 3) := by decide +kernel
theorem dX9_lowerGreatest_28 : decode cX9_lowerGreatest 28 = .ok (.aload_n 0, 1) := by decide +kernel
theorem dX9_lowerGreatest_29 : decode cX9_lowerGreatest 29 = .ok (.getfield 15, 3) := by decide +kernel
theorem dX9_lowerGreatest_32 : decode cX9_lowerGreatest 32 = .ok (.aload_n 0, 1) := by decide +kernel
theorem dX9_lowerGreatest_33 : decode cX9_lowerGreatest 33 = .ok (.getfield 21, 3) := by decide +kernel
theorem dX9_lowerGreatest_36 : decode cX9_lowerGreatest 36 = .ok (.iload_n 3, 1) := by decide +kernel
theorem dX9_lowerGreatest_37 : decode cX9_lowerGreatest 37 = .ok (.iaload, 1) := by decide +kernel
theorem dX9_lowerGreatest_38 : decode cX9_lowerGreatest 38 = .ok (.iaload, 1) := by decide +kernel
theorem dX9_lowerGreatest_39 : decode cX9_lowerGreatest 39 = .ok (.aload_n 0, 1) := by decide +kernel
theorem dX9_lowerGreatest_40 : decode cX9_lowerGreatest 40 = .ok (.getfield 24, 3) := by decide +kernel
theorem dX9_lowerGreatest_43 : decode cX9_lowerGreatest 43 = .ok (.iload_n 3, 1) := by decide +kernel
theorem dX9_lowerGreatest_44 : decode cX9_lowerGreatest 44 = .ok (.iaload, 1) := by decide +kernel
theorem dX9_lowerGreatest_45 : decode cX9_lowerGreatest 45 = .ok (.isub, 1) := by decide +kernel
theorem dX9_lowerGreatest_46 : decode cX9_lowerGreatest 46 = .ok (.istore 4, 2) := by decide +kernel
theorem dX9_lowerGreatest_48 : decode cX9_lowerGreatest 48 = .ok (.iload 4, 2) := by decide +kernel
theorem dX9_lowerGreatest_50 : decode cX9_lowerGreatest 50 = .ok (.aload_n 0, 1) := by decide +kernel
theorem dX9_lowerGreatest_51 : decode cX9_lowerGreatest 51 = .ok (.getfield 15, 3) := by decide +kernel
theorem dX9_lowerGreatest_54 : decode cX9_lowerGreatest 54 = .ok (.aload_n 0, 1) := by decide +kernel
theorem dX9_lowerGreatest_55 : decode cX9_lowerGreatest 55 = .ok (.getfield 18, 3) := by decide +kernel
theorem dX9_lowerGreatest_58 : decode cX9_lowerGreatest 58 = .ok (.iload_n 3, 1) := by decide +kernel
theorem dX9_lowerGreatest_59 : decode cX9_lowerGreatest 59 = .ok (.iaload, 1) := by decide +kernel
theorem dX9_lowerGreatest_60 : decode cX9_lowerGreatest 60 = .ok (.iaload, 1) := by decide +kernel
theorem dX9_lowerGreatest_61 : decode cX9_lowerGreatest 61 = .ok (.if_icmp .ge 18, 3) := by decide +kernel
theorem dX9_lowerGreatest_64 : decode cX9_lowerGreatest 64 = .ok (.aload_n 0, 1) := by decide +kernel
theorem dX9_lowerGreatest_65 : decode cX9_lowerGreatest 65 = .ok (.getfield 15, 3) := by decide +kernel
theorem dX9_lowerGreatest_68 : decode cX9_lowerGreatest 68 = .ok (.aload_n 0, 1) := by decide +kernel
theorem dX9_lowerGreatest_69 : decode cX9_lowerGreatest 69 = .ok (.getfield 18, 3) := by decide +kernel
theorem dX9_lowerGreatest_72 : decode cX9_lowerGreatest 72 = .ok (.iload_n 3, 1) := by decide +kernel
theorem dX9_lowerGreatest_73 : decode cX9_lowerGreatest 73 = .ok (.iaload, 1) := by decide +kernel
theorem dX9_lowerGreatest_74 : decode cX9_lowerGreatest 74 = .ok (.iload 4, 2) := by decide +kernel
theorem dX9_lowerGreatest_76 : decode cX9_lowerGreatest 76 = .ok (.iastore, 1) := by decide +kernel
theorem dX9_lowerGreatest_77 : decode cX9_lowerGreatest 77 = .ok (.iconst 1, 1) := by decide +kernel
theorem dX9_lowerGreatest_78 : decode cX9_lowerGreatest 78 = .ok (.istore_n 1, 1) := by decide +kernel
theorem dX9_lowerGreatest_79 : decode cX9_lowerGreatest 79 = .ok (.iinc 3 1, 3) := by decide +kernel
theorem dX9_lowerGreatest_82 : decode cX9_lowerGreatest 82 = .ok (.goto (-62), 3) := by decide +kernel
theorem dX9_lowerGreatest_85 : decode cX9_lowerGreatest 85 = .ok (.iinc 2 1, 3) := by decide +kernel
theorem dX9_lowerGreatest_88 : decode cX9_lowerGreatest 88 = .ok (.goto (-84), 3) := by decide +kernel
theorem dX9_lowerGreatest_91 : decode cX9_lowerGreatest 91 = .ok (.return_, 1) := by decide +kernel
theorem dX9_isCrossed_0 : decode cX9_isCrossed 0 = .ok (.iconst 0, 1) := by decide +kernel
theorem dX9_isCrossed_1 : decode cX9_isCrossed 1 = .ok (.istore_n 1, 1) := by decide +kernel
theorem dX9_isCrossed_2 : decode cX9_isCrossed 2 = .ok (.iload_n 1, 1) := by decide +kernel
theorem dX9_isCrossed_3 : decode cX9_isCrossed 3 = .ok (.aload_n 0, 1) := by decide +kernel
theorem dX9_isCrossed_4 : decode cX9_isCrossed 4 = .ok (.getfield 33, 3) := by decide +kernel
theorem dX9_isCrossed_7 : decode cX9_isCrossed 7 = .ok (.if_icmp .ge 26, 3) := by decide +kernel
theorem dX9_isCrossed_10 : decode cX9_isCrossed 10 = .ok (.aload_n 0, 1) := by decide +kernel
theorem dX9_isCrossed_11 : decode cX9_isCrossed 11 = .ok (.getfield 9, 3) := by decide +kernel
theorem dX9_isCrossed_14 : decode cX9_isCrossed 14 = .ok (.iload_n 1, 1) := by decide +kernel
theorem dX9_isCrossed_15 : decode cX9_isCrossed 15 = .ok (.iaload, 1) := by decide +kernel
theorem dX9_isCrossed_16 : decode cX9_isCrossed 16 = .ok (.aload_n 0, 1) := by decide +kernel
theorem dX9_isCrossed_17 : decode cX9_isCrossed 17 = .ok (.getfield 15, 3) := by decide +kernel
theorem dX9_isCrossed_20 : decode cX9_isCrossed 20 = .ok (.iload_n 1, 1) := by decide +kernel
theorem dX9_isCrossed_21 : decode cX9_isCrossed 21 = .ok (.iaload, 1) := by decide +kernel
theorem dX9_isCrossed_22 : decode cX9_isCrossed 22 = .ok (.if_icmp .le 5, 3) := by decide +kernel
theorem dX9_isCrossed_25 : decode cX9_isCrossed 25 = .ok (.iconst 1, 1) := by decide +kernel
theorem dX9_isCrossed_26 : decode cX9_isCrossed 26 = .ok (.ireturn, 1) := by decide +kernel
theorem dX9_isCrossed_27 : decode cX9_isCrossed 27 = .ok (.iinc 1 1, 3) := by decide +kernel
theorem dX9_isCrossed_30 : decode cX9_isCrossed 30 = .ok (.goto (-28), 3) := by decide +kernel
theorem dX9_isCrossed_33 : decode cX9_isCrossed 33 = .ok (.iconst 0, 1) := by decide +kernel
theorem dX9_isCrossed_34 : decode cX9_isCrossed 34 = .ok (.ireturn, 1) := by decide +kernel
theorem dX9_spoiledBit_0 : decode cX9_spoiledBit 0 = .ok (.aload_n 0, 1) := by decide +kernel
theorem dX9_spoiledBit_1 : decode cX9_spoiledBit 1 = .ok (.getfield 51, 3) := by decide +kernel
theorem dX9_spoiledBit_4 : decode cX9_spoiledBit 4 = .ok (.ifCond .eq 7, 3) := by decide +kernel
theorem dX9_spoiledBit_7 : decode cX9_spoiledBit 7 = .ok (.iconst 1, 1) := by decide +kernel
theorem dX9_spoiledBit_8 : decode cX9_spoiledBit 8 = .ok (.goto 4, 3) := by decide +kernel
theorem dX9_spoiledBit_11 : decode cX9_spoiledBit 11 = .ok (.iconst 0, 1) := by decide +kernel
theorem dX9_spoiledBit_12 : decode cX9_spoiledBit 12 = .ok (.ireturn, 1) := by decide +kernel
theorem dX9_isKnown_0 : decode cX9_isKnown 0 = .ok (.aload_n 0, 1) := by decide +kernel
theorem dX9_isKnown_1 : decode cX9_isKnown 1 = .ok (.getfield 51, 3) := by decide +kernel
theorem dX9_isKnown_4 : decode cX9_isKnown 4 = .ok (.ifCond .ne 19, 3) := by decide +kernel
theorem dX9_isKnown_7 : decode cX9_isKnown 7 = .ok (.iload_n 1, 1) := by decide +kernel
theorem dX9_isKnown_8 : decode cX9_isKnown 8 = .ok (.ifCond .lt 15, 3) := by decide +kernel
theorem dX9_isKnown_11 : decode cX9_isKnown 11 = .ok (.iload_n 1, 1) := by decide +kernel
theorem dX9_isKnown_12 : decode cX9_isKnown 12 = .ok (.aload_n 0, 1) := by decide +kernel
theorem dX9_isKnown_13 : decode cX9_isKnown 13 = .ok (.getfield 33, 3) := by decide +kernel
theorem dX9_isKnown_16 : decode cX9_isKnown 16 = .ok (.if_icmp .ge 7, 3) := by decide +kernel
theorem dX9_isKnown_19 : decode cX9_isKnown 19 = .ok (.iconst 1, 1) := by decide +kernel
theorem dX9_isKnown_20 : decode cX9_isKnown 20 = .ok (.goto 4, 3) := by decide +kernel
theorem dX9_isKnown_23 : decode cX9_isKnown 23 = .ok (.iconst 0, 1) := by decide +kernel
theorem dX9_isKnown_24 : decode cX9_isKnown 24 = .ok (.ireturn, 1) := by decide +kernel
set_option maxRecDepth 20000 in
theorem ggX9_leastOf_X9_isKnown : GoodIn wsX9_leastOf wsX9_isKnown := goodIn_r _ [6, 7, 8, 9, 10, 11, 12, 13, 14, 15, 16] (by decide +kernel) (by decide +kernel)
set_option maxRecDepth 20000 in
theorem gX9_leastOf_X9_isKnown : GoodIn wsX9_leastOf (wsV RX9 76 RX9 yX9_isKnown wsX9_isKnown) := goodIn_app (goodIn_of _ (by decide +kernel)) ggX9_leastOf_X9_isKnown
theorem dX9_leastOf_0 : decode cX9_leastOf 0 = .ok (.aload_n 0, 1) := by decide +kernel
theorem dX9_leastOf_1 : decode cX9_leastOf 1 = .ok (.iload_n 1, 1) := by decide +kernel
theorem dX9_leastOf_2 : decode cX9_leastOf 2 = .ok (.invokevirtual 76, 3) := by decide +kernel
theorem dX9_leastOf_5 : decode cX9_leastOf 5 = .ok (.ifCond .eq 12, 3) := by decide +kernel
theorem dX9_leastOf_8 : decode cX9_leastOf 8 = .ok (.aload_n 0, 1) := by decide +kernel
theorem dX9_leastOf_9 : decode cX9_leastOf 9 = .ok (.getfield 9, 3) := by decide +kernel
theorem dX9_leastOf_12 : decode cX9_leastOf 12 = .ok (.iload_n 1, 1) := by decide +kernel
theorem dX9_leastOf_13 : decode cX9_leastOf 13 = .ok (.iaload, 1) := by decide +kernel
theorem dX9_leastOf_14 : decode cX9_leastOf 14 = .ok (.goto 4, 3) := by decide +kernel
theorem dX9_leastOf_17 : decode cX9_leastOf 17 = .ok (.iconst (-1), 1) := by decide +kernel
theorem dX9_leastOf_18 : decode cX9_leastOf 18 = .ok (.ireturn, 1) := by decide +kernel
set_option maxRecDepth 20000 in
theorem ggX9_greatestOf_X9_isKnown : GoodIn wsX9_greatestOf wsX9_isKnown := goodIn_r _ [6, 7, 8, 9, 10, 11, 12, 13, 14, 15, 16] (by decide +kernel) (by decide +kernel)
set_option maxRecDepth 20000 in
theorem gX9_greatestOf_X9_isKnown : GoodIn wsX9_greatestOf (wsV RX9 76 RX9 yX9_isKnown wsX9_isKnown) := goodIn_app (goodIn_of _ (by decide +kernel)) ggX9_greatestOf_X9_isKnown
theorem dX9_greatestOf_0 : decode cX9_greatestOf 0 = .ok (.aload_n 0, 1) := by decide +kernel
theorem dX9_greatestOf_1 : decode cX9_greatestOf 1 = .ok (.iload_n 1, 1) := by decide +kernel
theorem dX9_greatestOf_2 : decode cX9_greatestOf 2 = .ok (.invokevirtual 76, 3) := by decide +kernel
theorem dX9_greatestOf_5 : decode cX9_greatestOf 5 = .ok (.ifCond .eq 12, 3) := by decide +kernel
theorem dX9_greatestOf_8 : decode cX9_greatestOf 8 = .ok (.aload_n 0, 1) := by decide +kernel
theorem dX9_greatestOf_9 : decode cX9_greatestOf 9 = .ok (.getfield 15, 3) := by decide +kernel
theorem dX9_greatestOf_12 : decode cX9_greatestOf 12 = .ok (.iload_n 1, 1) := by decide +kernel
theorem dX9_greatestOf_13 : decode cX9_greatestOf 13 = .ok (.iaload, 1) := by decide +kernel
theorem dX9_greatestOf_14 : decode cX9_greatestOf 14 = .ok (.goto 4, 3) := by decide +kernel
theorem dX9_greatestOf_17 : decode cX9_greatestOf 17 = .ok (.iconst (-1), 1) := by decide +kernel
theorem dX9_greatestOf_18 : decode cX9_greatestOf 18 = .ok (.ireturn, 1) := by decide +kernel
set_option maxRecDepth 20000 in
theorem ggX9_leastBirth_X9_birth : GoodIn wsX9_leastBirth wsX9_birth := goodIn_r _ [4] (by decide +kernel) (by decide +kernel)
set_option maxRecDepth 20000 in
theorem gX9_leastBirth_X9_birth : GoodIn wsX9_leastBirth (va_wsS RX9 58 yX9_birth wsX9_birth) := goodIn_app (goodIn_of _ (by decide +kernel)) ggX9_leastBirth_X9_birth
set_option maxRecDepth 20000 in
theorem ggX9_leastBirth_X9_leastOf : GoodIn wsX9_leastBirth wsX9_leastOf := goodIn_r _ [8, 9, 10, 11, 12, 3, 13, 14, 15, 16, 17, 18, 19, 20, 21, 22, 23] (by decide +kernel) (by decide +kernel)
set_option maxRecDepth 20000 in
theorem gX9_leastBirth_X9_leastOf : GoodIn wsX9_leastBirth (wsV RX9 80 RX9 yX9_leastOf wsX9_leastOf) := goodIn_app (goodIn_of _ (by decide +kernel)) ggX9_leastBirth_X9_leastOf
theorem dX9_leastBirth_0 : decode cX9_leastBirth 0 = .ok (.aload_n 0, 1) := by decide +kernel
theorem dX9_leastBirth_1 : decode cX9_leastBirth 1 = .ok (.iload_n 1, 1) := by decide +kernel
theorem dX9_leastBirth_2 : decode cX9_leastBirth 2 = .ok (.invokestatic 58, 3) := by decide +kernel
theorem dX9_leastBirth_5 : decode cX9_leastBirth 5 = .ok (.invokevirtual 80, 3) := by decide +kernel
theorem dX9_leastBirth_8 : decode cX9_leastBirth 8 = .ok (.ireturn, 1) := by decide +kernel
set_option maxRecDepth 20000 in
theorem ggX9_greatestBirth_X9_birth : GoodIn wsX9_greatestBirth wsX9_birth := goodIn_r _ [4] (by decide +kernel) (by decide +kernel)
set_option maxRecDepth 20000 in
theorem gX9_greatestBirth_X9_birth : GoodIn wsX9_greatestBirth (va_wsS RX9 58 yX9_birth wsX9_birth) := goodIn_app (goodIn_of _ (by decide +kernel)) ggX9_greatestBirth_X9_birth
set_option maxRecDepth 20000 in
theorem ggX9_greatestBirth_X9_greatestOf : GoodIn wsX9_greatestBirth wsX9_greatestOf := goodIn_r _ [8, 9, 10, 11, 12, 3, 13, 14, 15, 16, 17, 18, 19, 20, 21, 22, 23] (by decide +kernel) (by decide +kernel)
set_option maxRecDepth 20000 in
theorem gX9_greatestBirth_X9_greatestOf : GoodIn wsX9_greatestBirth (wsV RX9 83 RX9 yX9_greatestOf wsX9_greatestOf) := goodIn_app (goodIn_of _ (by decide +kernel)) ggX9_greatestBirth_X9_greatestOf
theorem dX9_greatestBirth_0 : decode cX9_greatestBirth 0 = .ok (.aload_n 0, 1) := by decide +kernel
theorem dX9_greatestBirth_1 : decode cX9_greatestBirth 1 = .ok (.iload_n 1, 1) := by decide +kernel
theorem dX9_greatestBirth_2 : decode cX9_greatestBirth 2 = .ok (.invokestatic 58, 3) := by decide +kernel
theorem dX9_greatestBirth_5 : decode cX9_greatestBirth 5 = .ok (.invokevirtual 83, 3) := by decide +kernel
theorem dX9_greatestBirth_8 : decode cX9_greatestBirth 8 = .ok (.ireturn, 1) := by decide +kernel
set_option maxRecDepth 20000 in
theorem ggX9_leastDeath_X9_death : GoodIn wsX9_leastDeath wsX9_death := goodIn_r _ [4] (by decide +kernel) (by decide +kernel)
set_option maxRecDepth 20000 in
theorem gX9_leastDeath_X9_death : GoodIn wsX9_leastDeath (va_wsS RX9 66 yX9_death wsX9_death) := goodIn_app (goodIn_of _ (by decide +kernel)) ggX9_leastDeath_X9_death
set_option maxRecDepth 20000 in
theorem ggX9_leastDeath_X9_leastOf : GoodIn wsX9_leastDeath wsX9_leastOf := goodIn_r _ [8, 9, 10, 11, 12, 3, 13, 14, 15, 16, 17, 18, 19, 20, 21, 22, 23] (by decide +kernel) (by decide +kernel)
set_option maxRecDepth 20000 in
theorem gX9_leastDeath_X9_leastOf : GoodIn wsX9_leastDeath (wsV RX9 80 RX9 yX9_leastOf wsX9_leastOf) := goodIn_app (goodIn_of _ (by decide +kernel)) ggX9_leastDeath_X9_leastOf
theorem dX9_leastDeath_0 : decode cX9_leastDeath 0 = .ok (.aload_n 0, 1) := by decide +kernel
theorem dX9_leastDeath_1 : decode cX9_leastDeath 1 = .ok (.iload_n 1, 1) := by decide +kernel
theorem dX9_leastDeath_2 : decode cX9_leastDeath 2 = .ok (.invokestatic 66, 3) := by decide +kernel
theorem dX9_leastDeath_5 : decode cX9_leastDeath 5 = .ok (.invokevirtual 80, 3) := by decide +kernel
theorem dX9_leastDeath_8 : decode cX9_leastDeath 8 = .ok (.ireturn, 1) := by decide +kernel
set_option maxRecDepth 20000 in
theorem ggX9_greatestDeath_X9_death : GoodIn wsX9_greatestDeath wsX9_death := goodIn_r _ [4] (by decide +kernel) (by decide +kernel)
set_option maxRecDepth 20000 in
theorem gX9_greatestDeath_X9_death : GoodIn wsX9_greatestDeath (va_wsS RX9 66 yX9_death wsX9_death) := goodIn_app (goodIn_of _ (by decide +kernel)) ggX9_greatestDeath_X9_death
set_option maxRecDepth 20000 in
theorem ggX9_greatestDeath_X9_greatestOf : GoodIn wsX9_greatestDeath wsX9_greatestOf := goodIn_r _ [8, 9, 10, 11, 12, 3, 13, 14, 15, 16, 17, 18, 19, 20, 21, 22, 23] (by decide +kernel) (by decide +kernel)
set_option maxRecDepth 20000 in
theorem gX9_greatestDeath_X9_greatestOf : GoodIn wsX9_greatestDeath (wsV RX9 83 RX9 yX9_greatestOf wsX9_greatestOf) := goodIn_app (goodIn_of _ (by decide +kernel)) ggX9_greatestDeath_X9_greatestOf
theorem dX9_greatestDeath_0 : decode cX9_greatestDeath 0 = .ok (.aload_n 0, 1) := by decide +kernel
theorem dX9_greatestDeath_1 : decode cX9_greatestDeath 1 = .ok (.iload_n 1, 1) := by decide +kernel
theorem dX9_greatestDeath_2 : decode cX9_greatestDeath 2 = .ok (.invokestatic 66, 3) := by decide +kernel
theorem dX9_greatestDeath_5 : decode cX9_greatestDeath 5 = .ok (.invokevirtual 83, 3) := by decide +kernel
theorem dX9_greatestDeath_8 : decode cX9_greatestDeath 8 = .ok (.ireturn, 1) := by decide +kernel
set_option maxRecDepth 20000 in
theorem ggX9_diedBetween_X9_leastDeath : GoodIn wsX9_diedBetween wsX9_leastDeath := goodIn_r _ [6, 7, 8, 5, 9, 10, 11, 12, 13, 14, 15, 16, 17, 18, 1, 19, 29, 30, 31, 32, 33, 34, 35, 36] (by decide +kernel) (by decide +kernel)
set_option maxRecDepth 20000 in
theorem gX9_diedBetween_X9_leastDeath : GoodIn wsX9_diedBetween (wsV RX9 86 RX9 yX9_leastDeath wsX9_leastDeath) := goodIn_app (goodIn_of _ (by decide +kernel)) ggX9_diedBetween_X9_leastDeath
set_option maxRecDepth 20000 in
theorem ggX9_diedBetween_X9_greatestDeath : GoodIn wsX9_diedBetween wsX9_greatestDeath := goodIn_r _ [23, 7, 8, 5, 9, 24, 25, 26, 27, 28, 15, 16, 17, 18, 1, 19, 29, 30, 31, 32, 33, 34, 35, 36] (by decide +kernel) (by decide +kernel)
set_option maxRecDepth 20000 in
theorem gX9_diedBetween_X9_greatestDeath : GoodIn wsX9_diedBetween (wsV RX9 89 RX9 yX9_greatestDeath wsX9_greatestDeath) := goodIn_app (goodIn_of _ (by decide +kernel)) ggX9_diedBetween_X9_greatestDeath
theorem dX9_diedBetween_0 : decode cX9_diedBetween 0 = .ok (.iconst 0, 1) := by decide +kernel
theorem dX9_diedBetween_1 : decode cX9_diedBetween 1 = .ok (.istore 4, 2) := by decide +kernel
theorem dX9_diedBetween_3 : decode cX9_diedBetween 3 = .ok (.iconst 0, 1) := by decide +kernel
theorem dX9_diedBetween_4 : decode cX9_diedBetween 4 = .ok (.istore 5, 2) := by decide +kernel
theorem dX9_diedBetween_6 : decode cX9_diedBetween 6 = .ok (.iload 5, 2) := by decide +kernel
theorem dX9_diedBetween_8 : decode cX9_diedBetween 8 = .ok (.iload_n 1, 1) := by decide +kernel
theorem dX9_diedBetween_9 : decode cX9_diedBetween 9 = .ok (.if_icmp .ge 45, 3) := by decide +kernel
theorem dX9_diedBetween_12 : decode cX9_diedBetween 12 = .ok (.aload_n 0, 1) := by decide +kernel
theorem dX9_diedBetween_13 : decode cX9_diedBetween 13 = .ok (.getfield 51, 3) := by decide +kernel
theorem dX9_diedBetween_16 : decode cX9_diedBetween 16 = .ok (.ifCond .ne 38, 3) := by decide +kernel
theorem dX9_diedBetween_19 : decode cX9_diedBetween 19 = .ok (.aload_n 0, 1) := by decide +kernel
theorem dX9_diedBetween_20 : decode cX9_diedBetween 20 = .ok (.iload 5, 2) := by decide +kernel
theorem dX9_diedBetween_22 : decode cX9_diedBetween 22 = .ok (.invokevirtual 86, 3) := by decide +kernel
theorem dX9_diedBetween_25 : decode cX9_diedBetween 25 = .ok (.iload_n 3, 1) := by decide +kernel
theorem dX9_diedBetween_26 : decode cX9_diedBetween 26 = .ok (.if_icmp .gt 22, 3) := by decide +kernel
theorem dX9_diedBetween_29 : decode cX9_diedBetween 29 = .ok (.aload_n 0, 1) := by decide +kernel
theorem dX9_diedBetween_30 : decode cX9_diedBetween 30 = .ok (.iload 5, 2) := by decide +kernel
theorem dX9_diedBetween_32 : decode cX9_diedBetween 32 = .ok (.invokevirtual 89, 3) := by decide +kernel
theorem dX9_diedBetween_35 : decode cX9_diedBetween 35 = .ok (.iload_n 2, 1) := by decide +kernel
theorem dX9_diedBetween_36 : decode cX9_diedBetween 36 = .ok (.if_icmp .lt 12, 3) := by decide +kernel
theorem dX9_diedBetween_39 : decode cX9_diedBetween 39 = .ok (.iload 4, 2) := by decide +kernel
theorem dX9_diedBetween_41 : decode cX9_diedBetween 41 = .ok (.iconst 1, 1) := by decide +kernel
theorem dX9_diedBetween_42 : decode cX9_diedBetween 42 = .ok (.iload 5, 2) := by decide +kernel
theorem dX9_diedBetween_44 : decode cX9_diedBetween 44 = .ok (.ishl, 1) := by decide +kernel
theorem dX9_diedBetween_45 : decode cX9_diedBetween 45 = .ok (.ior, 1) := by decide +kernel
theorem dX9_diedBetween_46 : decode cX9_diedBetween 46 = .ok (.istore 4, 2) := by decide +kernel
theorem dX9_diedBetween_48 : decode cX9_diedBetween 48 = .ok (.iinc 5 1, 3) := by decide +kernel
theorem dX9_diedBetween_51 : decode cX9_diedBetween 51 = .ok (.goto (-45), 3) := by decide +kernel
theorem dX9_diedBetween_54 : decode cX9_diedBetween 54 = .ok (.iload 4, 2) := by decide +kernel
theorem dX9_diedBetween_56 : decode cX9_diedBetween 56 = .ok (.ireturn, 1) := by decide +kernel
set_option maxRecDepth 20000 in
theorem ggX10_init_X7_init : GoodIn wsX10_init wsX7_init := goodIn_r _ [42, 43, 2, 3, 44, 45, 115] (by decide +kernel) (by decide +kernel)
set_option maxRecDepth 20000 in
theorem gX10_init_X7_init : GoodIn wsX10_init (wsX7_init) := ggX10_init_X7_init
set_option maxRecDepth 20000 in
theorem ggX10_init_X1_init : GoodIn wsX10_init wsX1_init := goodIn_r _ [48, 49, 2, 3, 44, 50, 51, 52, 125, 126, 127, 128, 129] (by decide +kernel) (by decide +kernel)
set_option maxRecDepth 20000 in
theorem gX10_init_X1_init : GoodIn wsX10_init (wsX1_init) := ggX10_init_X1_init
set_option maxRecDepth 20000 in
theorem ggX10_init_X9_init : GoodIn wsX10_init wsX9_init := goodIn_r _ [55, 56, 2, 3, 44, 57, 58, 59, 60, 61, 130, 131, 132, 133, 134, 135, 136, 137] (by decide +kernel) (by decide +kernel)
set_option maxRecDepth 20000 in
theorem gX10_init_X9_init : GoodIn wsX10_init (wsX9_init) := ggX10_init_X9_init
set_option maxRecDepth 20000 in
theorem ggX10_init_X8_init : GoodIn wsX10_init wsX8_init := goodIn_r _ [64, 65, 2, 3, 44, 66, 138] (by decide +kernel) (by decide +kernel)
set_option maxRecDepth 20000 in
theorem gX10_init_X8_init : GoodIn wsX10_init (wsX8_init) := ggX10_init_X8_init
set_option maxRecDepth 20000 in
theorem ggX10_init_X4_init : GoodIn wsX10_init wsX4_init := goodIn_r _ [69, 70, 2, 3, 44, 71, 72, 73, 74, 139, 140, 141, 142] (by decide +kernel) (by decide +kernel)
set_option maxRecDepth 20000 in
theorem gX10_init_X4_init : GoodIn wsX10_init (wsX4_init) := ggX10_init_X4_init
set_option maxRecDepth 20000 in
theorem ggX10_init_X0_init : GoodIn wsX10_init wsX0_init := goodIn_r _ [77, 78, 2, 3, 44, 79, 80, 81, 143, 144, 145, 146] (by decide +kernel) (by decide +kernel)
set_option maxRecDepth 20000 in
theorem gX10_init_X0_init : GoodIn wsX10_init (wsX0_init) := ggX10_init_X0_init
set_option maxRecDepth 20000 in
theorem ggX10_init_X5_init : GoodIn wsX10_init wsX5_init := goodIn_r _ [84, 85, 2, 3, 86, 87, 88, 89, 90, 91, 92, 93, 94, 95, 96, 97, 98, 44, 99, 154, 155, 147, 148, 149] (by decide +kernel) (by decide +kernel)
set_option maxRecDepth 20000 in
theorem gX10_init_X5_init : GoodIn wsX10_init (wsX5_init) := ggX10_init_X5_init
set_option maxRecDepth 20000 in
theorem ggX10_init_X3_init : GoodIn wsX10_init wsX3_init := goodIn_r _ [102, 103, 2, 3, 104, 87, 88, 105, 44, 106, 107, 108, 109, 91, 92, 93, 94, 95, 96, 97, 98, 99, 154, 155, 150, 151, 152] (by decide +kernel) (by decide +kernel)
set_option maxRecDepth 20000 in
theorem gX10_init_X3_init : GoodIn wsX10_init (wsX3_init) := ggX10_init_X3_init
set_option maxRecDepth 20000 in
theorem ggX10_init_X2_init : GoodIn wsX10_init wsX2_init := goodIn_r _ [112, 113, 2, 3, 114, 153] (by decide +kernel) (by decide +kernel)
set_option maxRecDepth 20000 in
theorem gX10_init_X2_init : GoodIn wsX10_init (wsX2_init) := ggX10_init_X2_init
