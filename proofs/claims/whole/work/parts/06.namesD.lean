theorem dX11_init_0 : decode cX11_init 0 = .ok (.aload_n 0, 1) := by decide +kernel
theorem dX11_init_1 : decode cX11_init 1 = .ok (.invokespecial 1, 3) := by decide +kernel
theorem dX11_init_4 : decode cX11_init 4 = .ok (.aload_n 0, 1) := by decide +kernel
theorem dX11_init_5 : decode cX11_init 5 = .ok (.sipush 3243, 3) := by decide +kernel
theorem dX11_init_8 : decode cX11_init 8 = .ok (.newarray .int, 2) := by decide +kernel
theorem dX11_init_10 : decode cX11_init 10 = .ok (.putfield 7, 3) := by decide +kernel
theorem dX11_init_13 : decode cX11_init 13 = .ok (.aload_n 0, 1) := by decide +kernel
theorem dX11_init_14 : decode cX11_init 14 = .ok (.iconst 2, 1) := by decide +kernel
theorem dX11_init_15 : decode cX11_init 15 = .ok (.newarray .int, 2) := by decide +kernel
theorem dX11_init_17 : decode cX11_init 17 = .ok (.putfield 13, 3) := by decide +kernel
theorem dX11_init_20 : decode cX11_init 20 = .ok (.aload_n 0, 1) := by decide +kernel
theorem dX11_init_21 : decode cX11_init 21 = .ok (.iconst 2, 1) := by decide +kernel
theorem dX11_init_22 : decode cX11_init 22 = .ok (.newarray .boolean, 2) := by decide +kernel
theorem dX11_init_24 : decode cX11_init 24 = .ok (.putfield 16, 3) := by decide +kernel
theorem dX11_init_27 : decode cX11_init 27 = .ok (.aload_n 0, 1) := by decide +kernel
theorem dX11_init_28 : decode cX11_init 28 = .ok (.bipush 20, 2) := by decide +kernel
theorem dX11_init_30 : decode cX11_init 30 = .ok (.newarray .int, 2) := by decide +kernel
theorem dX11_init_32 : decode cX11_init 32 = .ok (.putfield 20, 3) := by decide +kernel
theorem dX11_init_35 : decode cX11_init 35 = .ok (.aload_n 0, 1) := by decide +kernel
theorem dX11_init_36 : decode cX11_init 36 = .ok (.bipush 20, 2) := by decide +kernel
theorem dX11_init_38 : decode cX11_init 38 = .ok (.newarray .int, 2) := by decide +kernel
theorem dX11_init_40 : decode cX11_init 40 = .ok (.putfield 23, 3) := by decide +kernel
theorem dX11_init_43 : decode cX11_init 43 = .ok (.aload_n 0, 1) := by decide +kernel
theorem dX11_init_44 : decode cX11_init 44 = .ok (.bipush 20, 2) := by decide +kernel
theorem dX11_init_46 : decode cX11_init 46 = .ok (.newarray .int, 2) := by decide +kernel
theorem dX11_init_48 : decode cX11_init 48 = .ok (.putfield 26, 3) := by decide +kernel
theorem dX11_init_51 : decode cX11_init 51 = .ok (.aload_n 0, 1) := by decide +kernel
theorem dX11_init_52 : decode cX11_init 52 = .ok (.bipush 17, 2) := by decide +kernel
theorem dX11_init_54 : decode cX11_init 54 = .ok (.newarray .int, 2) := by decide +kernel
theorem dX11_init_56 : decode cX11_init 56 = .ok (.putfield 29, 3) := by decide +kernel
theorem dX11_init_59 : decode cX11_init 59 = .ok (.aload_n 0, 1) := by decide +kernel
theorem dX11_init_60 : decode cX11_init 60 = .ok (.sipush 170, 3) := by decide +kernel
theorem dX11_init_63 : decode cX11_init 63 = .ok (.newarray .int, 2) := by decide +kernel
theorem dX11_init_65 : decode cX11_init 65 = .ok (.putfield 32, 3) := by decide +kernel
theorem dX11_init_68 : decode cX11_init 68 = .ok (.aload_n 0, 1) := by decide +kernel
theorem dX11_init_69 : decode cX11_init 69 = .ok (.sipush 170, 3) := by decide +kernel
theorem dX11_init_72 : decode cX11_init 72 = .ok (.newarray .int, 2) := by decide +kernel
theorem dX11_init_74 : decode cX11_init 74 = .ok (.putfield 35, 3) := by decide +kernel
theorem dX11_init_77 : decode cX11_init 77 = .ok (.aload_n 0, 1) := by decide +kernel
theorem dX11_init_78 : decode cX11_init 78 = .ok (.bipush 32, 2) := by decide +kernel
theorem dX11_init_80 : decode cX11_init 80 = .ok (.newarray .int, 2) := by decide +kernel
theorem dX11_init_82 : decode cX11_init 82 = .ok (.putfield 38, 3) := by decide +kernel
theorem dX11_init_85 : decode cX11_init 85 = .ok (.aload_n 0, 1) := by decide +kernel
theorem dX11_init_86 : decode cX11_init 86 = .ok (.bipush 32, 2) := by decide +kernel
theorem dX11_init_88 : decode cX11_init 88 = .ok (.newarray .int, 2) := by decide +kernel
theorem dX11_init_90 : decode cX11_init 90 = .ok (.putfield 41, 3) := by decide +kernel
theorem dX11_init_93 : decode cX11_init 93 = .ok (.aload_n 0, 1) := by decide +kernel
theorem dX11_init_94 : decode cX11_init 94 = .ok (.bipush 11, 2) := by decide +kernel
theorem dX11_init_96 : decode cX11_init 96 = .ok (.newarray .int, 2) := by decide +kernel
theorem dX11_init_98 : decode cX11_init 98 = .ok (.putfield 44, 3) := by decide +kernel
theorem dX11_init_101 : decode cX11_init 101 = .ok (.aload_n 0, 1) := by decide +kernel
theorem dX11_init_102 : decode cX11_init 102 = .ok (.bipush 16, 2) := by decide +kernel
theorem dX11_init_104 : decode cX11_init 104 = .ok (.newarray .int, 2) := by decide +kernel
theorem dX11_init_106 : decode cX11_init 106 = .ok (.putfield 47, 3) := by decide +kernel
theorem dX11_init_109 : decode cX11_init 109 = .ok (.aload_n 0, 1) := by decide +kernel
theorem dX11_init_110 : decode cX11_init 110 = .ok (.bipush 16, 2) := by decide +kernel
theorem dX11_init_112 : decode cX11_init 112 = .ok (.newarray .int, 2) := by decide +kernel
theorem dX11_init_114 : decode cX11_init 114 = .ok (.putfield 50, 3) := by decide +kernel
theorem dX11_init_117 : decode cX11_init 117 = .ok (.return_, 1) := by decide +kernel
theorem dX11_in_0 : decode cX11_in 0 = .ok (.lload_n 0, 1) := by decide +kernel
theorem dX11_in_1 : decode cX11_in 1 = .ok (.lload_n 2, 1) := by decide +kernel
theorem dX11_in_2 : decode cX11_in 2 = .ok (.lcmp, 1) := by decide +kernel
theorem dX11_in_3 : decode cX11_in 3 = .ok (.ifCond .lt 14, 3) := by decide +kernel
theorem dX11_in_6 : decode cX11_in 6 = .ok (.lload_n 0, 1) := by decide +kernel
theorem dX11_in_7 : decode cX11_in 7 = .ok (.lload 4, 2) := by decide +kernel
theorem dX11_in_9 : decode cX11_in 9 = .ok (.lcmp, 1) := by decide +kernel
theorem dX11_in_10 : decode cX11_in 10 = .ok (.ifCond .gt 7, 3) := by decide +kernel
theorem dX11_in_13 : decode cX11_in 13 = .ok (.iconst 1, 1) := by decide +kernel
theorem dX11_in_14 : decode cX11_in 14 = .ok (.goto 4, 3) := by decide +kernel
theorem dX11_in_17 : decode cX11_in 17 = .ok (.iconst 0, 1) := by decide +kernel
theorem dX11_in_18 : decode cX11_in 18 = .ok (.ireturn, 1) := by decide +kernel
theorem dX11_copy_0 : decode cX11_copy 0 = .ok (.iconst 0, 1) := by decide +kernel
theorem dX11_copy_1 : decode cX11_copy 1 = .ok (.istore_n 3, 1) := by decide +kernel
theorem dX11_copy_2 : decode cX11_copy 2 = .ok (.iload_n 3, 1) := by decide +kernel
theorem dX11_copy_3 : decode cX11_copy 3 = .ok (.sipush 141, 3) := by decide +kernel
theorem dX11_copy_6 : decode cX11_copy 6 = .ok (.if_icmp .ge 25, 3) := by decide +kernel
theorem dX11_copy_9 : decode cX11_copy 9 = .ok (.aload_n 0, 1) := by decide +kernel
theorem dX11_copy_10 : decode cX11_copy 10 = .ok (.getfield 7, 3) := by decide +kernel
theorem dX11_copy_13 : decode cX11_copy 13 = .ok (.iload_n 2, 1) := by decide +kernel
theorem dX11_copy_14 : decode cX11_copy 14 = .ok (.iload_n 3, 1) := by decide +kernel
theorem dX11_copy_15 : decode cX11_copy 15 = .ok (.iadd, 1) := by decide +kernel
theorem dX11_copy_16 : decode cX11_copy 16 = .ok (.aload_n 0, 1) := by decide +kernel
theorem dX11_copy_17 : decode cX11_copy 17 = .ok (.getfield 7, 3) := by decide +kernel
theorem dX11_copy_20 : decode cX11_copy 20 = .ok (.iload_n 1, 1) := by decide +kernel
theorem dX11_copy_21 : decode cX11_copy 21 = .ok (.iload_n 3, 1) := by decide +kernel
theorem dX11_copy_22 : decode cX11_copy 22 = .ok (.iadd, 1) := by decide +kernel
theorem dX11_copy_23 : decode cX11_copy 23 = .ok (.iaload, 1) := by decide +kernel
theorem dX11_copy_24 : decode cX11_copy 24 = .ok (.iastore, 1) := by decide +kernel
theorem dX11_copy_25 : decode cX11_copy 25 = .ok (.iinc 3 1, 3) := by decide +kernel
theorem dX11_copy_28 : decode cX11_copy 28 = .ok (.goto (-26), 3) := by decide +kernel
theorem dX11_copy_31 : decode cX11_copy 31 = .ok (.return_, 1) := by decide +kernel
set_option maxRecDepth 20000 in
theorem ggX11_minds_X11_copy : GoodIn wsX11_minds wsX11_copy := goodIn_r _ [7, 2, 8, 9, 10, 11, 12, 13, 14, 15, 16, 17, 18, 19, 20, 21, 22, 23, 24, 25] (by decide +kernel) (by decide +kernel)
set_option maxRecDepth 20000 in
theorem gX11_minds_X11_copy : GoodIn wsX11_minds (wsV RX11 57 RX11 yX11_copy wsX11_copy) := goodIn_app (goodIn_of _ (by decide +kernel)) ggX11_minds_X11_copy
theorem dX11_minds_0 : decode cX11_minds 0 = .ok (.aload_n 0, 1) := by decide +kernel
theorem dX11_minds_1 : decode cX11_minds 1 = .ok (.getfield 53, 3) := by decide +kernel
theorem dX11_minds_4 : decode cX11_minds 4 = .ok (.bipush 20, 2) := by decide +kernel
theorem dX11_minds_6 : decode cX11_minds 6 = .ok (.if_icmp .ne 52, 3) := by decide +kernel
theorem dX11_minds_9 : decode cX11_minds 9 = .ok (.iconst 0, 1) := by decide +kernel
theorem dX11_minds_10 : decode cX11_minds 10 = .ok (.istore_n 1, 1) := by decide +kernel
theorem dX11_minds_11 : decode cX11_minds 11 = .ok (.iload_n 1, 1) := by decide +kernel
theorem dX11_minds_12 : decode cX11_minds 12 = .ok (.sipush 2679, 3) := by decide +kernel
theorem dX11_minds_15 : decode cX11_minds 15 = .ok (.if_icmp .ge 33, 3) := by decide +kernel
theorem dX11_minds_18 : decode cX11_minds 18 = .ok (.aload_n 0, 1) := by decide +kernel
theorem dX11_minds_19 : decode cX11_minds 19 = .ok (.getfield 7, 3) := by decide +kernel
theorem dX11_minds_22 : decode cX11_minds 22 = .ok (.sipush 423, 3) := by decide +kernel
theorem dX11_minds_25 : decode cX11_minds 25 = .ok (.iload_n 1, 1) := by decide +kernel
theorem dX11_minds_26 : decode cX11_minds 26 = .ok (.iadd, 1) := by decide +kernel
theorem dX11_minds_27 : decode cX11_minds 27 = .ok (.aload_n 0, 1) := by decide +kernel
theorem dX11_minds_28 : decode cX11_minds 28 = .ok (.getfield 7, 3) := by decide +kernel
theorem dX11_minds_31 : decode cX11_minds 31 = .ok (.sipush 423, 3) := by decide +kernel
theorem dX11_minds_34 : decode cX11_minds 34 = .ok (.iload_n 1, 1) := by decide +kernel
theorem dX11_minds_35 : decode cX11_minds 35 = .ok (.iadd, 1) := by decide +kernel
theorem dX11_minds_36 : decode cX11_minds 36 = .ok (.sipush 141, 3) := by decide +kernel
theorem dX11_minds_39 : decode cX11_minds 39 = .ok (.iadd, 1) := by decide +kernel
theorem dX11_minds_40 : decode cX11_minds 40 = .ok (.iaload, 1) := by decide +kernel
theorem dX11_minds_41 : decode cX11_minds 41 = .ok (.iastore, 1) := by decide +kernel
theorem dX11_minds_42 : decode cX11_minds 42 = .ok (.iinc 1 1, 3) := by decide +kernel
theorem dX11_minds_45 : decode cX11_minds 45 = .ok (.goto (-34), 3) := by decide +kernel
theorem dX11_minds_48 : decode cX11_minds 48 = .ok (.aload_n 0, 1) := by decide +kernel
theorem dX11_minds_49 : decode cX11_minds 49 = .ok (.dup, 1) := by decide +kernel
theorem dX11_minds_50 : decode cX11_minds 50 = .ok (.getfield 53, 3) := by decide +kernel
theorem dX11_minds_53 : decode cX11_minds 53 = .ok (.iconst 1, 1) := by decide +kernel
theorem dX11_minds_54 : decode cX11_minds 54 = .ok (.isub, 1) := by decide +kernel
theorem dX11_minds_55 : decode cX11_minds 55 = .ok (.putfield 53, 3) := by decide +kernel
theorem dX11_minds_58 : decode cX11_minds 58 = .ok (.aload_n 0, 1) := by decide +kernel
theorem dX11_minds_59 : decode cX11_minds 59 = .ok (.iconst 0, 1) := by decide +kernel
theorem dX11_minds_60 : decode cX11_minds 60 = .ok (.sipush 423, 3) := by decide +kernel
theorem dX11_minds_63 : decode cX11_minds 63 = .ok (.sipush 141, 3) := by decide +kernel
theorem dX11_minds_66 : decode cX11_minds 66 = .ok (.aload_n 0, 1) := by decide +kernel
theorem dX11_minds_67 : decode cX11_minds 67 = .ok (.getfield 53, 3) := by decide +kernel
theorem dX11_minds_70 : decode cX11_minds 70 = .ok (.imul, 1) := by decide +kernel
theorem dX11_minds_71 : decode cX11_minds 71 = .ok (.iadd, 1) := by decide +kernel
theorem dX11_minds_72 : decode cX11_minds 72 = .ok (.invokevirtual 57, 3) := by decide +kernel
theorem dX11_minds_75 : decode cX11_minds 75 = .ok (.aload_n 0, 1) := by decide +kernel
theorem dX11_minds_76 : decode cX11_minds 76 = .ok (.dup, 1) := by decide +kernel
theorem dX11_minds_77 : decode cX11_minds 77 = .ok (.getfield 53, 3) := by decide +kernel
theorem dX11_minds_80 : decode cX11_minds 80 = .ok (.iconst 1, 1) := by decide +kernel
theorem dX11_minds_81 : decode cX11_minds 81 = .ok (.iadd, 1) := by decide +kernel
theorem dX11_minds_82 : decode cX11_minds 82 = .ok (.putfield 53, 3) := by decide +kernel
theorem dX11_minds_85 : decode cX11_minds 85 = .ok (.return_, 1) := by decide +kernel
set_option maxRecDepth 20000 in
theorem ggX11_isOne_X11_in : GoodIn wsX11_isOne wsX11_in := goodIn_r _ [5] (by decide +kernel) (by decide +kernel)
set_option maxRecDepth 20000 in
theorem gX11_isOne_X11_in : GoodIn wsX11_isOne (va_wsS RX11 61 yX11_in wsX11_in) := goodIn_app (goodIn_of _ (by decide +kernel)) ggX11_isOne_X11_in
theorem dX11_isOne_0 : decode cX11_isOne 0 = .ok (.iload_n 1, 1) := by decide +kernel
theorem dX11_isOne_1 : decode cX11_isOne 1 = .ok (.i2l, 1) := by decide +kernel
theorem dX11_isOne_2 : decode cX11_isOne 2 = .ok (.lconst 0, 1) := by decide +kernel
theorem dX11_isOne_3 : decode cX11_isOne 3 = .ok (.aload_n 0, 1) := by decide +kernel
theorem dX11_isOne_4 : decode cX11_isOne 4 = .ok (.getfield 7, 3) := by decide +kernel
theorem dX11_isOne_7 : decode cX11_isOne 7 = .ok (.iconst 0, 1) := by decide +kernel
theorem dX11_isOne_8 : decode cX11_isOne 8 = .ok (.iaload, 1) := by decide +kernel
theorem dX11_isOne_9 : decode cX11_isOne 9 = .ok (.iconst 1, 1) := by decide +kernel
theorem dX11_isOne_10 : decode cX11_isOne 10 = .ok (.isub, 1) := by decide +kernel
theorem dX11_isOne_11 : decode cX11_isOne 11 = .ok (.i2l, 1) := by decide +kernel
theorem dX11_isOne_12 : decode cX11_isOne 12 = .ok (.invokestatic 61, 3) := by decide +kernel
theorem dX11_isOne_15 : decode cX11_isOne 15 = .ok (.ireturn, 1) := by decide +kernel
set_option maxRecDepth 20000 in
theorem ggX11_isMan_X11_isOne : GoodIn wsX11_isMan wsX11_isOne := goodIn_r _ [6, 1, 7, 8, 5, 9, 10, 11, 12, 13, 14, 15, 16, 17, 18, 19, 20, 21, 22, 23, 24, 25, 26, 27] (by decide +kernel) (by decide +kernel)
set_option maxRecDepth 20000 in
theorem gX11_isMan_X11_isOne : GoodIn wsX11_isMan (wsV RX11 65 RX11 yX11_isOne wsX11_isOne) := goodIn_app (goodIn_of _ (by decide +kernel)) ggX11_isMan_X11_isOne
theorem dX11_isMan_0 : decode cX11_isMan 0 = .ok (.aload_n 0, 1) := by decide +kernel
theorem dX11_isMan_1 : decode cX11_isMan 1 = .ok (.iload_n 1, 1) := by decide +kernel
theorem dX11_isMan_2 : decode cX11_isMan 2 = .ok (.invokevirtual 65, 3) := by decide +kernel
theorem dX11_isMan_5 : decode cX11_isMan 5 = .ok (.ifCond .eq 19, 3) := by decide +kernel
theorem dX11_isMan_8 : decode cX11_isMan 8 = .ok (.aload_n 0, 1) := by decide +kernel
theorem dX11_isMan_9 : decode cX11_isMan 9 = .ok (.getfield 7, 3) := by decide +kernel
theorem dX11_isMan_12 : decode cX11_isMan 12 = .ok (.bipush 13, 2) := by decide +kernel
theorem dX11_isMan_14 : decode cX11_isMan 14 = .ok (.iload_n 1, 1) := by decide +kernel
theorem dX11_isMan_15 : decode cX11_isMan 15 = .ok (.iadd, 1) := by decide +kernel
theorem dX11_isMan_16 : decode cX11_isMan 16 = .ok (.iaload, 1) := by decide +kernel
theorem dX11_isMan_17 : decode cX11_isMan 17 = .ok (.ifCond .ne 7, 3) := by decide +kernel
theorem dX11_isMan_20 : decode cX11_isMan 20 = .ok (.iconst 1, 1) := by decide +kernel
theorem dX11_isMan_21 : decode cX11_isMan 21 = .ok (.goto 4, 3) := by decide +kernel
theorem dX11_isMan_24 : decode cX11_isMan 24 = .ok (.iconst 0, 1) := by decide +kernel
theorem dX11_isMan_25 : decode cX11_isMan 25 = .ok (.ireturn, 1) := by decide +kernel
set_option maxRecDepth 20000 in
theorem ggX11_isWoman_X11_isOne : GoodIn wsX11_isWoman wsX11_isOne := goodIn_r _ [6, 1, 7, 8, 5, 9, 10, 11, 12, 13, 14, 15, 16, 17, 18, 19, 20, 21, 22, 23, 24, 25, 26, 27] (by decide +kernel) (by decide +kernel)
set_option maxRecDepth 20000 in
theorem gX11_isWoman_X11_isOne : GoodIn wsX11_isWoman (wsV RX11 65 RX11 yX11_isOne wsX11_isOne) := goodIn_app (goodIn_of _ (by decide +kernel)) ggX11_isWoman_X11_isOne
theorem dX11_isWoman_0 : decode cX11_isWoman 0 = .ok (.aload_n 0, 1) := by decide +kernel
theorem dX11_isWoman_1 : decode cX11_isWoman 1 = .ok (.iload_n 1, 1) := by decide +kernel
theorem dX11_isWoman_2 : decode cX11_isWoman 2 = .ok (.invokevirtual 65, 3) := by decide +kernel
theorem dX11_isWoman_5 : decode cX11_isWoman 5 = .ok (.ifCond .eq 20, 3) := by decide +kernel
theorem dX11_isWoman_8 : decode cX11_isWoman 8 = .ok (.aload_n 0, 1) := by decide +kernel
theorem dX11_isWoman_9 : decode cX11_isWoman 9 = .ok (.getfield 7, 3) := by decide +kernel
theorem dX11_isWoman_12 : decode cX11_isWoman 12 = .ok (.bipush 13, 2) := by decide +kernel
theorem dX11_isWoman_14 : decode cX11_isWoman 14 = .ok (.iload_n 1, 1) := by decide +kernel
theorem dX11_isWoman_15 : decode cX11_isWoman 15 = .ok (.iadd, 1) := by decide +kernel
theorem dX11_isWoman_16 : decode cX11_isWoman 16 = .ok (.iaload, 1) := by decide +kernel
theorem dX11_isWoman_17 : decode cX11_isWoman 17 = .ok (.iconst 1, 1) := by decide +kernel
theorem dX11_isWoman_18 : decode cX11_isWoman 18 = .ok (.if_icmp .ne 7, 3) := by decide +kernel
theorem dX11_isWoman_21 : decode cX11_isWoman 21 = .ok (.iconst 1, 1) := by decide +kernel
theorem dX11_isWoman_22 : decode cX11_isWoman 22 = .ok (.goto 4, 3) := by decide +kernel
theorem dX11_isWoman_25 : decode cX11_isWoman 25 = .ok (.iconst 0, 1) := by decide +kernel
theorem dX11_isWoman_26 : decode cX11_isWoman 26 = .ok (.ireturn, 1) := by decide +kernel
set_option maxRecDepth 20000 in
theorem ggX11_isHeir_X11_isWoman : GoodIn wsX11_isHeir wsX11_isWoman := goodIn_r _ [6, 1, 7, 8, 9, 5, 10, 11, 12, 13, 14, 15, 16, 17, 18, 19, 20, 21, 22, 23, 24, 25, 26, 27, 28, 29, 30, 31] (by decide +kernel) (by decide +kernel)
set_option maxRecDepth 20000 in
theorem gX11_isHeir_X11_isWoman : GoodIn wsX11_isHeir (wsV RX11 69 RX11 yX11_isWoman wsX11_isWoman) := goodIn_app (goodIn_of _ (by decide +kernel)) ggX11_isHeir_X11_isWoman
theorem dX11_isHeir_0 : decode cX11_isHeir 0 = .ok (.aload_n 0, 1) := by decide +kernel
theorem dX11_isHeir_1 : decode cX11_isHeir 1 = .ok (.iload_n 1, 1) := by decide +kernel
theorem dX11_isHeir_2 : decode cX11_isHeir 2 = .ok (.invokevirtual 69, 3) := by decide +kernel
theorem dX11_isHeir_5 : decode cX11_isHeir 5 = .ok (.ifCond .eq 20, 3) := by decide +kernel
theorem dX11_isHeir_8 : decode cX11_isHeir 8 = .ok (.aload_n 0, 1) := by decide +kernel
theorem dX11_isHeir_9 : decode cX11_isHeir 9 = .ok (.getfield 7, 3) := by decide +kernel
theorem dX11_isHeir_12 : decode cX11_isHeir 12 = .ok (.bipush 45, 2) := by decide +kernel
theorem dX11_isHeir_14 : decode cX11_isHeir 14 = .ok (.iload_n 1, 1) := by decide +kernel
theorem dX11_isHeir_15 : decode cX11_isHeir 15 = .ok (.iadd, 1) := by decide +kernel
theorem dX11_isHeir_16 : decode cX11_isHeir 16 = .ok (.iaload, 1) := by decide +kernel
theorem dX11_isHeir_17 : decode cX11_isHeir 17 = .ok (.iconst (-1), 1) := by decide +kernel
theorem dX11_isHeir_18 : decode cX11_isHeir 18 = .ok (.if_icmp .eq 7, 3) := by decide +kernel
theorem dX11_isHeir_21 : decode cX11_isHeir 21 = .ok (.iconst 1, 1) := by decide +kernel
theorem dX11_isHeir_22 : decode cX11_isHeir 22 = .ok (.goto 4, 3) := by decide +kernel
theorem dX11_isHeir_25 : decode cX11_isHeir 25 = .ok (.iconst 0, 1) := by decide +kernel
theorem dX11_isHeir_26 : decode cX11_isHeir 26 = .ok (.istore_n 2, 1) := by decide +kernel
theorem dX11_isHeir_27 : decode cX11_isHeir 27 = .ok (.iconst 0, 1) := by decide +kernel
theorem dX11_isHeir_28 : decode cX11_isHeir 28 = .ok (.istore_n 3, 1) := by decide +kernel
theorem dX11_isHeir_29 : decode cX11_isHeir 29 = .ok (.iload_n 3, 1) := by decide +kernel
theorem dX11_isHeir_30 : decode cX11_isHeir 30 = .ok (.aload_n 0, 1) := by decide +kernel
theorem dX11_isHeir_31 : decode cX11_isHeir 31 = .ok (.getfield 7, 3) := by decide +kernel
theorem dX11_isHeir_34 : decode cX11_isHeir 34 = .ok (.iconst 0, 1) := by decide +kernel
theorem dX11_isHeir_35 : decode cX11_isHeir 35 = .ok (.iaload, 1) := by decide +kernel
theorem dX11_isHeir_36 : decode cX11_isHeir 36 = .ok (.if_icmp .ge 53, 3) := by decide +kernel
theorem dX11_isHeir_39 : decode cX11_isHeir 39 = .ok (.iload_n 2, 1) := by decide +kernel
theorem dX11_isHeir_40 : decode cX11_isHeir 40 = .ok (.ifCond .eq 49, 3) := by decide +kernel
theorem dX11_isHeir_43 : decode cX11_isHeir 43 = .ok (.aload_n 0, 1) := by decide +kernel
theorem dX11_isHeir_44 : decode cX11_isHeir 44 = .ok (.getfield 7, 3) := by decide +kernel
theorem dX11_isHeir_47 : decode cX11_isHeir 47 = .ok (.bipush 13, 2) := by decide +kernel
theorem dX11_isHeir_49 : decode cX11_isHeir 49 = .ok (.iload_n 3, 1) := by decide +kernel
theorem dX11_isHeir_50 : decode cX11_isHeir 50 = .ok (.iadd, 1) := by decide +kernel
theorem dX11_isHeir_51 : decode cX11_isHeir 51 = .ok (.iaload, 1) := by decide +kernel
theorem dX11_isHeir_52 : decode cX11_isHeir 52 = .ok (.iconst 1, 1) := by decide +kernel
theorem dX11_isHeir_53 : decode cX11_isHeir 53 = .ok (.if_icmp .eq 24, 3) := by decide +kernel
theorem dX11_isHeir_56 : decode cX11_isHeir 56 = .ok (.aload_n 0, 1) := by decide +kernel
theorem dX11_isHeir_57 : decode cX11_isHeir 57 = .ok (.getfield 7, 3) := by decide +kernel
theorem dX11_isHeir_60 : decode cX11_isHeir 60 = .ok (.bipush 45, 2) := by decide +kernel
theorem dX11_isHeir_62 : decode cX11_isHeir 62 = .ok (.iload_n 3, 1) := by decide +kernel
theorem dX11_isHeir_63 : decode cX11_isHeir 63 = .ok (.iadd, 1) := by decide +kernel
theorem dX11_isHeir_64 : decode cX11_isHeir 64 = .ok (.iaload, 1) := by decide +kernel
theorem dX11_isHeir_65 : decode cX11_isHeir 65 = .ok (.aload_n 0, 1) := by decide +kernel
theorem dX11_isHeir_66 : decode cX11_isHeir 66 = .ok (.getfield 7, 3) := by decide +kernel
theorem dX11_isHeir_69 : decode cX11_isHeir 69 = .ok (.bipush 45, 2) := by decide +kernel
theorem dX11_isHeir_71 : decode cX11_isHeir 71 = .ok (.iload_n 1, 1) := by decide +kernel
theorem dX11_isHeir_72 : decode cX11_isHeir 72 = .ok (.iadd, 1) := by decide +kernel
theorem dX11_isHeir_73 : decode cX11_isHeir 73 = .ok (.iaload, 1) := by decide +kernel
theorem dX11_isHeir_74 : decode cX11_isHeir 74 = .ok (.if_icmp .eq 7, 3) := by decide +kernel
theorem dX11_isHeir_77 : decode cX11_isHeir 77 = .ok (.iconst 1, 1) := by decide +kernel
theorem dX11_isHeir_78 : decode cX11_isHeir 78 = .ok (.goto 4, 3) := by decide +kernel
theorem dX11_isHeir_81 : decode cX11_isHeir 81 = .ok (.iconst 0, 1) := by decide +kernel
theorem dX11_isHeir_82 : decode cX11_isHeir 82 = .ok (.istore_n 2, 1) := by decide +kernel
theorem dX11_isHeir_83 : decode cX11_isHeir 83 = .ok (.iinc 3 1, 3) := by decide +kernel
theorem dX11_isHeir_86 : decode cX11_isHeir 86 = .ok (.goto (-57), 3) := by decide +kernel
theorem dX11_isHeir_89 : decode cX11_isHeir 89 = .ok (.iload_n 2, 1) := by decide +kernel
theorem dX11_isHeir_90 : decode cX11_isHeir 90 = .ok (.ireturn, 1) := by decide +kernel
theorem dX11_takes_0 : decode cX11_takes 0 = .ok (.iconst 0, 1) := by decide +kernel
theorem dX11_takes_1 : decode cX11_takes 1 = .ok (.istore 4, 2) := by decide +kernel
theorem dX11_takes_3 : decode cX11_takes 3 = .ok (.iconst 0, 1) := by decide +kernel
theorem dX11_takes_4 : decode cX11_takes 4 = .ok (.istore 5, 2) := by decide +kernel
theorem dX11_takes_6 : decode cX11_takes 6 = .ok (.iload 5, 2) := by decide +kernel
theorem dX11_takes_8 : decode cX11_takes 8 = .ok (.aload_n 0, 1) := by decide +kernel
theorem dX11_takes_9 : decode cX11_takes 9 = .ok (.getfield 29, 3) := by decide +kernel
theorem dX11_takes_12 : decode cX11_takes 12 = .ok (.iload_n 1, 1) := by decide +kernel
theorem dX11_takes_13 : decode cX11_takes 13 = .ok (.iaload, 1) := by decide +kernel
theorem dX11_takes_14 : decode cX11_takes 14 = .ok (.if_icmp .ge 37, 3) := by decide +kernel
theorem dX11_takes_17 : decode cX11_takes 17 = .ok (.iload 4, 2) := by decide +kernel
theorem dX11_takes_19 : decode cX11_takes 19 = .ok (.ifCond .ne 19, 3) := by decide +kernel
theorem dX11_takes_22 : decode cX11_takes 22 = .ok (.aload_n 0, 1) := by decide +kernel
theorem dX11_takes_23 : decode cX11_takes 23 = .ok (.getfield 32, 3) := by decide +kernel
theorem dX11_takes_26 : decode cX11_takes 26 = .ok (.bipush 10, 2) := by decide +kernel
theorem dX11_takes_28 : decode cX11_takes 28 = .ok (.iload_n 1, 1) := by decide +kernel
theorem dX11_takes_29 : decode cX11_takes 29 = .ok (.imul, 1) := by decide +kernel
theorem dX11_takes_30 : decode cX11_takes 30 = .ok (.iload 5, 2) := by decide +kernel
theorem dX11_takes_32 : decode cX11_takes 32 = .ok (.iadd, 1) := by decide +kernel
theorem dX11_takes_33 : decode cX11_takes 33 = .ok (.iaload, 1) := by decide +kernel
theorem dX11_takes_34 : decode cX11_takes 34 = .ok (.iload_n 2, 1) := by decide +kernel
theorem dX11_takes_35 : decode cX11_takes 35 = .ok (.if_icmp .ne 7, 3) := by decide +kernel
theorem dX11_takes_38 : decode cX11_takes 38 = .ok (.iconst 1, 1) := by decide +kernel
theorem dX11_takes_39 : decode cX11_takes 39 = .ok (.goto 4, 3) := by decide +kernel
theorem dX11_takes_42 : decode cX11_takes 42 = .ok (.iconst 0, 1) := by decide +kernel
theorem dX11_takes_43 : decode cX11_takes 43 = .ok (.istore 4, 2) := by decide +kernel
theorem dX11_takes_45 : decode cX11_takes 45 = .ok (.iinc 5 1, 3) := by decide +kernel
theorem dX11_takes_48 : decode cX11_takes 48 = .ok (.goto (-42), 3) := by decide +kernel
theorem dX11_takes_51 : decode cX11_takes 51 = .ok (.iload 4, 2) := by decide +kernel
theorem dX11_takes_53 : decode cX11_takes 53 = .ok (.ifCond .ne 47, 3) := by decide +kernel
theorem dX11_takes_56 : decode cX11_takes 56 = .ok (.aload_n 0, 1) := by decide +kernel
theorem dX11_takes_57 : decode cX11_takes 57 = .ok (.getfield 32, 3) := by decide +kernel
theorem dX11_takes_60 : decode cX11_takes 60 = .ok (.bipush 10, 2) := by decide +kernel
theorem dX11_takes_62 : decode cX11_takes 62 = .ok (.iload_n 1, 1) := by decide +kernel
theorem dX11_takes_63 : decode cX11_takes 63 = .ok (.imul, 1) := by decide +kernel
theorem dX11_takes_64 : decode cX11_takes 64 = .ok (.aload_n 0, 1) := by decide +kernel
theorem dX11_takes_65 : decode cX11_takes 65 = .ok (.getfield 29, 3) := by decide +kernel
theorem dX11_takes_68 : decode cX11_takes 68 = .ok (.iload_n 1, 1) := by decide +kernel
theorem dX11_takes_69 : decode cX11_takes 69 = .ok (.iaload, 1) := by decide +kernel
theorem dX11_takes_70 : decode cX11_takes 70 = .ok (.iadd, 1) := by decide +kernel
theorem dX11_takes_71 : decode cX11_takes 71 = .ok (.iload_n 2, 1) := by decide +kernel
theorem dX11_takes_72 : decode cX11_takes 72 = .ok (.iastore, 1) := by decide +kernel
theorem dX11_takes_73 : decode cX11_takes 73 = .ok (.aload_n 0, 1) := by decide +kernel
theorem dX11_takes_74 : decode cX11_takes 74 = .ok (.getfield 35, 3) := by decide +kernel
theorem dX11_takes_77 : decode cX11_takes 77 = .ok (.bipush 10, 2) := by decide +kernel
theorem dX11_takes_79 : decode cX11_takes 79 = .ok (.iload_n 1, 1) := by decide +kernel
theorem dX11_takes_80 : decode cX11_takes 80 = .ok (.imul, 1) := by decide +kernel
theorem dX11_takes_81 : decode cX11_takes 81 = .ok (.aload_n 0, 1) := by decide +kernel
theorem dX11_takes_82 : decode cX11_takes 82 = .ok (.getfield 29, 3) := by decide +kernel
theorem dX11_takes_85 : decode cX11_takes 85 = .ok (.iload_n 1, 1) := by decide +kernel
theorem dX11_takes_86 : decode cX11_takes 86 = .ok (.iaload, 1) := by decide +kernel
theorem dX11_takes_87 : decode cX11_takes 87 = .ok (.iadd, 1) := by decide +kernel
theorem dX11_takes_88 : decode cX11_takes 88 = .ok (.iload_n 3, 1) := by decide +kernel
theorem dX11_takes_89 : decode cX11_takes 89 = .ok (.iastore, 1) := by decide +kernel
theorem dX11_takes_90 : decode cX11_takes 90 = .ok (.aload_n 0, 1) := by decide +kernel
theorem dX11_takes_91 : decode cX11_takes 91 = .ok (.getfield 29, 3) := by decide +kernel
theorem dX11_takes_94 : decode cX11_takes 94 = .ok (.iload_n 1, 1) := by decide +kernel
theorem dX11_takes_95 : decode cX11_takes 95 = .ok (.dup2, 1) := by decide +kernel
theorem dX11_takes_96 : decode cX11_takes 96 = .ok (.iaload, 1) := by decide +kernel
theorem dX11_takes_97 : decode cX11_takes 97 = .ok (.iconst 1, 1) := by decide +kernel
theorem dX11_takes_98 : decode cX11_takes 98 = .ok (.iadd, 1) := by decide +kernel
theorem dX11_takes_99 : decode cX11_takes 99 = .ok (.iastore, 1) := by decide +kernel
theorem dX11_takes_100 : decode cX11_takes 100 = .ok (.return_, 1) := by decide +kernel
set_option maxRecDepth 20000 in
theorem ggX11_takesOf_X11_takes : GoodIn wsX11_takesOf wsX11_takes := goodIn_r _ [8, 1, 2, 3, 9, 10, 11, 12, 13, 14, 15, 16, 17, 18, 19, 20, 21, 22, 23, 24, 25, 26] (by decide +kernel) (by decide +kernel)
set_option maxRecDepth 20000 in
theorem gX11_takesOf_X11_takes : GoodIn wsX11_takesOf (wsV RX11 72 RX11 yX11_takes wsX11_takes) := goodIn_app (goodIn_of _ (by decide +kernel)) ggX11_takesOf_X11_takes
theorem dX11_takesOf_0 : decode cX11_takesOf 0 = .ok (.iconst 0, 1) := by decide +kernel
theorem dX11_takesOf_1 : decode cX11_takesOf 1 = .ok (.istore 4, 2) := by decide +kernel
theorem dX11_takesOf_3 : decode cX11_takesOf 3 = .ok (.iload 4, 2) := by decide +kernel
theorem dX11_takesOf_5 : decode cX11_takesOf 5 = .ok (.iload_n 3, 1) := by decide +kernel
theorem dX11_takesOf_6 : decode cX11_takesOf 6 = .ok (.if_icmp .ge 49, 3) := by decide +kernel
theorem dX11_takesOf_9 : decode cX11_takesOf 9 = .ok (.iload 4, 2) := by decide +kernel
theorem dX11_takesOf_11 : decode cX11_takesOf 11 = .ok (.aload_n 0, 1) := by decide +kernel
theorem dX11_takesOf_12 : decode cX11_takesOf 12 = .ok (.getfield 29, 3) := by decide +kernel
theorem dX11_takesOf_15 : decode cX11_takesOf 15 = .ok (.iload_n 2, 1) := by decide +kernel
theorem dX11_takesOf_16 : decode cX11_takesOf 16 = .ok (.iaload, 1) := by decide +kernel
theorem dX11_takesOf_17 : decode cX11_takesOf 17 = .ok (.if_icmp .ge 38, 3) := by decide +kernel
theorem dX11_takesOf_20 : decode cX11_takesOf 20 = .ok (.aload_n 0, 1) := by decide +kernel
theorem dX11_takesOf_21 : decode cX11_takesOf 21 = .ok (.iload_n 1, 1) := by decide +kernel
theorem dX11_takesOf_22 : decode cX11_takesOf 22 = .ok (.aload_n 0, 1) := by decide +kernel
theorem dX11_takesOf_23 : decode cX11_takesOf 23 = .ok (.getfield 32, 3) := by decide +kernel
theorem dX11_takesOf_26 : decode cX11_takesOf 26 = .ok (.bipush 10, 2) := by decide +kernel
theorem dX11_takesOf_28 : decode cX11_takesOf 28 = .ok (.iload_n 2, 1) := by decide +kernel
theorem dX11_takesOf_29 : decode cX11_takesOf 29 = .ok (.imul, 1) := by decide +kernel
theorem dX11_takesOf_30 : decode cX11_takesOf 30 = .ok (.iload 4, 2) := by decide +kernel
theorem dX11_takesOf_32 : decode cX11_takesOf 32 = .ok (.iadd, 1) := by decide +kernel
theorem dX11_takesOf_33 : decode cX11_takesOf 33 = .ok (.iaload, 1) := by decide +kernel
theorem dX11_takesOf_34 : decode cX11_takesOf 34 = .ok (.aload_n 0, 1) := by decide +kernel
theorem dX11_takesOf_35 : decode cX11_takesOf 35 = .ok (.getfield 35, 3) := by decide +kernel
theorem dX11_takesOf_38 : decode cX11_takesOf 38 = .ok (.bipush 10, 2) := by decide +kernel
theorem dX11_takesOf_40 : decode cX11_takesOf 40 = .ok (.iload_n 2, 1) := by decide +kernel
theorem dX11_takesOf_41 : decode cX11_takesOf 41 = .ok (.imul, 1) := by decide +kernel
theorem dX11_takesOf_42 : decode cX11_takesOf 42 = .ok (.iload 4, 2) := by decide +kernel
theorem dX11_takesOf_44 : decode cX11_takesOf 44 = .ok (.iadd, 1) := by decide +kernel
theorem dX11_takesOf_45 : decode cX11_takesOf 45 = .ok (.iaload, 1) := by decide +kernel
theorem dX11_takesOf_46 : decode cX11_takesOf 46 = .ok (.invokevirtual 72, 3) := by decide +kernel
theorem dX11_takesOf_49 : decode cX11_takesOf 49 = .ok (.iinc 4 1, 3) := by decide +kernel
theorem dX11_takesOf_52 : decode cX11_takesOf 52 = .ok (.goto (-49), 3) := by decide +kernel
theorem dX11_takesOf_55 : decode cX11_takesOf 55 = .ok (.return_, 1) := by decide +kernel
set_option maxRecDepth 20000 in
theorem ggX11_laysOne_X11_isHeir : GoodIn wsX11_laysOne wsX11_isHeir := goodIn_r _ [7, 2, 8, 9, 10, 6, 11, 12, 13, 14, 15, 16, 17, 18, 29, 30, 31, 32, 33, 34, 35, 36, 37, 38, 39, 40, 41, 42, 43, 44, 45, 46] (by decide +kernel) (by decide +kernel)
set_option maxRecDepth 20000 in
theorem gX11_laysOne_X11_isHeir : GoodIn wsX11_laysOne (wsV RX11 76 RX11 yX11_isHeir wsX11_isHeir) := goodIn_app (goodIn_of _ (by decide +kernel)) ggX11_laysOne_X11_isHeir
set_option maxRecDepth 20000 in
theorem ggX11_laysOne_X11_takes : GoodIn wsX11_laysOne wsX11_takes := goodIn_r _ [22, 1, 23, 24, 29, 30, 31, 32, 33, 34, 35, 36, 37, 38, 39, 40, 41, 42, 43, 44, 45, 46] (by decide +kernel) (by decide +kernel)
set_option maxRecDepth 20000 in
theorem gX11_laysOne_X11_takes : GoodIn wsX11_laysOne (wsV RX11 72 RX11 yX11_takes wsX11_takes) := goodIn_app (goodIn_of _ (by decide +kernel)) ggX11_laysOne_X11_takes
set_option maxRecDepth 20000 in
theorem ggX11_laysOne_X11_takesOf : GoodIn wsX11_laysOne wsX11_takesOf := goodIn_r _ [28, 1, 23, 24, 19, 20, 21, 6, 22, 29, 30, 31, 32, 33, 34, 35, 36, 37, 38, 39, 40, 41, 42, 43, 44, 45, 46] (by decide +kernel) (by decide +kernel)
set_option maxRecDepth 20000 in
theorem gX11_laysOne_X11_takesOf : GoodIn wsX11_laysOne (wsV RX11 79 RX11 yX11_takesOf wsX11_takesOf) := goodIn_app (goodIn_of _ (by decide +kernel)) ggX11_laysOne_X11_takesOf
theorem dX11_laysOne_0 : decode cX11_laysOne 0 = .ok (.iload 4, 2) := by decide +kernel
theorem dX11_laysOne_2 : decode cX11_laysOne 2 = .ok (.iconst (-1), 1) := by decide +kernel
theorem dX11_laysOne_3 : decode cX11_laysOne 3 = .ok (.if_icmp .eq 16, 3) := by decide +kernel
theorem dX11_laysOne_6 : decode cX11_laysOne 6 = .ok (.aload_n 0, 1) := by decide +kernel
theorem dX11_laysOne_7 : decode cX11_laysOne 7 = .ok (.iload 4, 2) := by decide +kernel
theorem dX11_laysOne_9 : decode cX11_laysOne 9 = .ok (.invokevirtual 76, 3) := by decide +kernel
theorem dX11_laysOne_12 : decode cX11_laysOne 12 = .ok (.ifCond .eq 7, 3) := by decide +kernel
theorem dX11_laysOne_15 : decode cX11_laysOne 15 = .ok (.iconst 1, 1) := by decide +kernel
theorem dX11_laysOne_16 : decode cX11_laysOne 16 = .ok (.goto 4, 3) := by decide +kernel
theorem dX11_laysOne_19 : decode cX11_laysOne 19 = .ok (.iconst 0, 1) := by decide +kernel
theorem dX11_laysOne_20 : decode cX11_laysOne 20 = .ok (.istore 5, 2) := by decide +kernel
theorem dX11_laysOne_22 : decode cX11_laysOne 22 = .ok (.aload_n 0, 1) := by decide +kernel
theorem dX11_laysOne_23 : decode cX11_laysOne 23 = .ok (.getfield 29, 3) := by decide +kernel
theorem dX11_laysOne_26 : decode cX11_laysOne 26 = .ok (.iload_n 1, 1) := by decide +kernel
theorem dX11_laysOne_27 : decode cX11_laysOne 27 = .ok (.iconst 0, 1) := by decide +kernel
theorem dX11_laysOne_28 : decode cX11_laysOne 28 = .ok (.iastore, 1) := by decide +kernel
theorem dX11_laysOne_29 : decode cX11_laysOne 29 = .ok (.iload_n 3, 1) := by decide +kernel
theorem dX11_laysOne_30 : decode cX11_laysOne 30 = .ok (.iconst (-1), 1) := by decide +kernel
theorem dX11_laysOne_31 : decode cX11_laysOne 31 = .ok (.if_icmp .ne 13, 3) := by decide +kernel
theorem dX11_laysOne_34 : decode cX11_laysOne 34 = .ok (.aload_n 0, 1) := by decide +kernel
theorem dX11_laysOne_35 : decode cX11_laysOne 35 = .ok (.iload_n 1, 1) := by decide +kernel
theorem dX11_laysOne_36 : decode cX11_laysOne 36 = .ok (.iload_n 2, 1) := by decide +kernel
theorem dX11_laysOne_37 : decode cX11_laysOne 37 = .ok (.iload_n 1, 1) := by decide +kernel
theorem dX11_laysOne_38 : decode cX11_laysOne 38 = .ok (.invokevirtual 72, 3) := by decide +kernel
theorem dX11_laysOne_41 : decode cX11_laysOne 41 = .ok (.goto 25, 3) := by decide +kernel
theorem dX11_laysOne_44 : decode cX11_laysOne 44 = .ok (.aload_n 0, 1) := by decide +kernel
theorem dX11_laysOne_45 : decode cX11_laysOne 45 = .ok (.iload_n 1, 1) := by decide +kernel
theorem dX11_laysOne_46 : decode cX11_laysOne 46 = .ok (.iload_n 3, 1) := by decide +kernel
theorem dX11_laysOne_47 : decode cX11_laysOne 47 = .ok (.aload_n 0, 1) := by decide +kernel
theorem dX11_laysOne_48 : decode cX11_laysOne 48 = .ok (.getfield 7, 3) := by decide +kernel
theorem dX11_laysOne_51 : decode cX11_laysOne 51 = .ok (.iconst 1, 1) := by decide +kernel
theorem dX11_laysOne_52 : decode cX11_laysOne 52 = .ok (.iaload, 1) := by decide +kernel
theorem dX11_laysOne_53 : decode cX11_laysOne 53 = .ok (.iconst 2, 1) := by decide +kernel
theorem dX11_laysOne_54 : decode cX11_laysOne 54 = .ok (.if_icmp .ne 7, 3) := by decide +kernel
theorem dX11_laysOne_57 : decode cX11_laysOne 57 = .ok (.iconst 1, 1) := by decide +kernel
theorem dX11_laysOne_58 : decode cX11_laysOne 58 = .ok (.goto 5, 3) := by decide +kernel
theorem dX11_laysOne_61 : decode cX11_laysOne 61 = .ok (.bipush 10, 2) := by decide +kernel
theorem dX11_laysOne_63 : decode cX11_laysOne 63 = .ok (.invokevirtual 79, 3) := by decide +kernel
theorem dX11_laysOne_66 : decode cX11_laysOne 66 = .ok (.iload 5, 2) := by decide +kernel
theorem dX11_laysOne_68 : decode cX11_laysOne 68 = .ok (.ifCond .eq 26, 3) := by decide +kernel
theorem dX11_laysOne_71 : decode cX11_laysOne 71 = .ok (.aload_n 0, 1) := by decide +kernel
theorem dX11_laysOne_72 : decode cX11_laysOne 72 = .ok (.iload_n 1, 1) := by decide +kernel
theorem dX11_laysOne_73 : decode cX11_laysOne 73 = .ok (.iload 4, 2) := by decide +kernel
theorem dX11_laysOne_75 : decode cX11_laysOne 75 = .ok (.aload_n 0, 1) := by decide +kernel
theorem dX11_laysOne_76 : decode cX11_laysOne 76 = .ok (.getfield 7, 3) := by decide +kernel
theorem dX11_laysOne_79 : decode cX11_laysOne 79 = .ok (.iconst 1, 1) := by decide +kernel
theorem dX11_laysOne_80 : decode cX11_laysOne 80 = .ok (.iaload, 1) := by decide +kernel
theorem dX11_laysOne_81 : decode cX11_laysOne 81 = .ok (.iconst 1, 1) := by decide +kernel
theorem dX11_laysOne_82 : decode cX11_laysOne 82 = .ok (.if_icmp .ne 7, 3) := by decide +kernel
theorem dX11_laysOne_85 : decode cX11_laysOne 85 = .ok (.iconst 1, 1) := by decide +kernel
theorem dX11_laysOne_86 : decode cX11_laysOne 86 = .ok (.goto 5, 3) := by decide +kernel
theorem dX11_laysOne_89 : decode cX11_laysOne 89 = .ok (.bipush 10, 2) := by decide +kernel
theorem dX11_laysOne_91 : decode cX11_laysOne 91 = .ok (.invokevirtual 79, 3) := by decide +kernel
theorem dX11_laysOne_94 : decode cX11_laysOne 94 = .ok (.aload_n 0, 1) := by decide +kernel
theorem dX11_laysOne_95 : decode cX11_laysOne 95 = .ok (.getfield 7, 3) := by decide +kernel
theorem dX11_laysOne_98 : decode cX11_laysOne 98 = .ok (.iconst 1, 1) := by decide +kernel
theorem dX11_laysOne_99 : decode cX11_laysOne 99 = .ok (.iaload, 1) := by decide +kernel
theorem dX11_laysOne_100 : decode cX11_laysOne 100 = .ok (.iconst 2, 1) := by decide +kernel
theorem dX11_laysOne_101 : decode cX11_laysOne 101 = .ok (.if_icmp .ne 16, 3) := by decide +kernel
theorem dX11_laysOne_104 : decode cX11_laysOne 104 = .ok (.iload_n 3, 1) := by decide +kernel
theorem dX11_laysOne_105 : decode cX11_laysOne 105 = .ok (.iconst (-1), 1) := by decide +kernel
theorem dX11_laysOne_106 : decode cX11_laysOne 106 = .ok (.if_icmp .eq 11, 3) := by decide +kernel
theorem dX11_laysOne_109 : decode cX11_laysOne 109 = .ok (.aload_n 0, 1) := by decide +kernel
theorem dX11_laysOne_110 : decode cX11_laysOne 110 = .ok (.iload_n 1, 1) := by decide +kernel
theorem dX11_laysOne_111 : decode cX11_laysOne 111 = .ok (.iload_n 3, 1) := by decide +kernel
theorem dX11_laysOne_112 : decode cX11_laysOne 112 = .ok (.bipush 10, 2) := by decide +kernel
theorem dX11_laysOne_114 : decode cX11_laysOne 114 = .ok (.invokevirtual 79, 3) := by decide +kernel
theorem dX11_laysOne_117 : decode cX11_laysOne 117 = .ok (.return_, 1) := by decide +kernel
set_option maxRecDepth 20000 in
theorem ggX11_lays_X11_laysOne : GoodIn wsX11_lays wsX11_laysOne := goodIn_r _ [6, 7, 1, 8, 9, 10, 5, 11, 12, 13, 14, 15, 16, 17, 18, 19, 20, 21, 22, 23, 24, 25, 26, 27, 28, 29, 30, 31, 32, 33, 34, 35, 36, 37, 38, 39, 40, 41, 42, 43, 44, 45, 46, 47, 48, 49, 50] (by decide +kernel) (by decide +kernel)
set_option maxRecDepth 20000 in
theorem gX11_lays_X11_laysOne : GoodIn wsX11_lays (wsV RX11 82 RX11 yX11_laysOne wsX11_laysOne) := goodIn_app (goodIn_of _ (by decide +kernel)) ggX11_lays_X11_laysOne
theorem dX11_lays_0 : decode cX11_lays 0 = .ok (.iconst 0, 1) := by decide +kernel
theorem dX11_lays_1 : decode cX11_lays 1 = .ok (.istore_n 1, 1) := by decide +kernel
theorem dX11_lays_2 : decode cX11_lays 2 = .ok (.iload_n 1, 1) := by decide +kernel
theorem dX11_lays_3 : decode cX11_lays 3 = .ok (.aload_n 0, 1) := by decide +kernel
theorem dX11_lays_4 : decode cX11_lays 4 = .ok (.getfield 7, 3) := by decide +kernel
theorem dX11_lays_7 : decode cX11_lays 7 = .ok (.iconst 0, 1) := by decide +kernel
theorem dX11_lays_8 : decode cX11_lays 8 = .ok (.iaload, 1) := by decide +kernel
theorem dX11_lays_9 : decode cX11_lays 9 = .ok (.if_icmp .ge 41, 3) := by decide +kernel
theorem dX11_lays_12 : decode cX11_lays 12 = .ok (.aload_n 0, 1) := by decide +kernel
theorem dX11_lays_13 : decode cX11_lays 13 = .ok (.iload_n 1, 1) := by decide +kernel
theorem dX11_lays_14 : decode cX11_lays 14 = .ok (.aload_n 0, 1) := by decide +kernel
theorem dX11_lays_15 : decode cX11_lays 15 = .ok (.getfield 7, 3) := by decide +kernel
theorem dX11_lays_18 : decode cX11_lays 18 = .ok (.bipush 29, 2) := by decide +kernel
theorem dX11_lays_20 : decode cX11_lays 20 = .ok (.iload_n 1, 1) := by decide +kernel
theorem dX11_lays_21 : decode cX11_lays 21 = .ok (.iadd, 1) := by decide +kernel
theorem dX11_lays_22 : decode cX11_lays 22 = .ok (.iaload, 1) := by decide +kernel
theorem dX11_lays_23 : decode cX11_lays 23 = .ok (.aload_n 0, 1) := by decide +kernel
theorem dX11_lays_24 : decode cX11_lays 24 = .ok (.getfield 7, 3) := by decide +kernel
theorem dX11_lays_27 : decode cX11_lays 27 = .ok (.bipush 45, 2) := by decide +kernel
theorem dX11_lays_29 : decode cX11_lays 29 = .ok (.iload_n 1, 1) := by decide +kernel
theorem dX11_lays_30 : decode cX11_lays 30 = .ok (.iadd, 1) := by decide +kernel
theorem dX11_lays_31 : decode cX11_lays 31 = .ok (.iaload, 1) := by decide +kernel
theorem dX11_lays_32 : decode cX11_lays 32 = .ok (.aload_n 0, 1) := by decide +kernel
theorem dX11_lays_33 : decode cX11_lays 33 = .ok (.getfield 7, 3) := by decide +kernel
theorem dX11_lays_36 : decode cX11_lays 36 = .ok (.bipush 61, 2) := by decide +kernel
theorem dX11_lays_38 : decode cX11_lays 38 = .ok (.iload_n 1, 1) := by decide +kernel
theorem dX11_lays_39 : decode cX11_lays 39 = .ok (.iadd, 1) := by decide +kernel
theorem dX11_lays_40 : decode cX11_lays 40 = .ok (.iaload, 1) := by decide +kernel
theorem dX11_lays_41 : decode cX11_lays 41 = .ok (.invokevirtual 82, 3) := by decide +kernel
theorem dX11_lays_44 : decode cX11_lays 44 = .ok (.iinc 1 1, 3) := by decide +kernel
theorem dX11_lays_47 : decode cX11_lays 47 = .ok (.goto (-45), 3) := by decide +kernel
theorem dX11_lays_50 : decode cX11_lays 50 = .ok (.return_, 1) := by decide +kernel
theorem dX11_isSame_0 : decode cX11_isSame 0 = .ok (.aload_n 0, 1) := by decide +kernel
theorem dX11_isSame_1 : decode cX11_isSame 1 = .ok (.getfield 29, 3) := by decide +kernel
theorem dX11_isSame_4 : decode cX11_isSame 4 = .ok (.iload_n 1, 1) := by decide +kernel
theorem dX11_isSame_5 : decode cX11_isSame 5 = .ok (.iaload, 1) := by decide +kernel
theorem dX11_isSame_6 : decode cX11_isSame 6 = .ok (.aload_n 0, 1) := by decide +kernel
theorem dX11_isSame_7 : decode cX11_isSame 7 = .ok (.getfield 29, 3) := by decide +kernel
theorem dX11_isSame_10 : decode cX11_isSame 10 = .ok (.iload_n 2, 1) := by decide +kernel
theorem dX11_isSame_11 : decode cX11_isSame 11 = .ok (.iaload, 1) := by decide +kernel
theorem dX11_isSame_12 : decode cX11_isSame 12 = .ok (.if_icmp .ne 7, 3) := by decide +kernel
theorem dX11_isSame_15 : decode cX11_isSame 15 = .ok (.iconst 1, 1) := by decide +kernel
theorem dX11_isSame_16 : decode cX11_isSame 16 = .ok (.goto 4, 3) := by decide +kernel
theorem dX11_isSame_19 : decode cX11_isSame 19 = .ok (.iconst 0, 1) := by decide +kernel
theorem dX11_isSame_20 : decode cX11_isSame 20 = .ok (.istore_n 3, 1) := by decide +kernel
theorem dX11_isSame_21 : decode cX11_isSame 21 = .ok (.iconst 0, 1) := by decide +kernel
theorem dX11_isSame_22 : decode cX11_isSame 22 = .ok (.istore 4, 2) := by decide +kernel
theorem dX11_isSame_24 : decode cX11_isSame 24 = .ok (.iload 4, 2) := by decide +kernel
theorem dX11_isSame_26 : decode cX11_isSame 26 = .ok (.aload_n 0, 1) := by decide +kernel
theorem dX11_isSame_27 : decode cX11_isSame 27 = .ok (.getfield 29, 3) := by decide +kernel
theorem dX11_isSame_30 : decode cX11_isSame 30 = .ok (.iload_n 1, 1) := by decide +kernel
theorem dX11_isSame_31 : decode cX11_isSame 31 = .ok (.iaload, 1) := by decide +kernel
theorem dX11_isSame_32 : decode cX11_isSame 32 = .ok (.if_icmp .ge 46, 3) := by decide +kernel
theorem dX11_isSame_35 : decode cX11_isSame 35 = .ok (.iload_n 3, 1) := by decide +kernel
theorem dX11_isSame_36 : decode cX11_isSame 36 = .ok (.ifCond .eq 42, 3) := by decide +kernel
theorem dX11_isSame_39 : decode cX11_isSame 39 = .ok (.aload_n 0, 1) := by decide +kernel
theorem dX11_isSame_40 : decode cX11_isSame 40 = .ok (.getfield 32, 3) := by decide +kernel
theorem dX11_isSame_43 : decode cX11_isSame 43 = .ok (.bipush 10, 2) := by decide +kernel
theorem dX11_isSame_45 : decode cX11_isSame 45 = .ok (.iload_n 1, 1) := by decide +kernel
theorem dX11_isSame_46 : decode cX11_isSame 46 = .ok (.imul, 1) := by decide +kernel
theorem dX11_isSame_47 : decode cX11_isSame 47 = .ok (.iload 4, 2) := by decide +kernel
theorem dX11_isSame_49 : decode cX11_isSame 49 = .ok (.iadd, 1) := by decide +kernel
theorem dX11_isSame_50 : decode cX11_isSame 50 = .ok (.iaload, 1) := by decide +kernel
theorem dX11_isSame_51 : decode cX11_isSame 51 = .ok (.aload_n 0, 1) := by decide +kernel
theorem dX11_isSame_52 : decode cX11_isSame 52 = .ok (.getfield 32, 3) := by decide +kernel
theorem dX11_isSame_55 : decode cX11_isSame 55 = .ok (.bipush 10, 2) := by decide +kernel
theorem dX11_isSame_57 : decode cX11_isSame 57 = .ok (.iload_n 2, 1) := by decide +kernel
theorem dX11_isSame_58 : decode cX11_isSame 58 = .ok (.imul, 1) := by decide +kernel
theorem dX11_isSame_59 : decode cX11_isSame 59 = .ok (.iload 4, 2) := by decide +kernel
theorem dX11_isSame_61 : decode cX11_isSame 61 = .ok (.iadd, 1) := by decide +kernel
theorem dX11_isSame_62 : decode cX11_isSame 62 = .ok (.iaload, 1) := by decide +kernel
theorem dX11_isSame_63 : decode cX11_isSame 63 = .ok (.if_icmp .ne 7, 3) := by decide +kernel
theorem dX11_isSame_66 : decode cX11_isSame 66 = .ok (.iconst 1, 1) := by decide +kernel
theorem dX11_isSame_67 : decode cX11_isSame 67 = .ok (.goto 4, 3) := by decide +kernel
theorem dX11_isSame_70 : decode cX11_isSame 70 = .ok (.iconst 0, 1) := by decide +kernel
theorem dX11_isSame_71 : decode cX11_isSame 71 = .ok (.istore_n 3, 1) := by decide +kernel
theorem dX11_isSame_72 : decode cX11_isSame 72 = .ok (.iinc 4 1, 3) := by decide +kernel
theorem dX11_isSame_75 : decode cX11_isSame 75 = .ok (.goto (-51), 3) := by decide +kernel
theorem dX11_isSame_78 : decode cX11_isSame 78 = .ok (.iload_n 3, 1) := by decide +kernel
theorem dX11_isSame_79 : decode cX11_isSame 79 = .ok (.ireturn, 1) := by decide +kernel
set_option maxRecDepth 20000 in
theorem ggX11_same_X11_isSame : GoodIn wsX11_same wsX11_isSame := goodIn_r _ [6, 7, 8, 9, 10, 11, 12, 13, 14, 15, 16, 17, 18, 19, 20, 21, 22, 23, 24, 25, 26] (by decide +kernel) (by decide +kernel)
set_option maxRecDepth 20000 in
theorem gX11_same_X11_isSame : GoodIn wsX11_same (wsV RX11 86 RX11 yX11_isSame wsX11_isSame) := goodIn_app (goodIn_of _ (by decide +kernel)) ggX11_same_X11_isSame
theorem dX11_same_0 : decode cX11_same 0 = .ok (.iconst 0, 1) := by decide +kernel
theorem dX11_same_1 : decode cX11_same 1 = .ok (.istore_n 2, 1) := by decide +kernel
theorem dX11_same_2 : decode cX11_same 2 = .ok (.iconst 0, 1) := by decide +kernel
theorem dX11_same_3 : decode cX11_same 3 = .ok (.istore_n 3, 1) := by decide +kernel
theorem dX11_same_4 : decode cX11_same 4 = .ok (.iload_n 3, 1) := by decide +kernel
theorem dX11_same_5 : decode cX11_same 5 = .ok (.aload_n 0, 1) := by decide +kernel
theorem dX11_same_6 : decode cX11_same 6 = .ok (.getfield 7, 3) := by decide +kernel
theorem dX11_same_9 : decode cX11_same 9 = .ok (.iconst 0, 1) := by decide +kernel
theorem dX11_same_10 : decode cX11_same 10 = .ok (.iaload, 1) := by decide +kernel
theorem dX11_same_11 : decode cX11_same 11 = .ok (.if_icmp .ge 28, 3) := by decide +kernel
theorem dX11_same_14 : decode cX11_same 14 = .ok (.iload_n 2, 1) := by decide +kernel
theorem dX11_same_15 : decode cX11_same 15 = .ok (.aload_n 0, 1) := by decide +kernel
theorem dX11_same_16 : decode cX11_same 16 = .ok (.iload_n 1, 1) := by decide +kernel
theorem dX11_same_17 : decode cX11_same 17 = .ok (.iload_n 3, 1) := by decide +kernel
theorem dX11_same_18 : decode cX11_same 18 = .ok (.invokevirtual 86, 3) := by decide +kernel
theorem dX11_same_21 : decode cX11_same 21 = .ok (.ifCond .eq 9, 3) := by decide +kernel
theorem dX11_same_24 : decode cX11_same 24 = .ok (.iconst 1, 1) := by decide +kernel
theorem dX11_same_25 : decode cX11_same 25 = .ok (.iload_n 3, 1) := by decide +kernel
theorem dX11_same_26 : decode cX11_same 26 = .ok (.ishl, 1) := by decide +kernel
theorem dX11_same_27 : decode cX11_same 27 = .ok (.goto 4, 3) := by decide +kernel
theorem dX11_same_30 : decode cX11_same 30 = .ok (.iconst 0, 1) := by decide +kernel
theorem dX11_same_31 : decode cX11_same 31 = .ok (.ior, 1) := by decide +kernel
theorem dX11_same_32 : decode cX11_same 32 = .ok (.istore_n 2, 1) := by decide +kernel
theorem dX11_same_33 : decode cX11_same 33 = .ok (.iinc 3 1, 3) := by decide +kernel
theorem dX11_same_36 : decode cX11_same 36 = .ok (.goto (-32), 3) := by decide +kernel
theorem dX11_same_39 : decode cX11_same 39 = .ok (.iload_n 2, 1) := by decide +kernel
theorem dX11_same_40 : decode cX11_same 40 = .ok (.ireturn, 1) := by decide +kernel
set_option maxRecDepth 20000 in
theorem ggX11_coats_X11_lays : GoodIn wsX11_coats wsX11_lays := goodIn_r _ [6, 1, 7, 8, 9, 5, 10, 11, 12, 13, 14, 15, 16, 17, 18, 19, 20, 21, 22, 23, 24, 25, 26, 27, 28, 29, 30, 31, 32, 33, 34, 35, 36, 45, 46, 47, 48, 49, 50, 51, 52, 53, 54, 55, 56, 57, 58, 59, 60, 61, 62] (by decide +kernel) (by decide +kernel)
set_option maxRecDepth 20000 in
theorem gX11_coats_X11_lays : GoodIn wsX11_coats (wsV RX11 90 RX11 yX11_lays wsX11_lays) := goodIn_app (goodIn_of _ (by decide +kernel)) ggX11_coats_X11_lays
set_option maxRecDepth 20000 in
theorem ggX11_coats_X11_same : GoodIn wsX11_coats wsX11_same := goodIn_r _ [40, 1, 41, 42, 43, 5, 44, 11, 31, 45, 46, 47, 48, 49, 50, 51, 52, 53, 54, 55, 56, 57, 58, 59, 60, 61, 62] (by decide +kernel) (by decide +kernel)
set_option maxRecDepth 20000 in
theorem gX11_coats_X11_same : GoodIn wsX11_coats (wsV RX11 93 RX11 yX11_same wsX11_same) := goodIn_app (goodIn_of _ (by decide +kernel)) ggX11_coats_X11_same
theorem dX11_coats_0 : decode cX11_coats 0 = .ok (.aload_n 0, 1) := by decide +kernel
theorem dX11_coats_1 : decode cX11_coats 1 = .ok (.invokevirtual 90, 3) := by decide +kernel
theorem dX11_coats_4 : decode cX11_coats 4 = .ok (.iconst 0, 1) := by decide +kernel
theorem dX11_coats_5 : decode cX11_coats 5 = .ok (.istore_n 1, 1) := by decide +kernel
theorem dX11_coats_6 : decode cX11_coats 6 = .ok (.iconst 0, 1) := by decide +kernel
theorem dX11_coats_7 : decode cX11_coats 7 = .ok (.istore_n 2, 1) := by decide +kernel
theorem dX11_coats_8 : decode cX11_coats 8 = .ok (.iload_n 2, 1) := by decide +kernel
theorem dX11_coats_9 : decode cX11_coats 9 = .ok (.aload_n 0, 1) := by decide +kernel
theorem dX11_coats_10 : decode cX11_coats 10 = .ok (.getfield 7, 3) := by decide +kernel
theorem dX11_coats_13 : decode cX11_coats 13 = .ok (.iconst 0, 1) := by decide +kernel
theorem dX11_coats_14 : decode cX11_coats 14 = .ok (.iaload, 1) := by decide +kernel
theorem dX11_coats_15 : decode cX11_coats 15 = .ok (.if_icmp .ge 31, 3) := by decide +kernel
theorem dX11_coats_18 : decode cX11_coats 18 = .ok (.iload_n 1, 1) := by decide +kernel
theorem dX11_coats_19 : decode cX11_coats 19 = .ok (.aload_n 0, 1) := by decide +kernel
theorem dX11_coats_20 : decode cX11_coats 20 = .ok (.iload_n 2, 1) := by decide +kernel
theorem dX11_coats_21 : decode cX11_coats 21 = .ok (.invokevirtual 93, 3) := by decide +kernel
theorem dX11_coats_24 : decode cX11_coats 24 = .ok (.iconst 1, 1) := by decide +kernel
theorem dX11_coats_25 : decode cX11_coats 25 = .ok (.iload_n 2, 1) := by decide +kernel
theorem dX11_coats_26 : decode cX11_coats 26 = .ok (.ishl, 1) := by decide +kernel
theorem dX11_coats_27 : decode cX11_coats 27 = .ok (.iconst 1, 1) := by decide +kernel
theorem dX11_coats_28 : decode cX11_coats 28 = .ok (.isub, 1) := by decide +kernel
theorem dX11_coats_29 : decode cX11_coats 29 = .ok (.iand, 1) := by decide +kernel
theorem dX11_coats_30 : decode cX11_coats 30 = .ok (.ifCond .ne 7, 3) := by decide +kernel
theorem dX11_coats_33 : decode cX11_coats 33 = .ok (.iconst 1, 1) := by decide +kernel
theorem dX11_coats_34 : decode cX11_coats 34 = .ok (.goto 4, 3) := by decide +kernel
theorem dX11_coats_37 : decode cX11_coats 37 = .ok (.iconst 0, 1) := by decide +kernel
theorem dX11_coats_38 : decode cX11_coats 38 = .ok (.iadd, 1) := by decide +kernel
theorem dX11_coats_39 : decode cX11_coats 39 = .ok (.istore_n 1, 1) := by decide +kernel
theorem dX11_coats_40 : decode cX11_coats 40 = .ok (.iinc 2 1, 3) := by decide +kernel
theorem dX11_coats_43 : decode cX11_coats 43 = .ok (.goto (-35), 3) := by decide +kernel
theorem dX11_coats_46 : decode cX11_coats 46 = .ok (.iload_n 1, 1) := by decide +kernel
theorem dX11_coats_47 : decode cX11_coats 47 = .ok (.ireturn, 1) := by decide +kernel
theorem dX11_atLeast_0 : decode cX11_atLeast 0 = .ok (.aload_n 0, 1) := by decide +kernel
theorem dX11_atLeast_1 : decode cX11_atLeast 1 = .ok (.getfield 38, 3) := by decide +kernel
theorem dX11_atLeast_4 : decode cX11_atLeast 4 = .ok (.iload_n 1, 1) := by decide +kernel
theorem dX11_atLeast_5 : decode cX11_atLeast 5 = .ok (.iaload, 1) := by decide +kernel
theorem dX11_atLeast_6 : decode cX11_atLeast 6 = .ok (.iload_n 3, 1) := by decide +kernel
theorem dX11_atLeast_7 : decode cX11_atLeast 7 = .ok (.iadd, 1) := by decide +kernel
theorem dX11_atLeast_8 : decode cX11_atLeast 8 = .ok (.aload_n 0, 1) := by decide +kernel
theorem dX11_atLeast_9 : decode cX11_atLeast 9 = .ok (.getfield 38, 3) := by decide +kernel
theorem dX11_atLeast_12 : decode cX11_atLeast 12 = .ok (.iload_n 2, 1) := by decide +kernel
theorem dX11_atLeast_13 : decode cX11_atLeast 13 = .ok (.iaload, 1) := by decide +kernel
theorem dX11_atLeast_14 : decode cX11_atLeast 14 = .ok (.if_icmp .le 22, 3) := by decide +kernel
theorem dX11_atLeast_17 : decode cX11_atLeast 17 = .ok (.aload_n 0, 1) := by decide +kernel
theorem dX11_atLeast_18 : decode cX11_atLeast 18 = .ok (.getfield 38, 3) := by decide +kernel
theorem dX11_atLeast_21 : decode cX11_atLeast 21 = .ok (.iload_n 2, 1) := by decide +kernel
theorem dX11_atLeast_22 : decode cX11_atLeast 22 = .ok (.aload_n 0, 1) := by decide +kernel
theorem dX11_atLeast_23 : decode cX11_atLeast 23 = .ok (.getfield 38, 3) := by decide +kernel
theorem dX11_atLeast_26 : decode cX11_atLeast 26 = .ok (.iload_n 1, 1) := by decide +kernel
theorem dX11_atLeast_27 : decode cX11_atLeast 27 = .ok (.iaload, 1) := by decide +kernel
theorem dX11_atLeast_28 : decode cX11_atLeast 28 = .ok (.iload_n 3, 1) := by decide +kernel
theorem dX11_atLeast_29 : decode cX11_atLeast 29 = .ok (.iadd, 1) := by decide +kernel
theorem dX11_atLeast_30 : decode cX11_atLeast 30 = .ok (.iastore, 1) := by decide +kernel
theorem dX11_atLeast_31 : decode cX11_atLeast 31 = .ok (.aload_n 0, 1) := by decide +kernel
theorem dX11_atLeast_32 : decode cX11_atLeast 32 = .ok (.iconst 1, 1) := by decide +kernel
theorem dX11_atLeast_33 : decode cX11_atLeast 33 = .ok (.putfield 97, 3) := by decide +kernel
theorem dX11_atLeast_36 : decode cX11_atLeast 36 = .ok (.aload_n 0, 1) := by decide +kernel
theorem dX11_atLeast_37 : decode cX11_atLeast 37 = .ok (.getfield 41, 3) := by decide +kernel
theorem dX11_atLeast_40 : decode cX11_atLeast 40 = .ok (.iload_n 2, 1) := by decide +kernel
theorem dX11_atLeast_41 : decode cX11_atLeast 41 = .ok (.iaload, 1) := by decide +kernel
theorem dX11_atLeast_42 : decode cX11_atLeast 42 = .ok (.iload_n 3, 1) := by decide +kernel
theorem dX11_atLeast_43 : decode cX11_atLeast 43 = .ok (.isub, 1) := by decide +kernel
theorem dX11_atLeast_44 : decode cX11_atLeast 44 = .ok (.aload_n 0, 1) := by decide +kernel
theorem dX11_atLeast_45 : decode cX11_atLeast 45 = .ok (.getfield 41, 3) := by decide +kernel
theorem dX11_atLeast_48 : decode cX11_atLeast 48 = .ok (.iload_n 1, 1) := by decide +kernel
theorem dX11_atLeast_49 : decode cX11_atLeast 49 = .ok (.iaload, 1) := by decide +kernel
theorem dX11_atLeast_50 : decode cX11_atLeast 50 = .ok (.if_icmp .ge 22, 3) := by decide +kernel
theorem dX11_atLeast_53 : decode cX11_atLeast 53 = .ok (.aload_n 0, 1) := by decide +kernel
theorem dX11_atLeast_54 : decode cX11_atLeast 54 = .ok (.getfield 41, 3) := by decide +kernel
theorem dX11_atLeast_57 : decode cX11_atLeast 57 = .ok (.iload_n 1, 1) := by decide +kernel
theorem dX11_atLeast_58 : decode cX11_atLeast 58 = .ok (.aload_n 0, 1) := by decide +kernel
theorem dX11_atLeast_59 : decode cX11_atLeast 59 = .ok (.getfield 41, 3) := by decide +kernel
theorem dX11_atLeast_62 : decode cX11_atLeast 62 = .ok (.iload_n 2, 1) := by decide +kernel
theorem dX11_atLeast_63 : decode cX11_atLeast 63 = .ok (.iaload, 1) := by decide +kernel
theorem dX11_atLeast_64 : decode cX11_atLeast 64 = .ok (.iload_n 3, 1) := by decide +kernel
theorem dX11_atLeast_65 : decode cX11_atLeast 65 = .ok (.isub, 1) := by decide +kernel
theorem dX11_atLeast_66 : decode cX11_atLeast 66 = .ok (.iastore, 1) := by decide +kernel
theorem dX11_atLeast_67 : decode cX11_atLeast 67 = .ok (.aload_n 0, 1) := by decide +kernel
theorem dX11_atLeast_68 : decode cX11_atLeast 68 = .ok (.iconst 1, 1) := by decide +kernel
theorem dX11_atLeast_69 : decode cX11_atLeast 69 = .ok (.putfield 97, 3) := by decide +kernel
theorem dX11_atLeast_72 : decode cX11_atLeast 72 = .ok (.return_, 1) := by decide +kernel
theorem dX11_isSpoiled_0 : decode cX11_isSpoiled 0 = .ok (.iconst 0, 1) := by decide +kernel
theorem dX11_isSpoiled_1 : decode cX11_isSpoiled 1 = .ok (.istore_n 1, 1) := by decide +kernel
theorem dX11_isSpoiled_2 : decode cX11_isSpoiled 2 = .ok (.iconst 0, 1) := by decide +kernel
theorem dX11_isSpoiled_3 : decode cX11_isSpoiled 3 = .ok (.istore_n 2, 1) := by decide +kernel
theorem dX11_isSpoiled_4 : decode cX11_isSpoiled 4 = .ok (.iload_n 2, 1) := by decide +kernel
theorem dX11_isSpoiled_5 : decode cX11_isSpoiled 5 = .ok (.aload_n 0, 1) := by decide +kernel
theorem dX11_isSpoiled_6 : decode cX11_isSpoiled 6 = .ok (.getfield 7, 3) := by decide +kernel
theorem dX11_isSpoiled_9 : decode cX11_isSpoiled 9 = .ok (.iconst 0, 1) := by decide +kernel
theorem dX11_isSpoiled_10 : decode cX11_isSpoiled 10 = .ok (.iaload, 1) := by decide +kernel
theorem dX11_isSpoiled_11 : decode cX11_isSpoiled 11 = .ok (.if_icmp .ge 55, 3) := by decide +kernel
theorem dX11_isSpoiled_14 : decode cX11_isSpoiled 14 = .ok (.iload_n 1, 1) := by decide +kernel
theorem dX11_isSpoiled_15 : decode cX11_isSpoiled 15 = .ok (.ifCond .ne 39, 3) := by decide +kernel
theorem dX11_isSpoiled_18 : decode cX11_isSpoiled 18 = .ok (.aload_n 0, 1) := by decide +kernel
theorem dX11_isSpoiled_19 : decode cX11_isSpoiled 19 = .ok (.getfield 38, 3) := by decide +kernel
theorem dX11_isSpoiled_22 : decode cX11_isSpoiled 22 = .ok (.iload_n 2, 1) := by decide +kernel
theorem dX11_isSpoiled_23 : decode cX11_isSpoiled 23 = .ok (.iaload, 1) := by decide +kernel
theorem dX11_isSpoiled_24 : decode cX11_isSpoiled 24 = .ok (.aload_n 0, 1) := by decide +kernel
theorem dX11_isSpoiled_25 : decode cX11_isSpoiled 25 = .ok (.getfield 41, 3) := by decide +kernel
theorem dX11_isSpoiled_28 : decode cX11_isSpoiled 28 = .ok (.iload_n 2, 1) := by decide +kernel
theorem dX11_isSpoiled_29 : decode cX11_isSpoiled 29 = .ok (.iaload, 1) := by decide +kernel
theorem dX11_isSpoiled_30 : decode cX11_isSpoiled 30 = .ok (.if_icmp .gt 24, 3) := by decide +kernel
theorem dX11_isSpoiled_33 : decode cX11_isSpoiled 33 = .ok (.aload_n 0, 1) := by decide +kernel
theorem dX11_isSpoiled_34 : decode cX11_isSpoiled 34 = .ok (.getfield 38, 3) := by decide +kernel
theorem dX11_isSpoiled_37 : decode cX11_isSpoiled 37 = .ok (.bipush 16, 2) := by decide +kernel
theorem dX11_isSpoiled_39 : decode cX11_isSpoiled 39 = .ok (.iload_n 2, 1) := by decide +kernel
theorem dX11_isSpoiled_40 : decode cX11_isSpoiled 40 = .ok (.iadd, 1) := by decide +kernel
theorem dX11_isSpoiled_41 : decode cX11_isSpoiled 41 = .ok (.iaload, 1) := by decide +kernel
theorem dX11_isSpoiled_42 : decode cX11_isSpoiled 42 = .ok (.aload_n 0, 1) := by decide +kernel
theorem dX11_isSpoiled_43 : decode cX11_isSpoiled 43 = .ok (.getfield 41, 3) := by decide +kernel
theorem dX11_isSpoiled_46 : decode cX11_isSpoiled 46 = .ok (.bipush 16, 2) := by decide +kernel
theorem dX11_isSpoiled_48 : decode cX11_isSpoiled 48 = .ok (.iload_n 2, 1) := by decide +kernel
theorem dX11_isSpoiled_49 : decode cX11_isSpoiled 49 = .ok (.iadd, 1) := by decide +kernel
theorem dX11_isSpoiled_50 : decode cX11_isSpoiled 50 = .ok (.iaload, 1) := by decide +kernel
theorem dX11_isSpoiled_51 : decode cX11_isSpoiled 51 = .ok (.if_icmp .le 7, 3) := by decide +kernel
theorem dX11_isSpoiled_54 : decode cX11_isSpoiled 54 = .ok (.iconst 1, 1) := by decide +kernel
theorem dX11_isSpoiled_55 : decode cX11_isSpoiled 55 = .ok (.goto 4, 3) := by decide +kernel
theorem dX11_isSpoiled_58 : decode cX11_isSpoiled 58 = .ok (.iconst 0, 1) := by decide +kernel
theorem dX11_isSpoiled_59 : decode cX11_isSpoiled 59 = .ok (.istore_n 1, 1) := by decide +kernel
theorem dX11_isSpoiled_60 : decode cX11_isSpoiled 60 = .ok (.iinc 2 1, 3) := by decide +kernel
theorem dX11_isSpoiled_63 : decode cX11_isSpoiled 63 = .ok (.goto (-59), 3) := by decide +kernel
theorem dX11_isSpoiled_66 : decode cX11_isSpoiled 66 = .ok (.iload_n 1, 1) := by decide +kernel
theorem dX11_isSpoiled_67 : decode cX11_isSpoiled 67 = .ok (.ireturn, 1) := by decide +kernel
set_option maxRecDepth 20000 in
theorem ggX11_narrowsOne_X11_atLeast : GoodIn wsX11_narrowsOne wsX11_atLeast := goodIn_r _ [6, 7, 8, 9, 10, 11, 12, 13, 14, 15, 16, 17, 18, 19, 20, 21, 22, 23, 24, 25, 26, 27] (by decide +kernel) (by decide +kernel)
set_option maxRecDepth 20000 in
theorem gX11_narrowsOne_X11_atLeast : GoodIn wsX11_narrowsOne (wsV RX11 101 RX11 yX11_atLeast wsX11_atLeast) := goodIn_app (goodIn_of _ (by decide +kernel)) ggX11_narrowsOne_X11_atLeast
theorem dX11_narrowsOne_0 : decode cX11_narrowsOne 0 = .ok (.bipush 16, 2) := by decide +kernel
theorem dX11_narrowsOne_2 : decode cX11_narrowsOne 2 = .ok (.iload_n 1, 1) := by decide +kernel
theorem dX11_narrowsOne_3 : decode cX11_narrowsOne 3 = .ok (.iadd, 1) := by decide +kernel
theorem dX11_narrowsOne_4 : decode cX11_narrowsOne 4 = .ok (.istore_n 2, 1) := by decide +kernel
theorem dX11_narrowsOne_5 : decode cX11_narrowsOne 5 = .ok (.aload_n 0, 1) := by decide +kernel
theorem dX11_narrowsOne_6 : decode cX11_narrowsOne 6 = .ok (.getfield 7, 3) := by decide +kernel
theorem dX11_narrowsOne_9 : decode cX11_narrowsOne 9 = .ok (.bipush 45, 2) := by decide +kernel
theorem dX11_narrowsOne_11 : decode cX11_narrowsOne 11 = .ok (.iload_n 1, 1) := by decide +kernel
theorem dX11_narrowsOne_12 : decode cX11_narrowsOne 12 = .ok (.iadd, 1) := by decide +kernel
theorem dX11_narrowsOne_13 : decode cX11_narrowsOne 13 = .ok (.iaload, 1) := by decide +kernel
theorem dX11_narrowsOne_14 : decode cX11_narrowsOne 14 = .ok (.istore_n 3, 1) := by decide +kernel
theorem dX11_narrowsOne_15 : decode cX11_narrowsOne 15 = .ok (.aload_n 0, 1) := by decide +kernel
theorem dX11_narrowsOne_16 : decode cX11_narrowsOne 16 = .ok (.getfield 7, 3) := by decide +kernel
theorem dX11_narrowsOne_19 : decode cX11_narrowsOne 19 = .ok (.bipush 61, 2) := by decide +kernel
theorem dX11_narrowsOne_21 : decode cX11_narrowsOne 21 = .ok (.iload_n 1, 1) := by decide +kernel
theorem dX11_narrowsOne_22 : decode cX11_narrowsOne 22 = .ok (.iadd, 1) := by decide +kernel
theorem dX11_narrowsOne_23 : decode cX11_narrowsOne 23 = .ok (.iaload, 1) := by decide +kernel
theorem dX11_narrowsOne_24 : decode cX11_narrowsOne 24 = .ok (.istore 4, 2) := by decide +kernel
theorem dX11_narrowsOne_26 : decode cX11_narrowsOne 26 = .ok (.aload_n 0, 1) := by decide +kernel
theorem dX11_narrowsOne_27 : decode cX11_narrowsOne 27 = .ok (.iload_n 1, 1) := by decide +kernel
theorem dX11_narrowsOne_28 : decode cX11_narrowsOne 28 = .ok (.iload_n 2, 1) := by decide +kernel
theorem dX11_narrowsOne_29 : decode cX11_narrowsOne 29 = .ok (.iconst 0, 1) := by decide +kernel
theorem dX11_narrowsOne_30 : decode cX11_narrowsOne 30 = .ok (.invokevirtual 101, 3) := by decide +kernel
theorem dX11_narrowsOne_33 : decode cX11_narrowsOne 33 = .ok (.aload_n 0, 1) := by decide +kernel
theorem dX11_narrowsOne_34 : decode cX11_narrowsOne 34 = .ok (.iload_n 2, 1) := by decide +kernel
theorem dX11_narrowsOne_35 : decode cX11_narrowsOne 35 = .ok (.iload_n 1, 1) := by decide +kernel
theorem dX11_narrowsOne_36 : decode cX11_narrowsOne 36 = .ok (.bipush (-100), 2) := by decide +kernel
theorem dX11_narrowsOne_38 : decode cX11_narrowsOne 38 = .ok (.invokevirtual 101, 3) := by decide +kernel
theorem dX11_narrowsOne_41 : decode cX11_narrowsOne 41 = .ok (.iload_n 3, 1) := by decide +kernel
theorem dX11_narrowsOne_42 : decode cX11_narrowsOne 42 = .ok (.iconst (-1), 1) := by decide +kernel
theorem dX11_narrowsOne_43 : decode cX11_narrowsOne 43 = .ok (.if_icmp .eq 21, 3) := by decide +kernel
theorem dX11_narrowsOne_46 : decode cX11_narrowsOne 46 = .ok (.aload_n 0, 1) := by decide +kernel
theorem dX11_narrowsOne_47 : decode cX11_narrowsOne 47 = .ok (.iload_n 3, 1) := by decide +kernel
theorem dX11_narrowsOne_48 : decode cX11_narrowsOne 48 = .ok (.iload_n 1, 1) := by decide +kernel
theorem dX11_narrowsOne_49 : decode cX11_narrowsOne 49 = .ok (.bipush 15, 2) := by decide +kernel
theorem dX11_narrowsOne_51 : decode cX11_narrowsOne 51 = .ok (.invokevirtual 101, 3) := by decide +kernel
theorem dX11_narrowsOne_54 : decode cX11_narrowsOne 54 = .ok (.aload_n 0, 1) := by decide +kernel
theorem dX11_narrowsOne_55 : decode cX11_narrowsOne 55 = .ok (.iload_n 1, 1) := by decide +kernel
theorem dX11_narrowsOne_56 : decode cX11_narrowsOne 56 = .ok (.bipush 16, 2) := by decide +kernel
theorem dX11_narrowsOne_58 : decode cX11_narrowsOne 58 = .ok (.iload_n 3, 1) := by decide +kernel
theorem dX11_narrowsOne_59 : decode cX11_narrowsOne 59 = .ok (.iadd, 1) := by decide +kernel
theorem dX11_narrowsOne_60 : decode cX11_narrowsOne 60 = .ok (.iconst (-1), 1) := by decide +kernel
theorem dX11_narrowsOne_61 : decode cX11_narrowsOne 61 = .ok (.invokevirtual 101, 3) := by decide +kernel
theorem dX11_narrowsOne_64 : decode cX11_narrowsOne 64 = .ok (.iload 4, 2) := by decide +kernel
theorem dX11_narrowsOne_66 : decode cX11_narrowsOne 66 = .ok (.iconst (-1), 1) := by decide +kernel
theorem dX11_narrowsOne_67 : decode cX11_narrowsOne 67 = .ok (.if_icmp .eq 32, 3) := by decide +kernel
theorem dX11_narrowsOne_70 : decode cX11_narrowsOne 70 = .ok (.aload_n 0, 1) := by decide +kernel
theorem dX11_narrowsOne_71 : decode cX11_narrowsOne 71 = .ok (.iload 4, 2) := by decide +kernel
theorem dX11_narrowsOne_73 : decode cX11_narrowsOne 73 = .ok (.iload_n 1, 1) := by decide +kernel
theorem dX11_narrowsOne_74 : decode cX11_narrowsOne 74 = .ok (.bipush 15, 2) := by decide +kernel
theorem dX11_narrowsOne_76 : decode cX11_narrowsOne 76 = .ok (.invokevirtual 101, 3) := by decide +kernel
theorem dX11_narrowsOne_79 : decode cX11_narrowsOne 79 = .ok (.aload_n 0, 1) := by decide +kernel
theorem dX11_narrowsOne_80 : decode cX11_narrowsOne 80 = .ok (.iload_n 1, 1) := by decide +kernel
theorem dX11_narrowsOne_81 : decode cX11_narrowsOne 81 = .ok (.iload 4, 2) := by decide +kernel
theorem dX11_narrowsOne_83 : decode cX11_narrowsOne 83 = .ok (.bipush (-50), 2) := by decide +kernel
theorem dX11_narrowsOne_85 : decode cX11_narrowsOne 85 = .ok (.invokevirtual 101, 3) := by decide +kernel
theorem dX11_narrowsOne_88 : decode cX11_narrowsOne 88 = .ok (.aload_n 0, 1) := by decide +kernel
theorem dX11_narrowsOne_89 : decode cX11_narrowsOne 89 = .ok (.iload_n 1, 1) := by decide +kernel
theorem dX11_narrowsOne_90 : decode cX11_narrowsOne 90 = .ok (.bipush 16, 2) := by decide +kernel
theorem dX11_narrowsOne_92 : decode cX11_narrowsOne 92 = .ok (.iload 4, 2) := by decide +kernel
theorem dX11_narrowsOne_94 : decode cX11_narrowsOne 94 = .ok (.iadd, 1) := by decide +kernel
theorem dX11_narrowsOne_95 : decode cX11_narrowsOne 95 = .ok (.iconst 0, 1) := by decide +kernel
theorem dX11_narrowsOne_96 : decode cX11_narrowsOne 96 = .ok (.invokevirtual 101, 3) := by decide +kernel
theorem dX11_narrowsOne_99 : decode cX11_narrowsOne 99 = .ok (.return_, 1) := by decide +kernel
set_option maxRecDepth 20000 in
theorem ggX11_narrows_X11_isSpoiled : GoodIn wsX11_narrows wsX11_isSpoiled := goodIn_r _ [9, 1, 2, 3, 18, 19, 20, 21, 22, 23, 24, 25, 26, 27, 28, 29, 30, 31, 32, 33, 34, 35] (by decide +kernel) (by decide +kernel)
set_option maxRecDepth 20000 in
theorem gX11_narrows_X11_isSpoiled : GoodIn wsX11_narrows (wsV RX11 104 RX11 yX11_isSpoiled wsX11_isSpoiled) := goodIn_app (goodIn_of _ (by decide +kernel)) ggX11_narrows_X11_isSpoiled
set_option maxRecDepth 20000 in
theorem ggX11_narrows_X11_narrowsOne : GoodIn wsX11_narrows wsX11_narrowsOne := goodIn_r _ [13, 1, 14, 15, 16, 8, 17, 2, 4, 3, 18, 19, 20, 21, 22, 23, 24, 25, 26, 27, 28, 29, 30, 31, 32, 33, 34, 35] (by decide +kernel) (by decide +kernel)
set_option maxRecDepth 20000 in
theorem gX11_narrows_X11_narrowsOne : GoodIn wsX11_narrows (wsV RX11 108 RX11 yX11_narrowsOne wsX11_narrowsOne) := goodIn_app (goodIn_of _ (by decide +kernel)) ggX11_narrows_X11_narrowsOne
