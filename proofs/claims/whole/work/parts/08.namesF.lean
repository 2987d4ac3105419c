theorem dX11_kin_0 : decode cX11_kin 0 = .ok (.aload_n 0, 1) := by decide +kernel
theorem dX11_kin_1 : decode cX11_kin 1 = .ok (.iload_n 1, 1) := by decide +kernel
theorem dX11_kin_2 : decode cX11_kin 2 = .ok (.invokevirtual 65, 3) := by decide +kernel
theorem dX11_kin_5 : decode cX11_kin 5 = .ok (.ifCond .eq 11, 3) := by decide +kernel
theorem dX11_kin_8 : decode cX11_kin 8 = .ok (.aload_n 0, 1) := by decide +kernel
theorem dX11_kin_9 : decode cX11_kin 9 = .ok (.iload_n 2, 1) := by decide +kernel
theorem dX11_kin_10 : decode cX11_kin 10 = .ok (.invokevirtual 65, 3) := by decide +kernel
theorem dX11_kin_13 : decode cX11_kin 13 = .ok (.ifCond .ne 6, 3) := by decide +kernel
theorem dX11_kin_16 : decode cX11_kin 16 = .ok (.ldc 148, 2) := by decide +kernel
theorem dX11_kin_18 : decode cX11_kin 18 = .ok (.ireturn, 1) := by decide +kernel
theorem dX11_kin_19 : decode cX11_kin 19 = .ok (.iload_n 3, 1) := by decide +kernel
theorem dX11_kin_20 : decode cX11_kin 20 = .ok (.i2l, 1) := by decide +kernel
theorem dX11_kin_21 : decode cX11_kin 21 = .ok (.lconst 0, 1) := by decide +kernel
theorem dX11_kin_22 : decode cX11_kin 22 = .ok (.lconst 1, 1) := by decide +kernel
theorem dX11_kin_23 : decode cX11_kin 23 = .ok (.invokestatic 61, 3) := by decide +kernel
theorem dX11_kin_26 : decode cX11_kin 26 = .ok (.ifCond .ne 6, 3) := by decide +kernel
theorem dX11_kin_29 : decode cX11_kin 29 = .ok (.ldc 147, 2) := by decide +kernel
theorem dX11_kin_31 : decode cX11_kin 31 = .ok (.ireturn, 1) := by decide +kernel
theorem dX11_kin_32 : decode cX11_kin 32 = .ok (.aload_n 0, 1) := by decide +kernel
theorem dX11_kin_33 : decode cX11_kin 33 = .ok (.iload_n 1, 1) := by decide +kernel
theorem dX11_kin_34 : decode cX11_kin 34 = .ok (.aload_n 0, 1) := by decide +kernel
theorem dX11_kin_35 : decode cX11_kin 35 = .ok (.getfield 47, 3) := by decide +kernel
theorem dX11_kin_38 : decode cX11_kin 38 = .ok (.invokevirtual 160, 3) := by decide +kernel
theorem dX11_kin_41 : decode cX11_kin 41 = .ok (.aload_n 0, 1) := by decide +kernel
theorem dX11_kin_42 : decode cX11_kin 42 = .ok (.iload_n 2, 1) := by decide +kernel
theorem dX11_kin_43 : decode cX11_kin 43 = .ok (.aload_n 0, 1) := by decide +kernel
theorem dX11_kin_44 : decode cX11_kin 44 = .ok (.getfield 50, 3) := by decide +kernel
theorem dX11_kin_47 : decode cX11_kin 47 = .ok (.invokevirtual 160, 3) := by decide +kernel
theorem dX11_kin_50 : decode cX11_kin 50 = .ok (.iconst (-1), 1) := by decide +kernel
theorem dX11_kin_51 : decode cX11_kin 51 = .ok (.istore 4, 2) := by decide +kernel
theorem dX11_kin_53 : decode cX11_kin 53 = .ok (.iconst (-1), 1) := by decide +kernel
theorem dX11_kin_54 : decode cX11_kin 54 = .ok (.istore 5, 2) := by decide +kernel
theorem dX11_kin_56 : decode cX11_kin 56 = .ok (.iconst 0, 1) := by decide +kernel
theorem dX11_kin_57 : decode cX11_kin 57 = .ok (.istore 6, 2) := by decide +kernel
theorem dX11_kin_59 : decode cX11_kin 59 = .ok (.iload 6, 2) := by decide +kernel
theorem dX11_kin_61 : decode cX11_kin 61 = .ok (.aload_n 0, 1) := by decide +kernel
theorem dX11_kin_62 : decode cX11_kin 62 = .ok (.getfield 7, 3) := by decide +kernel
theorem dX11_kin_65 : decode cX11_kin 65 = .ok (.iconst 0, 1) := by decide +kernel
theorem dX11_kin_66 : decode cX11_kin 66 = .ok (.iaload, 1) := by decide +kernel
theorem dX11_kin_67 : decode cX11_kin 67 = .ok (.if_icmp .ge 94, 3) := by decide +kernel
theorem dX11_kin_70 : decode cX11_kin 70 = .ok (.aload_n 0, 1) := by decide +kernel
theorem dX11_kin_71 : decode cX11_kin 71 = .ok (.getfield 47, 3) := by decide +kernel
theorem dX11_kin_74 : decode cX11_kin 74 = .ok (.iload 6, 2) := by decide +kernel
theorem dX11_kin_76 : decode cX11_kin 76 = .ok (.iaload, 1) := by decide +kernel
theorem dX11_kin_77 : decode cX11_kin 77 = .ok (.aload_n 0, 1) := by decide +kernel
theorem dX11_kin_78 : decode cX11_kin 78 = .ok (.getfield 50, 3) := by decide +kernel
theorem dX11_kin_81 : decode cX11_kin 81 = .ok (.iload 6, 2) := by decide +kernel
theorem dX11_kin_83 : decode cX11_kin 83 = .ok (.iaload, 1) := by decide +kernel
theorem dX11_kin_84 : decode cX11_kin 84 = .ok (.iadd, 1) := by decide +kernel
theorem dX11_kin_85 : decode cX11_kin 85 = .ok (.istore 7, 2) := by decide +kernel
theorem dX11_kin_87 : decode cX11_kin 87 = .ok (.aload_n 0, 1) := by decide +kernel
theorem dX11_kin_88 : decode cX11_kin 88 = .ok (.getfield 47, 3) := by decide +kernel
theorem dX11_kin_91 : decode cX11_kin 91 = .ok (.iload 6, 2) := by decide +kernel
theorem dX11_kin_93 : decode cX11_kin 93 = .ok (.iaload, 1) := by decide +kernel
theorem dX11_kin_94 : decode cX11_kin 94 = .ok (.ifCond .lt 30, 3) := by decide +kernel
theorem dX11_kin_97 : decode cX11_kin 97 = .ok (.aload_n 0, 1) := by decide +kernel
theorem dX11_kin_98 : decode cX11_kin 98 = .ok (.getfield 50, 3) := by decide +kernel
theorem dX11_kin_101 : decode cX11_kin 101 = .ok (.iload 6, 2) := by decide +kernel
theorem dX11_kin_103 : decode cX11_kin 103 = .ok (.iaload, 1) := by decide +kernel
theorem dX11_kin_104 : decode cX11_kin 104 = .ok (.ifCond .lt 20, 3) := by decide +kernel
theorem dX11_kin_107 : decode cX11_kin 107 = .ok (.iload 4, 2) := by decide +kernel
theorem dX11_kin_109 : decode cX11_kin 109 = .ok (.iconst (-1), 1) := by decide +kernel
theorem dX11_kin_110 : decode cX11_kin 110 = .ok (.if_icmp .eq 10, 3) := by decide +kernel
theorem dX11_kin_113 : decode cX11_kin 113 = .ok (.iload 7, 2) := by decide +kernel
theorem dX11_kin_115 : decode cX11_kin 115 = .ok (.iload 4, 2) := by decide +kernel
theorem dX11_kin_117 : decode cX11_kin 117 = .ok (.if_icmp .gt 7, 3) := by decide +kernel
theorem dX11_kin_120 : decode cX11_kin 120 = .ok (.iconst 1, 1) := by decide +kernel
theorem dX11_kin_121 : decode cX11_kin 121 = .ok (.goto 4, 3) := by decide +kernel
theorem dX11_kin_124 : decode cX11_kin 124 = .ok (.iconst 0, 1) := by decide +kernel
theorem dX11_kin_125 : decode cX11_kin 125 = .ok (.istore 8, 2) := by decide +kernel
theorem dX11_kin_127 : decode cX11_kin 127 = .ok (.iload 8, 2) := by decide +kernel
theorem dX11_kin_129 : decode cX11_kin 129 = .ok (.ifCond .eq 8, 3) := by decide +kernel
theorem dX11_kin_132 : decode cX11_kin 132 = .ok (.iload 7, 2) := by decide +kernel
theorem dX11_kin_134 : decode cX11_kin 134 = .ok (.goto 5, 3) := by decide +kernel
theorem dX11_kin_137 : decode cX11_kin 137 = .ok (.iload 4, 2) := by decide +kernel
theorem dX11_kin_139 : decode cX11_kin 139 = .ok (.istore 4, 2) := by decide +kernel
theorem dX11_kin_141 : decode cX11_kin 141 = .ok (.iload 8, 2) := by decide +kernel
theorem dX11_kin_143 : decode cX11_kin 143 = .ok (.ifCond .eq 8, 3) := by decide +kernel
theorem dX11_kin_146 : decode cX11_kin 146 = .ok (.iload 6, 2) := by decide +kernel
theorem dX11_kin_148 : decode cX11_kin 148 = .ok (.goto 5, 3) := by decide +kernel
theorem dX11_kin_151 : decode cX11_kin 151 = .ok (.iload 5, 2) := by decide +kernel
theorem dX11_kin_153 : decode cX11_kin 153 = .ok (.istore 5, 2) := by decide +kernel
theorem dX11_kin_155 : decode cX11_kin 155 = .ok (.iinc 6 1, 3) := by decide +kernel
theorem dX11_kin_158 : decode cX11_kin 158 = .ok (.goto (-99), 3) := by decide +kernel
theorem dX11_kin_161 : decode cX11_kin 161 = .ok (.iload_n 3, 1) := by decide +kernel
theorem dX11_kin_162 : decode cX11_kin 162 = .ok (.ifCond .ne 8, 3) := by decide +kernel
theorem dX11_kin_165 : decode cX11_kin 165 = .ok (.iload 4, 2) := by decide +kernel
theorem dX11_kin_167 : decode cX11_kin 167 = .ok (.goto 5, 3) := by decide +kernel
theorem dX11_kin_170 : decode cX11_kin 170 = .ok (.iload 5, 2) := by decide +kernel
theorem dX11_kin_172 : decode cX11_kin 172 = .ok (.ireturn, 1) := by decide +kernel
set_option maxRecDepth 20000 in
theorem ggX11_would_X11_isOne : GoodIn wsX11_would wsX11_isOne := goodIn_r _ [9, 3, 10, 11, 8, 12, 43, 44, 45, 46, 47, 48, 49, 50, 51, 52, 53, 54, 55, 56, 57, 58, 59, 60] (by decide +kernel) (by decide +kernel)
set_option maxRecDepth 20000 in
theorem gX11_would_X11_isOne : GoodIn wsX11_would (wsV RX11 65 RX11 yX11_isOne wsX11_isOne) := goodIn_app (goodIn_of _ (by decide +kernel)) ggX11_would_X11_isOne
set_option maxRecDepth 20000 in
theorem ggX11_would_X11_isMan : GoodIn wsX11_would wsX11_isMan := goodIn_r _ [16, 3, 5, 6, 7, 8, 9, 10, 11, 12, 43, 44, 45, 46, 47, 48, 49, 50, 51, 52, 53, 54, 55, 56, 57, 58, 59, 60] (by decide +kernel) (by decide +kernel)
set_option maxRecDepth 20000 in
theorem gX11_would_X11_isMan : GoodIn wsX11_would (wsV RX11 164 RX11 yX11_isMan wsX11_isMan) := goodIn_app (goodIn_of _ (by decide +kernel)) ggX11_would_X11_isMan
set_option maxRecDepth 20000 in
theorem ggX11_would_X11_isWoman : GoodIn wsX11_would wsX11_isWoman := goodIn_r _ [20, 3, 5, 6, 7, 8, 9, 10, 11, 12, 43, 44, 45, 46, 47, 48, 49, 50, 51, 52, 53, 54, 55, 56, 57, 58, 59, 60] (by decide +kernel) (by decide +kernel)
set_option maxRecDepth 20000 in
theorem gX11_would_X11_isWoman : GoodIn wsX11_would (wsV RX11 69 RX11 yX11_isWoman wsX11_isWoman) := goodIn_app (goodIn_of _ (by decide +kernel)) ggX11_would_X11_isWoman
set_option maxRecDepth 20000 in
theorem ggX11_would_X11_lays : GoodIn wsX11_would wsX11_lays := goodIn_r _ [24, 3, 25, 26, 27, 8, 28, 4, 29, 30, 31, 32, 17, 18, 19, 20, 5, 6, 7, 9, 10, 11, 12, 33, 34, 35, 36, 37, 38, 39, 40, 41, 42, 43, 44, 45, 46, 47, 48, 49, 50, 51, 52, 53, 54, 55, 56, 57, 58, 59, 60] (by decide +kernel) (by decide +kernel)
set_option maxRecDepth 20000 in
theorem gX11_would_X11_lays : GoodIn wsX11_would (wsV RX11 90 RX11 yX11_lays wsX11_lays) := goodIn_app (goodIn_of _ (by decide +kernel)) ggX11_would_X11_lays
set_option maxRecDepth 20000 in
theorem ggX11_would_X11_laysOne : GoodIn wsX11_would wsX11_laysOne := goodIn_r _ [28, 4, 3, 29, 30, 31, 8, 32, 17, 18, 19, 20, 5, 6, 7, 9, 10, 11, 12, 33, 34, 35, 36, 37, 38, 39, 40, 41, 42, 43, 44, 45, 46, 47, 48, 49, 50, 51, 52, 53, 54, 55, 56, 57, 58, 59, 60] (by decide +kernel) (by decide +kernel)
set_option maxRecDepth 20000 in
theorem gX11_would_X11_laysOne : GoodIn wsX11_would (wsV RX11 82 RX11 yX11_laysOne wsX11_laysOne) := goodIn_app (goodIn_of _ (by decide +kernel)) ggX11_would_X11_laysOne
theorem dX11_would_0 : decode cX11_would 0 = .ok (.aload_n 0, 1) := by decide +kernel
theorem dX11_would_1 : decode cX11_would 1 = .ok (.iload_n 1, 1) := by decide +kernel
theorem dX11_would_2 : decode cX11_would 2 = .ok (.invokevirtual 65, 3) := by decide +kernel
theorem dX11_would_5 : decode cX11_would 5 = .ok (.ifCond .eq 16, 3) := by decide +kernel
theorem dX11_would_8 : decode cX11_would 8 = .ok (.aload_n 0, 1) := by decide +kernel
theorem dX11_would_9 : decode cX11_would 9 = .ok (.iload_n 2, 1) := by decide +kernel
theorem dX11_would_10 : decode cX11_would 10 = .ok (.invokevirtual 65, 3) := by decide +kernel
theorem dX11_would_13 : decode cX11_would 13 = .ok (.ifCond .eq 8, 3) := by decide +kernel
theorem dX11_would_16 : decode cX11_would 16 = .ok (.iload_n 1, 1) := by decide +kernel
theorem dX11_would_17 : decode cX11_would 17 = .ok (.iload_n 2, 1) := by decide +kernel
theorem dX11_would_18 : decode cX11_would 18 = .ok (.if_icmp .ne 6, 3) := by decide +kernel
theorem dX11_would_21 : decode cX11_would 21 = .ok (.ldc 148, 2) := by decide +kernel
theorem dX11_would_23 : decode cX11_would 23 = .ok (.ireturn, 1) := by decide +kernel
theorem dX11_would_24 : decode cX11_would 24 = .ok (.aload_n 0, 1) := by decide +kernel
theorem dX11_would_25 : decode cX11_would 25 = .ok (.iload_n 1, 1) := by decide +kernel
theorem dX11_would_26 : decode cX11_would 26 = .ok (.invokevirtual 164, 3) := by decide +kernel
theorem dX11_would_29 : decode cX11_would 29 = .ok (.ifCond .eq 11, 3) := by decide +kernel
theorem dX11_would_32 : decode cX11_would 32 = .ok (.aload_n 0, 1) := by decide +kernel
theorem dX11_would_33 : decode cX11_would 33 = .ok (.iload_n 2, 1) := by decide +kernel
theorem dX11_would_34 : decode cX11_would 34 = .ok (.invokevirtual 69, 3) := by decide +kernel
theorem dX11_would_37 : decode cX11_would 37 = .ok (.ifCond .ne 6, 3) := by decide +kernel
theorem dX11_would_40 : decode cX11_would 40 = .ok (.ldc 167, 2) := by decide +kernel
theorem dX11_would_42 : decode cX11_would 42 = .ok (.ireturn, 1) := by decide +kernel
theorem dX11_would_43 : decode cX11_would 43 = .ok (.aload_n 0, 1) := by decide +kernel
theorem dX11_would_44 : decode cX11_would 44 = .ok (.invokevirtual 90, 3) := by decide +kernel
theorem dX11_would_47 : decode cX11_would 47 = .ok (.aload_n 0, 1) := by decide +kernel
theorem dX11_would_48 : decode cX11_would 48 = .ok (.bipush 16, 2) := by decide +kernel
theorem dX11_would_50 : decode cX11_would 50 = .ok (.aload_n 0, 1) := by decide +kernel
theorem dX11_would_51 : decode cX11_would 51 = .ok (.getfield 7, 3) := by decide +kernel
theorem dX11_would_54 : decode cX11_would 54 = .ok (.bipush 29, 2) := by decide +kernel
theorem dX11_would_56 : decode cX11_would 56 = .ok (.iload_n 1, 1) := by decide +kernel
theorem dX11_would_57 : decode cX11_would 57 = .ok (.iadd, 1) := by decide +kernel
theorem dX11_would_58 : decode cX11_would 58 = .ok (.iaload, 1) := by decide +kernel
theorem dX11_would_59 : decode cX11_would 59 = .ok (.iload_n 1, 1) := by decide +kernel
theorem dX11_would_60 : decode cX11_would 60 = .ok (.iload_n 2, 1) := by decide +kernel
theorem dX11_would_61 : decode cX11_would 61 = .ok (.invokevirtual 82, 3) := by decide +kernel
theorem dX11_would_64 : decode cX11_would 64 = .ok (.aload_n 0, 1) := by decide +kernel
theorem dX11_would_65 : decode cX11_would 65 = .ok (.getfield 29, 3) := by decide +kernel
theorem dX11_would_68 : decode cX11_would 68 = .ok (.bipush 16, 2) := by decide +kernel
theorem dX11_would_70 : decode cX11_would 70 = .ok (.iaload, 1) := by decide +kernel
theorem dX11_would_71 : decode cX11_would 71 = .ok (.ireturn, 1) := by decide +kernel
set_option maxRecDepth 20000 in
theorem ggX11_dated_X11_in : GoodIn wsX11_dated wsX11_in := goodIn_r _ [9] (by decide +kernel) (by decide +kernel)
set_option maxRecDepth 20000 in
theorem gX11_dated_X11_in : GoodIn wsX11_dated (va_wsS RX11 61 yX11_in wsX11_in) := goodIn_app (goodIn_of _ (by decide +kernel)) ggX11_dated_X11_in
set_option maxRecDepth 20000 in
theorem ggX11_dated_X11_narrows : GoodIn wsX11_dated wsX11_narrows := goodIn_r _ [13, 3, 4, 5, 14, 15, 16, 17, 8, 18, 19, 20, 21, 22, 23, 24, 25, 26, 27, 28, 29, 30, 31, 32, 33, 34, 35, 36, 37, 38, 39, 40, 41, 42, 43, 44] (by decide +kernel) (by decide +kernel)
set_option maxRecDepth 20000 in
theorem gX11_dated_X11_narrows : GoodIn wsX11_dated (wsV RX11 134 RX11 yX11_narrows wsX11_narrows) := goodIn_app (goodIn_of _ (by decide +kernel)) ggX11_dated_X11_narrows
theorem dX11_dated_0 : decode cX11_dated 0 = .ok (.iload_n 1, 1) := by decide +kernel
theorem dX11_dated_1 : decode cX11_dated 1 = .ok (.i2l, 1) := by decide +kernel
theorem dX11_dated_2 : decode cX11_dated 2 = .ok (.lconst 0, 1) := by decide +kernel
theorem dX11_dated_3 : decode cX11_dated 3 = .ok (.ldc2_w 168, 3) := by decide +kernel
theorem dX11_dated_6 : decode cX11_dated 6 = .ok (.invokestatic 61, 3) := by decide +kernel
theorem dX11_dated_9 : decode cX11_dated 9 = .ok (.ifCond .eq 16, 3) := by decide +kernel
theorem dX11_dated_12 : decode cX11_dated 12 = .ok (.iload_n 2, 1) := by decide +kernel
theorem dX11_dated_13 : decode cX11_dated 13 = .ok (.i2l, 1) := by decide +kernel
theorem dX11_dated_14 : decode cX11_dated 14 = .ok (.iload_n 1, 1) := by decide +kernel
theorem dX11_dated_15 : decode cX11_dated 15 = .ok (.i2l, 1) := by decide +kernel
theorem dX11_dated_16 : decode cX11_dated 16 = .ok (.ldc2_w 168, 3) := by decide +kernel
theorem dX11_dated_19 : decode cX11_dated 19 = .ok (.invokestatic 61, 3) := by decide +kernel
theorem dX11_dated_22 : decode cX11_dated 22 = .ok (.ifCond .ne 6, 3) := by decide +kernel
theorem dX11_dated_25 : decode cX11_dated 25 = .ok (.ldc 147, 2) := by decide +kernel
theorem dX11_dated_27 : decode cX11_dated 27 = .ok (.ireturn, 1) := by decide +kernel
theorem dX11_dated_28 : decode cX11_dated 28 = .ok (.aload_n 0, 1) := by decide +kernel
theorem dX11_dated_29 : decode cX11_dated 29 = .ok (.invokevirtual 134, 3) := by decide +kernel
theorem dX11_dated_32 : decode cX11_dated 32 = .ok (.istore_n 3, 1) := by decide +kernel
theorem dX11_dated_33 : decode cX11_dated 33 = .ok (.iconst 0, 1) := by decide +kernel
theorem dX11_dated_34 : decode cX11_dated 34 = .ok (.istore 4, 2) := by decide +kernel
theorem dX11_dated_36 : decode cX11_dated 36 = .ok (.iconst 0, 1) := by decide +kernel
theorem dX11_dated_37 : decode cX11_dated 37 = .ok (.istore 5, 2) := by decide +kernel
theorem dX11_dated_39 : decode cX11_dated 39 = .ok (.iload 5, 2) := by decide +kernel
theorem dX11_dated_41 : decode cX11_dated 41 = .ok (.aload_n 0, 1) := by decide +kernel
theorem dX11_dated_42 : decode cX11_dated 42 = .ok (.getfield 7, 3) := by decide +kernel
theorem dX11_dated_45 : decode cX11_dated 45 = .ok (.iconst 0, 1) := by decide +kernel
theorem dX11_dated_46 : decode cX11_dated 46 = .ok (.iaload, 1) := by decide +kernel
theorem dX11_dated_47 : decode cX11_dated 47 = .ok (.if_icmp .ge 54, 3) := by decide +kernel
theorem dX11_dated_50 : decode cX11_dated 50 = .ok (.iload_n 3, 1) := by decide +kernel
theorem dX11_dated_51 : decode cX11_dated 51 = .ok (.ifCond .eq 50, 3) := by decide +kernel
theorem dX11_dated_54 : decode cX11_dated 54 = .ok (.iload 4, 2) := by decide +kernel
theorem dX11_dated_56 : decode cX11_dated 56 = .ok (.aload_n 0, 1) := by decide +kernel
theorem dX11_dated_57 : decode cX11_dated 57 = .ok (.getfield 38, 3) := by decide +kernel
theorem dX11_dated_60 : decode cX11_dated 60 = .ok (.bipush 16, 2) := by decide +kernel
theorem dX11_dated_62 : decode cX11_dated 62 = .ok (.iload 5, 2) := by decide +kernel
theorem dX11_dated_64 : decode cX11_dated 64 = .ok (.iadd, 1) := by decide +kernel
theorem dX11_dated_65 : decode cX11_dated 65 = .ok (.iaload, 1) := by decide +kernel
theorem dX11_dated_66 : decode cX11_dated 66 = .ok (.iload_n 2, 1) := by decide +kernel
theorem dX11_dated_67 : decode cX11_dated 67 = .ok (.if_icmp .gt 24, 3) := by decide +kernel
theorem dX11_dated_70 : decode cX11_dated 70 = .ok (.aload_n 0, 1) := by decide +kernel
theorem dX11_dated_71 : decode cX11_dated 71 = .ok (.getfield 41, 3) := by decide +kernel
theorem dX11_dated_74 : decode cX11_dated 74 = .ok (.bipush 16, 2) := by decide +kernel
theorem dX11_dated_76 : decode cX11_dated 76 = .ok (.iload 5, 2) := by decide +kernel
theorem dX11_dated_78 : decode cX11_dated 78 = .ok (.iadd, 1) := by decide +kernel
theorem dX11_dated_79 : decode cX11_dated 79 = .ok (.iaload, 1) := by decide +kernel
theorem dX11_dated_80 : decode cX11_dated 80 = .ok (.iload_n 1, 1) := by decide +kernel
theorem dX11_dated_81 : decode cX11_dated 81 = .ok (.if_icmp .lt 10, 3) := by decide +kernel
theorem dX11_dated_84 : decode cX11_dated 84 = .ok (.iconst 1, 1) := by decide +kernel
theorem dX11_dated_85 : decode cX11_dated 85 = .ok (.iload 5, 2) := by decide +kernel
theorem dX11_dated_87 : decode cX11_dated 87 = .ok (.ishl, 1) := by decide +kernel
theorem dX11_dated_88 : decode cX11_dated 88 = .ok (.goto 4, 3) := by decide +kernel
theorem dX11_dated_91 : decode cX11_dated 91 = .ok (.iconst 0, 1) := by decide +kernel
theorem dX11_dated_92 : decode cX11_dated 92 = .ok (.ior, 1) := by decide +kernel
theorem dX11_dated_93 : decode cX11_dated 93 = .ok (.istore 4, 2) := by decide +kernel
theorem dX11_dated_95 : decode cX11_dated 95 = .ok (.iinc 5 1, 3) := by decide +kernel
theorem dX11_dated_98 : decode cX11_dated 98 = .ok (.goto (-59), 3) := by decide +kernel
theorem dX11_dated_101 : decode cX11_dated 101 = .ok (.iload 4, 2) := by decide +kernel
theorem dX11_dated_103 : decode cX11_dated 103 = .ok (.ireturn, 1) := by decide +kernel
set_option maxRecDepth 20000 in
theorem ggX11_signAt_X11_in : GoodIn wsX11_signAt wsX11_in := goodIn_r _ [5] (by decide +kernel) (by decide +kernel)
set_option maxRecDepth 20000 in
theorem gX11_signAt_X11_in : GoodIn wsX11_signAt (va_wsS RX11 61 yX11_in wsX11_in) := goodIn_app (goodIn_of _ (by decide +kernel)) ggX11_signAt_X11_in
theorem dX11_signAt_0 : decode cX11_signAt 0 = .ok (.iload_n 1, 1) := by decide +kernel
theorem dX11_signAt_1 : decode cX11_signAt 1 = .ok (.i2l, 1) := by decide +kernel
theorem dX11_signAt_2 : decode cX11_signAt 2 = .ok (.lconst 0, 1) := by decide +kernel
theorem dX11_signAt_3 : decode cX11_signAt 3 = .ok (.aload_n 0, 1) := by decide +kernel
theorem dX11_signAt_4 : decode cX11_signAt 4 = .ok (.getfield 7, 3) := by decide +kernel
theorem dX11_signAt_7 : decode cX11_signAt 7 = .ok (.iconst 2, 1) := by decide +kernel
theorem dX11_signAt_8 : decode cX11_signAt 8 = .ok (.iaload, 1) := by decide +kernel
theorem dX11_signAt_9 : decode cX11_signAt 9 = .ok (.iconst 1, 1) := by decide +kernel
theorem dX11_signAt_10 : decode cX11_signAt 10 = .ok (.isub, 1) := by decide +kernel
theorem dX11_signAt_11 : decode cX11_signAt 11 = .ok (.i2l, 1) := by decide +kernel
theorem dX11_signAt_12 : decode cX11_signAt 12 = .ok (.invokestatic 61, 3) := by decide +kernel
theorem dX11_signAt_15 : decode cX11_signAt 15 = .ok (.ifCond .eq 14, 3) := by decide +kernel
theorem dX11_signAt_18 : decode cX11_signAt 18 = .ok (.aload_n 0, 1) := by decide +kernel
theorem dX11_signAt_19 : decode cX11_signAt 19 = .ok (.getfield 7, 3) := by decide +kernel
theorem dX11_signAt_22 : decode cX11_signAt 22 = .ok (.iconst 3, 1) := by decide +kernel
theorem dX11_signAt_23 : decode cX11_signAt 23 = .ok (.iload_n 1, 1) := by decide +kernel
theorem dX11_signAt_24 : decode cX11_signAt 24 = .ok (.iadd, 1) := by decide +kernel
theorem dX11_signAt_25 : decode cX11_signAt 25 = .ok (.iaload, 1) := by decide +kernel
theorem dX11_signAt_26 : decode cX11_signAt 26 = .ok (.goto 4, 3) := by decide +kernel
theorem dX11_signAt_29 : decode cX11_signAt 29 = .ok (.iconst (-1), 1) := by decide +kernel
theorem dX11_signAt_30 : decode cX11_signAt 30 = .ok (.ireturn, 1) := by decide +kernel
theorem dX11_comes_0 : decode cX11_comes 0 = .ok (.aload_n 0, 1) := by decide +kernel
theorem dX11_comes_1 : decode cX11_comes 1 = .ok (.getfield 7, 3) := by decide +kernel
theorem dX11_comes_4 : decode cX11_comes 4 = .ok (.iconst 0, 1) := by decide +kernel
theorem dX11_comes_5 : decode cX11_comes 5 = .ok (.iaload, 1) := by decide +kernel
theorem dX11_comes_6 : decode cX11_comes 6 = .ok (.istore 5, 2) := by decide +kernel
theorem dX11_comes_8 : decode cX11_comes 8 = .ok (.aload_n 0, 1) := by decide +kernel
theorem dX11_comes_9 : decode cX11_comes 9 = .ok (.getfield 7, 3) := by decide +kernel
theorem dX11_comes_12 : decode cX11_comes 12 = .ok (.bipush 13, 2) := by decide +kernel
theorem dX11_comes_14 : decode cX11_comes 14 = .ok (.iload 5, 2) := by decide +kernel
theorem dX11_comes_16 : decode cX11_comes 16 = .ok (.iadd, 1) := by decide +kernel
theorem dX11_comes_17 : decode cX11_comes 17 = .ok (.iload_n 1, 1) := by decide +kernel
theorem dX11_comes_18 : decode cX11_comes 18 = .ok (.iastore, 1) := by decide +kernel
theorem dX11_comes_19 : decode cX11_comes 19 = .ok (.aload_n 0, 1) := by decide +kernel
theorem dX11_comes_20 : decode cX11_comes 20 = .ok (.getfield 7, 3) := by decide +kernel
theorem dX11_comes_23 : decode cX11_comes 23 = .ok (.bipush 29, 2) := by decide +kernel
theorem dX11_comes_25 : decode cX11_comes 25 = .ok (.iload 5, 2) := by decide +kernel
theorem dX11_comes_27 : decode cX11_comes 27 = .ok (.iadd, 1) := by decide +kernel
theorem dX11_comes_28 : decode cX11_comes 28 = .ok (.iload_n 3, 1) := by decide +kernel
theorem dX11_comes_29 : decode cX11_comes 29 = .ok (.iconst (-1), 1) := by decide +kernel
theorem dX11_comes_30 : decode cX11_comes 30 = .ok (.if_icmp .ne 7, 3) := by decide +kernel
theorem dX11_comes_33 : decode cX11_comes 33 = .ok (.iload_n 2, 1) := by decide +kernel
theorem dX11_comes_34 : decode cX11_comes 34 = .ok (.goto 12, 3) := by decide +kernel
theorem dX11_comes_37 : decode cX11_comes 37 = .ok (.aload_n 0, 1) := by decide +kernel
theorem dX11_comes_38 : decode cX11_comes 38 = .ok (.getfield 7, 3) := by decide +kernel
theorem dX11_comes_41 : decode cX11_comes 41 = .ok (.bipush 29, 2) := by decide +kernel
theorem dX11_comes_43 : decode cX11_comes 43 = .ok (.iload_n 3, 1) := by decide +kernel
theorem dX11_comes_44 : decode cX11_comes 44 = .ok (.iadd, 1) := by decide +kernel
theorem dX11_comes_45 : decode cX11_comes 45 = .ok (.iaload, 1) := by decide +kernel
theorem dX11_comes_46 : decode cX11_comes 46 = .ok (.iastore, 1) := by decide +kernel
theorem dX11_comes_47 : decode cX11_comes 47 = .ok (.aload_n 0, 1) := by decide +kernel
theorem dX11_comes_48 : decode cX11_comes 48 = .ok (.getfield 7, 3) := by decide +kernel
theorem dX11_comes_51 : decode cX11_comes 51 = .ok (.bipush 45, 2) := by decide +kernel
theorem dX11_comes_53 : decode cX11_comes 53 = .ok (.iload 5, 2) := by decide +kernel
theorem dX11_comes_55 : decode cX11_comes 55 = .ok (.iadd, 1) := by decide +kernel
theorem dX11_comes_56 : decode cX11_comes 56 = .ok (.iload_n 3, 1) := by decide +kernel
theorem dX11_comes_57 : decode cX11_comes 57 = .ok (.iastore, 1) := by decide +kernel
theorem dX11_comes_58 : decode cX11_comes 58 = .ok (.aload_n 0, 1) := by decide +kernel
theorem dX11_comes_59 : decode cX11_comes 59 = .ok (.getfield 7, 3) := by decide +kernel
theorem dX11_comes_62 : decode cX11_comes 62 = .ok (.bipush 61, 2) := by decide +kernel
theorem dX11_comes_64 : decode cX11_comes 64 = .ok (.iload 5, 2) := by decide +kernel
theorem dX11_comes_66 : decode cX11_comes 66 = .ok (.iadd, 1) := by decide +kernel
theorem dX11_comes_67 : decode cX11_comes 67 = .ok (.iload 4, 2) := by decide +kernel
theorem dX11_comes_69 : decode cX11_comes 69 = .ok (.iastore, 1) := by decide +kernel
theorem dX11_comes_70 : decode cX11_comes 70 = .ok (.aload_n 0, 1) := by decide +kernel
theorem dX11_comes_71 : decode cX11_comes 71 = .ok (.getfield 7, 3) := by decide +kernel
theorem dX11_comes_74 : decode cX11_comes 74 = .ok (.bipush 77, 2) := by decide +kernel
theorem dX11_comes_76 : decode cX11_comes 76 = .ok (.iconst 2, 1) := by decide +kernel
theorem dX11_comes_77 : decode cX11_comes 77 = .ok (.iload 5, 2) := by decide +kernel
theorem dX11_comes_79 : decode cX11_comes 79 = .ok (.imul, 1) := by decide +kernel
theorem dX11_comes_80 : decode cX11_comes 80 = .ok (.iadd, 1) := by decide +kernel
theorem dX11_comes_81 : decode cX11_comes 81 = .ok (.iconst 0, 1) := by decide +kernel
theorem dX11_comes_82 : decode cX11_comes 82 = .ok (.iastore, 1) := by decide +kernel
theorem dX11_comes_83 : decode cX11_comes 83 = .ok (.aload_n 0, 1) := by decide +kernel
theorem dX11_comes_84 : decode cX11_comes 84 = .ok (.getfield 7, 3) := by decide +kernel
theorem dX11_comes_87 : decode cX11_comes 87 = .ok (.bipush 77, 2) := by decide +kernel
theorem dX11_comes_89 : decode cX11_comes 89 = .ok (.iconst 2, 1) := by decide +kernel
theorem dX11_comes_90 : decode cX11_comes 90 = .ok (.iload 5, 2) := by decide +kernel
theorem dX11_comes_92 : decode cX11_comes 92 = .ok (.imul, 1) := by decide +kernel
theorem dX11_comes_93 : decode cX11_comes 93 = .ok (.iadd, 1) := by decide +kernel
theorem dX11_comes_94 : decode cX11_comes 94 = .ok (.iconst 1, 1) := by decide +kernel
theorem dX11_comes_95 : decode cX11_comes 95 = .ok (.iadd, 1) := by decide +kernel
theorem dX11_comes_96 : decode cX11_comes 96 = .ok (.sipush 999, 3) := by decide +kernel
theorem dX11_comes_99 : decode cX11_comes 99 = .ok (.iastore, 1) := by decide +kernel
theorem dX11_comes_100 : decode cX11_comes 100 = .ok (.aload_n 0, 1) := by decide +kernel
theorem dX11_comes_101 : decode cX11_comes 101 = .ok (.getfield 7, 3) := by decide +kernel
theorem dX11_comes_104 : decode cX11_comes 104 = .ok (.bipush 109, 2) := by decide +kernel
theorem dX11_comes_106 : decode cX11_comes 106 = .ok (.iconst 2, 1) := by decide +kernel
theorem dX11_comes_107 : decode cX11_comes 107 = .ok (.iload 5, 2) := by decide +kernel
theorem dX11_comes_109 : decode cX11_comes 109 = .ok (.imul, 1) := by decide +kernel
theorem dX11_comes_110 : decode cX11_comes 110 = .ok (.iadd, 1) := by decide +kernel
theorem dX11_comes_111 : decode cX11_comes 111 = .ok (.iconst 0, 1) := by decide +kernel
theorem dX11_comes_112 : decode cX11_comes 112 = .ok (.iastore, 1) := by decide +kernel
theorem dX11_comes_113 : decode cX11_comes 113 = .ok (.aload_n 0, 1) := by decide +kernel
theorem dX11_comes_114 : decode cX11_comes 114 = .ok (.getfield 7, 3) := by decide +kernel
theorem dX11_comes_117 : decode cX11_comes 117 = .ok (.bipush 109, 2) := by decide +kernel
theorem dX11_comes_119 : decode cX11_comes 119 = .ok (.iconst 2, 1) := by decide +kernel
theorem dX11_comes_120 : decode cX11_comes 120 = .ok (.iload 5, 2) := by decide +kernel
theorem dX11_comes_122 : decode cX11_comes 122 = .ok (.imul, 1) := by decide +kernel
theorem dX11_comes_123 : decode cX11_comes 123 = .ok (.iadd, 1) := by decide +kernel
theorem dX11_comes_124 : decode cX11_comes 124 = .ok (.iconst 1, 1) := by decide +kernel
theorem dX11_comes_125 : decode cX11_comes 125 = .ok (.iadd, 1) := by decide +kernel
theorem dX11_comes_126 : decode cX11_comes 126 = .ok (.sipush 999, 3) := by decide +kernel
theorem dX11_comes_129 : decode cX11_comes 129 = .ok (.iastore, 1) := by decide +kernel
theorem dX11_comes_130 : decode cX11_comes 130 = .ok (.aload_n 0, 1) := by decide +kernel
theorem dX11_comes_131 : decode cX11_comes 131 = .ok (.getfield 7, 3) := by decide +kernel
theorem dX11_comes_134 : decode cX11_comes 134 = .ok (.iconst 0, 1) := by decide +kernel
theorem dX11_comes_135 : decode cX11_comes 135 = .ok (.dup2, 1) := by decide +kernel
theorem dX11_comes_136 : decode cX11_comes 136 = .ok (.iaload, 1) := by decide +kernel
theorem dX11_comes_137 : decode cX11_comes 137 = .ok (.iconst 1, 1) := by decide +kernel
theorem dX11_comes_138 : decode cX11_comes 138 = .ok (.iadd, 1) := by decide +kernel
theorem dX11_comes_139 : decode cX11_comes 139 = .ok (.iastore, 1) := by decide +kernel
theorem dX11_comes_140 : decode cX11_comes 140 = .ok (.return_, 1) := by decide +kernel
set_option maxRecDepth 20000 in
theorem ggX11_put_X11_isOne : GoodIn wsX11_put wsX11_isOne := goodIn_r _ [11, 5, 12, 13, 10, 14, 36, 37, 38, 39, 40, 41, 42, 43, 44, 45, 46, 47, 48, 49, 50, 51, 52, 53] (by decide +kernel) (by decide +kernel)
set_option maxRecDepth 20000 in
theorem gX11_put_X11_isOne : GoodIn wsX11_put (wsV RX11 65 RX11 yX11_isOne wsX11_isOne) := goodIn_app (goodIn_of _ (by decide +kernel)) ggX11_put_X11_isOne
set_option maxRecDepth 20000 in
theorem ggX11_put_X11_in : GoodIn wsX11_put wsX11_in := goodIn_r _ [14] (by decide +kernel) (by decide +kernel)
set_option maxRecDepth 20000 in
theorem gX11_put_X11_in : GoodIn wsX11_put (va_wsS RX11 61 yX11_in wsX11_in) := goodIn_app (goodIn_of _ (by decide +kernel)) ggX11_put_X11_in
set_option maxRecDepth 20000 in
theorem ggX11_put_X11_isMan : GoodIn wsX11_put wsX11_isMan := goodIn_r _ [18, 5, 7, 8, 9, 10, 11, 12, 13, 14, 36, 37, 38, 39, 40, 41, 42, 43, 44, 45, 46, 47, 48, 49, 50, 51, 52, 53] (by decide +kernel) (by decide +kernel)
set_option maxRecDepth 20000 in
theorem gX11_put_X11_isMan : GoodIn wsX11_put (wsV RX11 164 RX11 yX11_isMan wsX11_isMan) := goodIn_app (goodIn_of _ (by decide +kernel)) ggX11_put_X11_isMan
set_option maxRecDepth 20000 in
theorem ggX11_put_X11_isWoman : GoodIn wsX11_put wsX11_isWoman := goodIn_r _ [22, 5, 7, 8, 9, 10, 11, 12, 13, 14, 36, 37, 38, 39, 40, 41, 42, 43, 44, 45, 46, 47, 48, 49, 50, 51, 52, 53] (by decide +kernel) (by decide +kernel)
set_option maxRecDepth 20000 in
theorem gX11_put_X11_isWoman : GoodIn wsX11_put (wsV RX11 69 RX11 yX11_isWoman wsX11_isWoman) := goodIn_app (goodIn_of _ (by decide +kernel)) ggX11_put_X11_isWoman
set_option maxRecDepth 20000 in
theorem ggX11_put_X11_minds : GoodIn wsX11_put wsX11_minds := goodIn_r _ [26, 27, 5, 28, 29, 30, 10, 31, 36, 37, 38, 39, 40, 41, 42, 43, 44, 45, 46, 47, 48, 49, 50, 51, 52, 53] (by decide +kernel) (by decide +kernel)
set_option maxRecDepth 20000 in
theorem gX11_put_X11_minds : GoodIn wsX11_put (wsV RX11 173 RX11 yX11_minds wsX11_minds) := goodIn_app (goodIn_of _ (by decide +kernel)) ggX11_put_X11_minds
set_option maxRecDepth 20000 in
theorem ggX11_put_X11_comes : GoodIn wsX11_put wsX11_comes := goodIn_r _ [35, 5, 36, 37, 38, 39, 40, 41, 42, 43, 44, 45, 46, 47, 48, 49, 50, 51, 52, 53] (by decide +kernel) (by decide +kernel)
set_option maxRecDepth 20000 in
theorem gX11_put_X11_comes : GoodIn wsX11_put (wsV RX11 176 RX11 yX11_comes wsX11_comes) := goodIn_app (goodIn_of _ (by decide +kernel)) ggX11_put_X11_comes
theorem dX11_put_0 : decode cX11_put 0 = .ok (.iload_n 3, 1) := by decide +kernel
theorem dX11_put_1 : decode cX11_put 1 = .ok (.iconst (-1), 1) := by decide +kernel
theorem dX11_put_2 : decode cX11_put 2 = .ok (.if_icmp .eq 11, 3) := by decide +kernel
theorem dX11_put_5 : decode cX11_put 5 = .ok (.aload_n 0, 1) := by decide +kernel
theorem dX11_put_6 : decode cX11_put 6 = .ok (.iload_n 3, 1) := by decide +kernel
theorem dX11_put_7 : decode cX11_put 7 = .ok (.invokevirtual 65, 3) := by decide +kernel
theorem dX11_put_10 : decode cX11_put 10 = .ok (.ifCond .eq 18, 3) := by decide +kernel
theorem dX11_put_13 : decode cX11_put 13 = .ok (.iload 4, 2) := by decide +kernel
theorem dX11_put_15 : decode cX11_put 15 = .ok (.iconst (-1), 1) := by decide +kernel
theorem dX11_put_16 : decode cX11_put 16 = .ok (.if_icmp .eq 15, 3) := by decide +kernel
theorem dX11_put_19 : decode cX11_put 19 = .ok (.aload_n 0, 1) := by decide +kernel
theorem dX11_put_20 : decode cX11_put 20 = .ok (.iload 4, 2) := by decide +kernel
theorem dX11_put_22 : decode cX11_put 22 = .ok (.invokevirtual 65, 3) := by decide +kernel
theorem dX11_put_25 : decode cX11_put 25 = .ok (.ifCond .ne 6, 3) := by decide +kernel
theorem dX11_put_28 : decode cX11_put 28 = .ok (.ldc 148, 2) := by decide +kernel
theorem dX11_put_30 : decode cX11_put 30 = .ok (.ireturn, 1) := by decide +kernel
theorem dX11_put_31 : decode cX11_put 31 = .ok (.iload_n 1, 1) := by decide +kernel
theorem dX11_put_32 : decode cX11_put 32 = .ok (.i2l, 1) := by decide +kernel
theorem dX11_put_33 : decode cX11_put 33 = .ok (.lconst 0, 1) := by decide +kernel
theorem dX11_put_34 : decode cX11_put 34 = .ok (.lconst 1, 1) := by decide +kernel
theorem dX11_put_35 : decode cX11_put 35 = .ok (.invokestatic 61, 3) := by decide +kernel
theorem dX11_put_38 : decode cX11_put 38 = .ok (.ifCond .eq 15, 3) := by decide +kernel
theorem dX11_put_41 : decode cX11_put 41 = .ok (.iload_n 2, 1) := by decide +kernel
theorem dX11_put_42 : decode cX11_put 42 = .ok (.i2l, 1) := by decide +kernel
theorem dX11_put_43 : decode cX11_put 43 = .ok (.lconst 0, 1) := by decide +kernel
theorem dX11_put_44 : decode cX11_put 44 = .ok (.ldc2_w 170, 3) := by decide +kernel
theorem dX11_put_47 : decode cX11_put 47 = .ok (.invokestatic 61, 3) := by decide +kernel
theorem dX11_put_50 : decode cX11_put 50 = .ok (.ifCond .ne 6, 3) := by decide +kernel
theorem dX11_put_53 : decode cX11_put 53 = .ok (.ldc 147, 2) := by decide +kernel
theorem dX11_put_55 : decode cX11_put 55 = .ok (.ireturn, 1) := by decide +kernel
theorem dX11_put_56 : decode cX11_put 56 = .ok (.iload_n 3, 1) := by decide +kernel
theorem dX11_put_57 : decode cX11_put 57 = .ok (.iconst (-1), 1) := by decide +kernel
theorem dX11_put_58 : decode cX11_put 58 = .ok (.if_icmp .eq 11, 3) := by decide +kernel
theorem dX11_put_61 : decode cX11_put 61 = .ok (.aload_n 0, 1) := by decide +kernel
theorem dX11_put_62 : decode cX11_put 62 = .ok (.iload_n 3, 1) := by decide +kernel
theorem dX11_put_63 : decode cX11_put 63 = .ok (.invokevirtual 164, 3) := by decide +kernel
theorem dX11_put_66 : decode cX11_put 66 = .ok (.ifCond .eq 18, 3) := by decide +kernel
theorem dX11_put_69 : decode cX11_put 69 = .ok (.iload 4, 2) := by decide +kernel
theorem dX11_put_71 : decode cX11_put 71 = .ok (.iconst (-1), 1) := by decide +kernel
theorem dX11_put_72 : decode cX11_put 72 = .ok (.if_icmp .eq 15, 3) := by decide +kernel
theorem dX11_put_75 : decode cX11_put 75 = .ok (.aload_n 0, 1) := by decide +kernel
theorem dX11_put_76 : decode cX11_put 76 = .ok (.iload 4, 2) := by decide +kernel
theorem dX11_put_78 : decode cX11_put 78 = .ok (.invokevirtual 69, 3) := by decide +kernel
theorem dX11_put_81 : decode cX11_put 81 = .ok (.ifCond .ne 6, 3) := by decide +kernel
theorem dX11_put_84 : decode cX11_put 84 = .ok (.ldc 167, 2) := by decide +kernel
theorem dX11_put_86 : decode cX11_put 86 = .ok (.ireturn, 1) := by decide +kernel
theorem dX11_put_87 : decode cX11_put 87 = .ok (.aload_n 0, 1) := by decide +kernel
theorem dX11_put_88 : decode cX11_put 88 = .ok (.getfield 7, 3) := by decide +kernel
theorem dX11_put_91 : decode cX11_put 91 = .ok (.iconst 0, 1) := by decide +kernel
theorem dX11_put_92 : decode cX11_put 92 = .ok (.iaload, 1) := by decide +kernel
theorem dX11_put_93 : decode cX11_put 93 = .ok (.bipush 16, 2) := by decide +kernel
theorem dX11_put_95 : decode cX11_put 95 = .ok (.if_icmp .ne 6, 3) := by decide +kernel
theorem dX11_put_98 : decode cX11_put 98 = .ok (.ldc 172, 2) := by decide +kernel
theorem dX11_put_100 : decode cX11_put 100 = .ok (.ireturn, 1) := by decide +kernel
theorem dX11_put_101 : decode cX11_put 101 = .ok (.aload_n 0, 1) := by decide +kernel
theorem dX11_put_102 : decode cX11_put 102 = .ok (.invokevirtual 173, 3) := by decide +kernel
theorem dX11_put_105 : decode cX11_put 105 = .ok (.aload_n 0, 1) := by decide +kernel
theorem dX11_put_106 : decode cX11_put 106 = .ok (.iload_n 1, 1) := by decide +kernel
theorem dX11_put_107 : decode cX11_put 107 = .ok (.iload_n 2, 1) := by decide +kernel
theorem dX11_put_108 : decode cX11_put 108 = .ok (.iload_n 3, 1) := by decide +kernel
theorem dX11_put_109 : decode cX11_put 109 = .ok (.iload 4, 2) := by decide +kernel
theorem dX11_put_111 : decode cX11_put 111 = .ok (.invokevirtual 176, 3) := by decide +kernel
theorem dX11_put_114 : decode cX11_put 114 = .ok (.aload_n 0, 1) := by decide +kernel
theorem dX11_put_115 : decode cX11_put 115 = .ok (.getfield 7, 3) := by decide +kernel
theorem dX11_put_118 : decode cX11_put 118 = .ok (.iconst 0, 1) := by decide +kernel
theorem dX11_put_119 : decode cX11_put 119 = .ok (.iaload, 1) := by decide +kernel
theorem dX11_put_120 : decode cX11_put 120 = .ok (.iconst 1, 1) := by decide +kernel
theorem dX11_put_121 : decode cX11_put 121 = .ok (.isub, 1) := by decide +kernel
theorem dX11_put_122 : decode cX11_put 122 = .ok (.ireturn, 1) := by decide +kernel
set_option maxRecDepth 20000 in
theorem ggX11_bounds_X11_isOne : GoodIn wsX11_bounds wsX11_isOne := goodIn_r _ [9, 4, 10, 11, 8, 12, 41, 42, 43, 44, 45, 46, 47, 48, 49, 50, 51, 52, 53, 54, 55, 56, 57, 58] (by decide +kernel) (by decide +kernel)
set_option maxRecDepth 20000 in
theorem gX11_bounds_X11_isOne : GoodIn wsX11_bounds (wsV RX11 65 RX11 yX11_isOne wsX11_isOne) := goodIn_app (goodIn_of _ (by decide +kernel)) ggX11_bounds_X11_isOne
set_option maxRecDepth 20000 in
theorem ggX11_bounds_X11_in : GoodIn wsX11_bounds wsX11_in := goodIn_r _ [12] (by decide +kernel) (by decide +kernel)
set_option maxRecDepth 20000 in
theorem gX11_bounds_X11_in : GoodIn wsX11_bounds (va_wsS RX11 61 yX11_in wsX11_in) := goodIn_app (goodIn_of _ (by decide +kernel)) ggX11_bounds_X11_in
set_option maxRecDepth 20000 in
theorem ggX11_bounds_X11_minds : GoodIn wsX11_bounds wsX11_minds := goodIn_r _ [16, 17, 4, 18, 19, 20, 8, 21, 41, 42, 43, 44, 45, 46, 47, 48, 49, 50, 51, 52, 53, 54, 55, 56, 57, 58] (by decide +kernel) (by decide +kernel)
set_option maxRecDepth 20000 in
theorem gX11_bounds_X11_minds : GoodIn wsX11_bounds (wsV RX11 173 RX11 yX11_minds wsX11_minds) := goodIn_app (goodIn_of _ (by decide +kernel)) ggX11_bounds_X11_minds
set_option maxRecDepth 20000 in
theorem ggX11_bounds_X11_narrows : GoodIn wsX11_bounds wsX11_narrows := goodIn_r _ [25, 4, 26, 27, 28, 29, 30, 31, 8, 32, 33, 34, 35, 36, 37, 38, 39, 40, 41, 42, 43, 44, 45, 46, 47, 48, 49, 50, 51, 52, 53, 54, 55, 56, 57, 58] (by decide +kernel) (by decide +kernel)
set_option maxRecDepth 20000 in
theorem gX11_bounds_X11_narrows : GoodIn wsX11_bounds (wsV RX11 134 RX11 yX11_narrows wsX11_narrows) := goodIn_app (goodIn_of _ (by decide +kernel)) ggX11_bounds_X11_narrows
theorem dX11_bounds_0 : decode cX11_bounds 0 = .ok (.aload_n 0, 1) := by decide +kernel
theorem dX11_bounds_1 : decode cX11_bounds 1 = .ok (.iload_n 2, 1) := by decide +kernel
theorem dX11_bounds_2 : decode cX11_bounds 2 = .ok (.invokevirtual 65, 3) := by decide +kernel
theorem dX11_bounds_5 : decode cX11_bounds 5 = .ok (.ifCond .ne 6, 3) := by decide +kernel
theorem dX11_bounds_8 : decode cX11_bounds 8 = .ok (.ldc 148, 2) := by decide +kernel
theorem dX11_bounds_10 : decode cX11_bounds 10 = .ok (.ireturn, 1) := by decide +kernel
theorem dX11_bounds_11 : decode cX11_bounds 11 = .ok (.iload_n 3, 1) := by decide +kernel
theorem dX11_bounds_12 : decode cX11_bounds 12 = .ok (.i2l, 1) := by decide +kernel
theorem dX11_bounds_13 : decode cX11_bounds 13 = .ok (.lconst 0, 1) := by decide +kernel
theorem dX11_bounds_14 : decode cX11_bounds 14 = .ok (.ldc2_w 168, 3) := by decide +kernel
theorem dX11_bounds_17 : decode cX11_bounds 17 = .ok (.invokestatic 61, 3) := by decide +kernel
theorem dX11_bounds_20 : decode cX11_bounds 20 = .ok (.ifCond .eq 17, 3) := by decide +kernel
theorem dX11_bounds_23 : decode cX11_bounds 23 = .ok (.iload 4, 2) := by decide +kernel
theorem dX11_bounds_25 : decode cX11_bounds 25 = .ok (.i2l, 1) := by decide +kernel
theorem dX11_bounds_26 : decode cX11_bounds 26 = .ok (.iload_n 3, 1) := by decide +kernel
theorem dX11_bounds_27 : decode cX11_bounds 27 = .ok (.i2l, 1) := by decide +kernel
theorem dX11_bounds_28 : decode cX11_bounds 28 = .ok (.ldc2_w 168, 3) := by decide +kernel
theorem dX11_bounds_31 : decode cX11_bounds 31 = .ok (.invokestatic 61, 3) := by decide +kernel
theorem dX11_bounds_34 : decode cX11_bounds 34 = .ok (.ifCond .ne 6, 3) := by decide +kernel
theorem dX11_bounds_37 : decode cX11_bounds 37 = .ok (.ldc 147, 2) := by decide +kernel
theorem dX11_bounds_39 : decode cX11_bounds 39 = .ok (.ireturn, 1) := by decide +kernel
theorem dX11_bounds_40 : decode cX11_bounds 40 = .ok (.aload_n 0, 1) := by decide +kernel
theorem dX11_bounds_41 : decode cX11_bounds 41 = .ok (.invokevirtual 173, 3) := by decide +kernel
theorem dX11_bounds_44 : decode cX11_bounds 44 = .ok (.aload_n 0, 1) := by decide +kernel
theorem dX11_bounds_45 : decode cX11_bounds 45 = .ok (.getfield 7, 3) := by decide +kernel
theorem dX11_bounds_48 : decode cX11_bounds 48 = .ok (.iload_n 1, 1) := by decide +kernel
theorem dX11_bounds_49 : decode cX11_bounds 49 = .ok (.iconst 2, 1) := by decide +kernel
theorem dX11_bounds_50 : decode cX11_bounds 50 = .ok (.iload_n 2, 1) := by decide +kernel
theorem dX11_bounds_51 : decode cX11_bounds 51 = .ok (.imul, 1) := by decide +kernel
theorem dX11_bounds_52 : decode cX11_bounds 52 = .ok (.iadd, 1) := by decide +kernel
theorem dX11_bounds_53 : decode cX11_bounds 53 = .ok (.iload_n 3, 1) := by decide +kernel
theorem dX11_bounds_54 : decode cX11_bounds 54 = .ok (.iastore, 1) := by decide +kernel
theorem dX11_bounds_55 : decode cX11_bounds 55 = .ok (.aload_n 0, 1) := by decide +kernel
theorem dX11_bounds_56 : decode cX11_bounds 56 = .ok (.getfield 7, 3) := by decide +kernel
theorem dX11_bounds_59 : decode cX11_bounds 59 = .ok (.iload_n 1, 1) := by decide +kernel
theorem dX11_bounds_60 : decode cX11_bounds 60 = .ok (.iconst 2, 1) := by decide +kernel
theorem dX11_bounds_61 : decode cX11_bounds 61 = .ok (.iload_n 2, 1) := by decide +kernel
theorem dX11_bounds_62 : decode cX11_bounds 62 = .ok (.imul, 1) := by decide +kernel
theorem dX11_bounds_63 : decode cX11_bounds 63 = .ok (.iadd, 1) := by decide +kernel
theorem dX11_bounds_64 : decode cX11_bounds 64 = .ok (.iconst 1, 1) := by decide +kernel
theorem dX11_bounds_65 : decode cX11_bounds 65 = .ok (.iadd, 1) := by decide +kernel
theorem dX11_bounds_66 : decode cX11_bounds 66 = .ok (.iload 4, 2) := by decide +kernel
theorem dX11_bounds_68 : decode cX11_bounds 68 = .ok (.iastore, 1) := by decide +kernel
theorem dX11_bounds_69 : decode cX11_bounds 69 = .ok (.aload_n 0, 1) := by decide +kernel
theorem dX11_bounds_70 : decode cX11_bounds 70 = .ok (.invokevirtual 134, 3) := by decide +kernel
theorem dX11_bounds_73 : decode cX11_bounds 73 = .ok (.ifCond .eq 7, 3) := by decide +kernel
theorem dX11_bounds_76 : decode cX11_bounds 76 = .ok (.iconst 0, 1) := by decide +kernel
theorem dX11_bounds_77 : decode cX11_bounds 77 = .ok (.goto 4, 3) := by decide +kernel
theorem dX11_bounds_80 : decode cX11_bounds 80 = .ok (.iconst 1, 1) := by decide +kernel
theorem dX11_bounds_81 : decode cX11_bounds 81 = .ok (.ireturn, 1) := by decide +kernel
set_option maxRecDepth 20000 in
theorem ggX11_born_X11_bounds : GoodIn wsX11_born wsX11_bounds := goodIn_r _ [5, 6, 7, 8, 9, 10, 11, 12, 4, 13, 14, 15, 16, 17, 18, 19, 20, 21, 22, 23, 24, 25, 26, 27, 28, 29, 30, 31, 32, 33, 34, 35, 36, 37, 38, 39, 40, 41, 42, 43, 44, 45, 46, 47, 48, 49, 50, 51, 52, 53, 54, 55, 56, 57, 58, 59, 60, 61, 62] (by decide +kernel) (by decide +kernel)
set_option maxRecDepth 20000 in
theorem gX11_born_X11_bounds : GoodIn wsX11_born (wsV RX11 179 RX11 yX11_bounds wsX11_bounds) := goodIn_app (goodIn_of _ (by decide +kernel)) ggX11_born_X11_bounds
theorem dX11_born_0 : decode cX11_born 0 = .ok (.aload_n 0, 1) := by decide +kernel
theorem dX11_born_1 : decode cX11_born 1 = .ok (.bipush 77, 2) := by decide +kernel
theorem dX11_born_3 : decode cX11_born 3 = .ok (.iload_n 1, 1) := by decide +kernel
theorem dX11_born_4 : decode cX11_born 4 = .ok (.iload_n 2, 1) := by decide +kernel
theorem dX11_born_5 : decode cX11_born 5 = .ok (.iload_n 3, 1) := by decide +kernel
theorem dX11_born_6 : decode cX11_born 6 = .ok (.invokevirtual 179, 3) := by decide +kernel
theorem dX11_born_9 : decode cX11_born 9 = .ok (.ireturn, 1) := by decide +kernel
set_option maxRecDepth 20000 in
theorem ggX11_died_X11_bounds : GoodIn wsX11_died wsX11_bounds := goodIn_r _ [5, 6, 7, 8, 9, 10, 11, 12, 4, 13, 14, 15, 16, 17, 18, 19, 20, 21, 22, 23, 24, 25, 26, 27, 28, 29, 30, 31, 32, 33, 34, 35, 36, 37, 38, 39, 40, 41, 42, 43, 44, 45, 46, 47, 48, 49, 50, 51, 52, 53, 54, 55, 56, 57, 58, 59, 60, 61, 62] (by decide +kernel) (by decide +kernel)
set_option maxRecDepth 20000 in
theorem gX11_died_X11_bounds : GoodIn wsX11_died (wsV RX11 179 RX11 yX11_bounds wsX11_bounds) := goodIn_app (goodIn_of _ (by decide +kernel)) ggX11_died_X11_bounds
theorem dX11_died_0 : decode cX11_died 0 = .ok (.aload_n 0, 1) := by decide +kernel
theorem dX11_died_1 : decode cX11_died 1 = .ok (.bipush 109, 2) := by decide +kernel
theorem dX11_died_3 : decode cX11_died 3 = .ok (.iload_n 1, 1) := by decide +kernel
theorem dX11_died_4 : decode cX11_died 4 = .ok (.iload_n 2, 1) := by decide +kernel
theorem dX11_died_5 : decode cX11_died 5 = .ok (.iload_n 3, 1) := by decide +kernel
theorem dX11_died_6 : decode cX11_died 6 = .ok (.invokevirtual 179, 3) := by decide +kernel
theorem dX11_died_9 : decode cX11_died 9 = .ok (.ireturn, 1) := by decide +kernel
set_option maxRecDepth 20000 in
theorem ggX11_rule_X11_in : GoodIn wsX11_rule wsX11_in := goodIn_r _ [7] (by decide +kernel) (by decide +kernel)
set_option maxRecDepth 20000 in
theorem gX11_rule_X11_in : GoodIn wsX11_rule (va_wsS RX11 61 yX11_in wsX11_in) := goodIn_app (goodIn_of _ (by decide +kernel)) ggX11_rule_X11_in
set_option maxRecDepth 20000 in
theorem ggX11_rule_X11_minds : GoodIn wsX11_rule wsX11_minds := goodIn_r _ [11, 12, 3, 13, 14, 15, 6, 16, 60, 61, 62, 63, 64, 65, 66, 67, 68, 69, 70, 71, 72, 73, 74, 75, 76, 77] (by decide +kernel) (by decide +kernel)
set_option maxRecDepth 20000 in
theorem gX11_rule_X11_minds : GoodIn wsX11_rule (wsV RX11 173 RX11 yX11_minds wsX11_minds) := goodIn_app (goodIn_of _ (by decide +kernel)) ggX11_rule_X11_minds
set_option maxRecDepth 20000 in
theorem ggX11_rule_X11_coats : GoodIn wsX11_rule wsX11_coats := goodIn_r _ [20, 3, 21, 22, 23, 6, 24, 25, 26, 27, 28, 29, 30, 31, 32, 33, 34, 35, 36, 37, 38, 39, 40, 41, 4, 5, 7, 42, 43, 44, 45, 46, 47, 48, 49, 50, 51, 52, 53, 54, 55, 56, 57, 58, 59, 60, 61, 62, 63, 64, 65, 66, 67, 68, 69, 70, 71, 72, 73, 74, 75, 76, 77] (by decide +kernel) (by decide +kernel)
set_option maxRecDepth 20000 in
theorem gX11_rule_X11_coats : GoodIn wsX11_rule (wsV RX11 131 RX11 yX11_coats wsX11_coats) := goodIn_app (goodIn_of _ (by decide +kernel)) ggX11_rule_X11_coats
theorem dX11_rule_0 : decode cX11_rule 0 = .ok (.iload_n 1, 1) := by decide +kernel
theorem dX11_rule_1 : decode cX11_rule 1 = .ok (.i2l, 1) := by decide +kernel
theorem dX11_rule_2 : decode cX11_rule 2 = .ok (.lconst 0, 1) := by decide +kernel
theorem dX11_rule_3 : decode cX11_rule 3 = .ok (.ldc2_w 183, 3) := by decide +kernel
theorem dX11_rule_6 : decode cX11_rule 6 = .ok (.invokestatic 61, 3) := by decide +kernel
theorem dX11_rule_9 : decode cX11_rule 9 = .ok (.ifCond .ne 6, 3) := by decide +kernel
theorem dX11_rule_12 : decode cX11_rule 12 = .ok (.ldc 147, 2) := by decide +kernel
theorem dX11_rule_14 : decode cX11_rule 14 = .ok (.ireturn, 1) := by decide +kernel
theorem dX11_rule_15 : decode cX11_rule 15 = .ok (.aload_n 0, 1) := by decide +kernel
theorem dX11_rule_16 : decode cX11_rule 16 = .ok (.invokevirtual 173, 3) := by decide +kernel
theorem dX11_rule_19 : decode cX11_rule 19 = .ok (.aload_n 0, 1) := by decide +kernel
theorem dX11_rule_20 : decode cX11_rule 20 = .ok (.getfield 7, 3) := by decide +kernel
theorem dX11_rule_23 : decode cX11_rule 23 = .ok (.iconst 1, 1) := by decide +kernel
theorem dX11_rule_24 : decode cX11_rule 24 = .ok (.iload_n 1, 1) := by decide +kernel
theorem dX11_rule_25 : decode cX11_rule 25 = .ok (.iastore, 1) := by decide +kernel
theorem dX11_rule_26 : decode cX11_rule 26 = .ok (.aload_n 0, 1) := by decide +kernel
theorem dX11_rule_27 : decode cX11_rule 27 = .ok (.invokevirtual 131, 3) := by decide +kernel
theorem dX11_rule_30 : decode cX11_rule 30 = .ok (.ireturn, 1) := by decide +kernel
set_option maxRecDepth 20000 in
theorem ggX11_sign_X11_in : GoodIn wsX11_sign wsX11_in := goodIn_r _ [8] (by decide +kernel) (by decide +kernel)
set_option maxRecDepth 20000 in
theorem gX11_sign_X11_in : GoodIn wsX11_sign (va_wsS RX11 61 yX11_in wsX11_in) := goodIn_app (goodIn_of _ (by decide +kernel)) ggX11_sign_X11_in
set_option maxRecDepth 20000 in
theorem ggX11_sign_X11_minds : GoodIn wsX11_sign wsX11_minds := goodIn_r _ [12, 13, 3, 14, 15, 16, 7, 17, 18, 19, 20, 21, 22, 23, 24, 25, 26, 27, 28, 29, 30, 31, 32, 33, 34, 35] (by decide +kernel) (by decide +kernel)
set_option maxRecDepth 20000 in
theorem gX11_sign_X11_minds : GoodIn wsX11_sign (wsV RX11 173 RX11 yX11_minds wsX11_minds) := goodIn_app (goodIn_of _ (by decide +kernel)) ggX11_sign_X11_minds
theorem dX11_sign_0 : decode cX11_sign 0 = .ok (.iload_n 1, 1) := by decide +kernel
theorem dX11_sign_1 : decode cX11_sign 1 = .ok (.i2l, 1) := by decide +kernel
theorem dX11_sign_2 : decode cX11_sign 2 = .ok (.lconst 0, 1) := by decide +kernel
theorem dX11_sign_3 : decode cX11_sign 3 = .ok (.ldc2_w 185, 3) := by decide +kernel
theorem dX11_sign_6 : decode cX11_sign 6 = .ok (.invokestatic 61, 3) := by decide +kernel
theorem dX11_sign_9 : decode cX11_sign 9 = .ok (.ifCond .ne 6, 3) := by decide +kernel
theorem dX11_sign_12 : decode cX11_sign 12 = .ok (.ldc 147, 2) := by decide +kernel
theorem dX11_sign_14 : decode cX11_sign 14 = .ok (.ireturn, 1) := by decide +kernel
theorem dX11_sign_15 : decode cX11_sign 15 = .ok (.aload_n 0, 1) := by decide +kernel
theorem dX11_sign_16 : decode cX11_sign 16 = .ok (.getfield 7, 3) := by decide +kernel
theorem dX11_sign_19 : decode cX11_sign 19 = .ok (.iconst 2, 1) := by decide +kernel
theorem dX11_sign_20 : decode cX11_sign 20 = .ok (.iaload, 1) := by decide +kernel
theorem dX11_sign_21 : decode cX11_sign 21 = .ok (.bipush 10, 2) := by decide +kernel
theorem dX11_sign_23 : decode cX11_sign 23 = .ok (.if_icmp .ne 6, 3) := by decide +kernel
theorem dX11_sign_26 : decode cX11_sign 26 = .ok (.ldc 172, 2) := by decide +kernel
theorem dX11_sign_28 : decode cX11_sign 28 = .ok (.ireturn, 1) := by decide +kernel
theorem dX11_sign_29 : decode cX11_sign 29 = .ok (.aload_n 0, 1) := by decide +kernel
theorem dX11_sign_30 : decode cX11_sign 30 = .ok (.invokevirtual 173, 3) := by decide +kernel
theorem dX11_sign_33 : decode cX11_sign 33 = .ok (.aload_n 0, 1) := by decide +kernel
theorem dX11_sign_34 : decode cX11_sign 34 = .ok (.getfield 7, 3) := by decide +kernel
theorem dX11_sign_37 : decode cX11_sign 37 = .ok (.iconst 3, 1) := by decide +kernel
theorem dX11_sign_38 : decode cX11_sign 38 = .ok (.aload_n 0, 1) := by decide +kernel
theorem dX11_sign_39 : decode cX11_sign 39 = .ok (.getfield 7, 3) := by decide +kernel
theorem dX11_sign_42 : decode cX11_sign 42 = .ok (.iconst 2, 1) := by decide +kernel
theorem dX11_sign_43 : decode cX11_sign 43 = .ok (.iaload, 1) := by decide +kernel
theorem dX11_sign_44 : decode cX11_sign 44 = .ok (.iadd, 1) := by decide +kernel
theorem dX11_sign_45 : decode cX11_sign 45 = .ok (.iload_n 1, 1) := by decide +kernel
theorem dX11_sign_46 : decode cX11_sign 46 = .ok (.iastore, 1) := by decide +kernel
theorem dX11_sign_47 : decode cX11_sign 47 = .ok (.aload_n 0, 1) := by decide +kernel
theorem dX11_sign_48 : decode cX11_sign 48 = .ok (.getfield 7, 3) := by decide +kernel
theorem dX11_sign_51 : decode cX11_sign 51 = .ok (.iconst 2, 1) := by decide +kernel
theorem dX11_sign_52 : decode cX11_sign 52 = .ok (.dup2, 1) := by decide +kernel
theorem dX11_sign_53 : decode cX11_sign 53 = .ok (.iaload, 1) := by decide +kernel
theorem dX11_sign_54 : decode cX11_sign 54 = .ok (.iconst 1, 1) := by decide +kernel
theorem dX11_sign_55 : decode cX11_sign 55 = .ok (.iadd, 1) := by decide +kernel
theorem dX11_sign_56 : decode cX11_sign 56 = .ok (.iastore, 1) := by decide +kernel
theorem dX11_sign_57 : decode cX11_sign 57 = .ok (.aload_n 0, 1) := by decide +kernel
theorem dX11_sign_58 : decode cX11_sign 58 = .ok (.getfield 7, 3) := by decide +kernel
theorem dX11_sign_61 : decode cX11_sign 61 = .ok (.iconst 2, 1) := by decide +kernel
theorem dX11_sign_62 : decode cX11_sign 62 = .ok (.iaload, 1) := by decide +kernel
theorem dX11_sign_63 : decode cX11_sign 63 = .ok (.ireturn, 1) := by decide +kernel
set_option maxRecDepth 20000 in
theorem ggX11_wipe_X11_minds : GoodIn wsX11_wipe wsX11_minds := goodIn_r _ [6, 7, 1, 8, 9, 10, 5, 11, 12, 13, 14, 15, 16, 17, 18, 19, 20, 21, 22, 23, 24, 25, 26, 27, 28, 29] (by decide +kernel) (by decide +kernel)
set_option maxRecDepth 20000 in
theorem gX11_wipe_X11_minds : GoodIn wsX11_wipe (wsV RX11 173 RX11 yX11_minds wsX11_minds) := goodIn_app (goodIn_of _ (by decide +kernel)) ggX11_wipe_X11_minds
theorem dX11_wipe_0 : decode cX11_wipe 0 = .ok (.aload_n 0, 1) := by decide +kernel
theorem dX11_wipe_1 : decode cX11_wipe 1 = .ok (.invokevirtual 173, 3) := by decide +kernel
theorem dX11_wipe_4 : decode cX11_wipe 4 = .ok (.aload_n 0, 1) := by decide +kernel
theorem dX11_wipe_5 : decode cX11_wipe 5 = .ok (.getfield 7, 3) := by decide +kernel
theorem dX11_wipe_8 : decode cX11_wipe 8 = .ok (.iconst 2, 1) := by decide +kernel
theorem dX11_wipe_9 : decode cX11_wipe 9 = .ok (.iaload, 1) := by decide +kernel
theorem dX11_wipe_10 : decode cX11_wipe 10 = .ok (.istore_n 1, 1) := by decide +kernel
theorem dX11_wipe_11 : decode cX11_wipe 11 = .ok (.aload_n 0, 1) := by decide +kernel
theorem dX11_wipe_12 : decode cX11_wipe 12 = .ok (.getfield 7, 3) := by decide +kernel
theorem dX11_wipe_15 : decode cX11_wipe 15 = .ok (.iconst 2, 1) := by decide +kernel
theorem dX11_wipe_16 : decode cX11_wipe 16 = .ok (.iconst 0, 1) := by decide +kernel
theorem dX11_wipe_17 : decode cX11_wipe 17 = .ok (.iastore, 1) := by decide +kernel
theorem dX11_wipe_18 : decode cX11_wipe 18 = .ok (.iload_n 1, 1) := by decide +kernel
theorem dX11_wipe_19 : decode cX11_wipe 19 = .ok (.ireturn, 1) := by decide +kernel
theorem dX11_draw_0 : decode cX11_draw 0 = .ok (.aload_n 0, 1) := by decide +kernel
theorem dX11_draw_1 : decode cX11_draw 1 = .ok (.aload_n 0, 1) := by decide +kernel
theorem dX11_draw_2 : decode cX11_draw 2 = .ok (.getfield 187, 3) := by decide +kernel
theorem dX11_draw_5 : decode cX11_draw 5 = .ok (.i2l, 1) := by decide +kernel
theorem dX11_draw_6 : decode cX11_draw 6 = .ok (.ldc2_w 190, 3) := by decide +kernel
theorem dX11_draw_9 : decode cX11_draw 9 = .ok (.lmul, 1) := by decide +kernel
theorem dX11_draw_10 : decode cX11_draw 10 = .ok (.ldc2_w 192, 3) := by decide +kernel
theorem dX11_draw_13 : decode cX11_draw 13 = .ok (.ladd, 1) := by decide +kernel
theorem dX11_draw_14 : decode cX11_draw 14 = .ok (.ldc2_w 194, 3) := by decide +kernel
theorem dX11_draw_17 : decode cX11_draw 17 = .ok (.lrem, 1) := by decide +kernel
theorem dX11_draw_18 : decode cX11_draw 18 = .ok (.l2i, 1) := by decide +kernel
theorem dX11_draw_19 : decode cX11_draw 19 = .ok (.putfield 187, 3) := by decide +kernel
theorem dX11_draw_22 : decode cX11_draw 22 = .ok (.aload_n 0, 1) := by decide +kernel
theorem dX11_draw_23 : decode cX11_draw 23 = .ok (.getfield 187, 3) := by decide +kernel
theorem dX11_draw_26 : decode cX11_draw 26 = .ok (.ldc 196, 2) := by decide +kernel
theorem dX11_draw_28 : decode cX11_draw 28 = .ok (.idiv, 1) := by decide +kernel
theorem dX11_draw_29 : decode cX11_draw 29 = .ok (.iload_n 1, 1) := by decide +kernel
theorem dX11_draw_30 : decode cX11_draw 30 = .ok (.irem, 1) := by decide +kernel
theorem dX11_draw_31 : decode cX11_draw 31 = .ok (.ireturn, 1) := by decide +kernel
set_option maxRecDepth 20000 in
theorem ggX11_drift_X11_in : GoodIn wsX11_drift wsX11_in := goodIn_r _ [7] (by decide +kernel) (by decide +kernel)
set_option maxRecDepth 20000 in
theorem gX11_drift_X11_in : GoodIn wsX11_drift (va_wsS RX11 61 yX11_in wsX11_in) := goodIn_app (goodIn_of _ (by decide +kernel)) ggX11_drift_X11_in
set_option maxRecDepth 20000 in
theorem ggX11_drift_X11_minds : GoodIn wsX11_drift wsX11_minds := goodIn_r _ [11, 12, 3, 13, 14, 15, 6, 16, 42, 43, 44, 45, 46, 47, 48, 49, 50, 51, 52, 53, 54, 55, 56, 57, 58, 59] (by decide +kernel) (by decide +kernel)
set_option maxRecDepth 20000 in
theorem gX11_drift_X11_minds : GoodIn wsX11_drift (wsV RX11 173 RX11 yX11_minds wsX11_minds) := goodIn_app (goodIn_of _ (by decide +kernel)) ggX11_drift_X11_minds
set_option maxRecDepth 20000 in
theorem ggX11_drift_X11_draw : GoodIn wsX11_drift wsX11_draw := goodIn_r _ [20, 21, 22, 23, 24, 25, 42, 43, 44, 45, 46, 47, 48, 49, 50, 51, 52, 53, 54, 55, 56, 57, 58, 59] (by decide +kernel) (by decide +kernel)
set_option maxRecDepth 20000 in
theorem gX11_drift_X11_draw : GoodIn wsX11_drift (wsV RX11 199 RX11 yX11_draw wsX11_draw) := goodIn_app (goodIn_of _ (by decide +kernel)) ggX11_drift_X11_draw
set_option maxRecDepth 20000 in
theorem ggX11_drift_X11_isMan : GoodIn wsX11_drift wsX11_isMan := goodIn_r _ [29, 3, 30, 31, 32, 6, 33, 4, 5, 7, 42, 43, 44, 45, 46, 47, 48, 49, 50, 51, 52, 53, 54, 55, 56, 57, 58, 59] (by decide +kernel) (by decide +kernel)
set_option maxRecDepth 20000 in
theorem gX11_drift_X11_isMan : GoodIn wsX11_drift (wsV RX11 164 RX11 yX11_isMan wsX11_isMan) := goodIn_app (goodIn_of _ (by decide +kernel)) ggX11_drift_X11_isMan
set_option maxRecDepth 20000 in
theorem ggX11_drift_X11_isWoman : GoodIn wsX11_drift wsX11_isWoman := goodIn_r _ [37, 3, 30, 31, 32, 6, 33, 4, 5, 7, 42, 43, 44, 45, 46, 47, 48, 49, 50, 51, 52, 53, 54, 55, 56, 57, 58, 59] (by decide +kernel) (by decide +kernel)
set_option maxRecDepth 20000 in
theorem gX11_drift_X11_isWoman : GoodIn wsX11_drift (wsV RX11 69 RX11 yX11_isWoman wsX11_isWoman) := goodIn_app (goodIn_of _ (by decide +kernel)) ggX11_drift_X11_isWoman
set_option maxRecDepth 20000 in
theorem ggX11_drift_X11_comes : GoodIn wsX11_drift wsX11_comes := goodIn_r _ [41, 3, 42, 43, 44, 45, 46, 47, 48, 49, 50, 51, 52, 53, 54, 55, 56, 57, 58, 59] (by decide +kernel) (by decide +kernel)
set_option maxRecDepth 20000 in
theorem gX11_drift_X11_comes : GoodIn wsX11_drift (wsV RX11 176 RX11 yX11_comes wsX11_comes) := goodIn_app (goodIn_of _ (by decide +kernel)) ggX11_drift_X11_comes
theorem dX11_drift_0 : decode cX11_drift 0 = .ok (.iload_n 1, 1) := by decide +kernel
theorem dX11_drift_1 : decode cX11_drift 1 = .ok (.i2l, 1) := by decide +kernel
theorem dX11_drift_2 : decode cX11_drift 2 = .ok (.lconst 1, 1) := by decide +kernel
theorem dX11_drift_3 : decode cX11_drift 3 = .ok (.ldc2_w 197, 3) := by decide +kernel
theorem dX11_drift_6 : decode cX11_drift 6 = .ok (.invokestatic 61, 3) := by decide +kernel
theorem dX11_drift_9 : decode cX11_drift 9 = .ok (.ifCond .ne 6, 3) := by decide +kernel
theorem dX11_drift_12 : decode cX11_drift 12 = .ok (.ldc 147, 2) := by decide +kernel
theorem dX11_drift_14 : decode cX11_drift 14 = .ok (.ireturn, 1) := by decide +kernel
theorem dX11_drift_15 : decode cX11_drift 15 = .ok (.iconst 0, 1) := by decide +kernel
theorem dX11_drift_16 : decode cX11_drift 16 = .ok (.istore_n 2, 1) := by decide +kernel
theorem dX11_drift_17 : decode cX11_drift 17 = .ok (.iload_n 2, 1) := by decide +kernel
theorem dX11_drift_18 : decode cX11_drift 18 = .ok (.iload_n 1, 1) := by decide +kernel
theorem dX11_drift_19 : decode cX11_drift 19 = .ok (.if_icmp .ge 107, 3) := by decide +kernel
theorem dX11_drift_22 : decode cX11_drift 22 = .ok (.aload_n 0, 1) := by decide +kernel
theorem dX11_drift_23 : decode cX11_drift 23 = .ok (.getfield 7, 3) := by decide +kernel
theorem dX11_drift_26 : decode cX11_drift 26 = .ok (.iconst 0, 1) := by decide +kernel
theorem dX11_drift_27 : decode cX11_drift 27 = .ok (.iaload, 1) := by decide +kernel
theorem dX11_drift_28 : decode cX11_drift 28 = .ok (.bipush 16, 2) := by decide +kernel
theorem dX11_drift_30 : decode cX11_drift 30 = .ok (.if_icmp .ge 96, 3) := by decide +kernel
theorem dX11_drift_33 : decode cX11_drift 33 = .ok (.aload_n 0, 1) := by decide +kernel
theorem dX11_drift_34 : decode cX11_drift 34 = .ok (.invokevirtual 173, 3) := by decide +kernel
theorem dX11_drift_37 : decode cX11_drift 37 = .ok (.aload_n 0, 1) := by decide +kernel
theorem dX11_drift_38 : decode cX11_drift 38 = .ok (.iconst 2, 1) := by decide +kernel
theorem dX11_drift_39 : decode cX11_drift 39 = .ok (.invokevirtual 199, 3) := by decide +kernel
theorem dX11_drift_42 : decode cX11_drift 42 = .ok (.istore_n 3, 1) := by decide +kernel
theorem dX11_drift_43 : decode cX11_drift 43 = .ok (.aload_n 0, 1) := by decide +kernel
theorem dX11_drift_44 : decode cX11_drift 44 = .ok (.bipush 10, 2) := by decide +kernel
theorem dX11_drift_46 : decode cX11_drift 46 = .ok (.invokevirtual 199, 3) := by decide +kernel
theorem dX11_drift_49 : decode cX11_drift 49 = .ok (.istore 4, 2) := by decide +kernel
theorem dX11_drift_51 : decode cX11_drift 51 = .ok (.aload_n 0, 1) := by decide +kernel
theorem dX11_drift_52 : decode cX11_drift 52 = .ok (.aload_n 0, 1) := by decide +kernel
theorem dX11_drift_53 : decode cX11_drift 53 = .ok (.getfield 7, 3) := by decide +kernel
theorem dX11_drift_56 : decode cX11_drift 56 = .ok (.iconst 0, 1) := by decide +kernel
theorem dX11_drift_57 : decode cX11_drift 57 = .ok (.iaload, 1) := by decide +kernel
theorem dX11_drift_58 : decode cX11_drift 58 = .ok (.iconst 1, 1) := by decide +kernel
theorem dX11_drift_59 : decode cX11_drift 59 = .ok (.iadd, 1) := by decide +kernel
theorem dX11_drift_60 : decode cX11_drift 60 = .ok (.invokevirtual 199, 3) := by decide +kernel
theorem dX11_drift_63 : decode cX11_drift 63 = .ok (.iconst 1, 1) := by decide +kernel
theorem dX11_drift_64 : decode cX11_drift 64 = .ok (.isub, 1) := by decide +kernel
theorem dX11_drift_65 : decode cX11_drift 65 = .ok (.istore 5, 2) := by decide +kernel
theorem dX11_drift_67 : decode cX11_drift 67 = .ok (.aload_n 0, 1) := by decide +kernel
theorem dX11_drift_68 : decode cX11_drift 68 = .ok (.aload_n 0, 1) := by decide +kernel
theorem dX11_drift_69 : decode cX11_drift 69 = .ok (.getfield 7, 3) := by decide +kernel
theorem dX11_drift_72 : decode cX11_drift 72 = .ok (.iconst 0, 1) := by decide +kernel
theorem dX11_drift_73 : decode cX11_drift 73 = .ok (.iaload, 1) := by decide +kernel
theorem dX11_drift_74 : decode cX11_drift 74 = .ok (.iconst 1, 1) := by decide +kernel
theorem dX11_drift_75 : decode cX11_drift 75 = .ok (.iadd, 1) := by decide +kernel
theorem dX11_drift_76 : decode cX11_drift 76 = .ok (.invokevirtual 199, 3) := by decide +kernel
theorem dX11_drift_79 : decode cX11_drift 79 = .ok (.iconst 1, 1) := by decide +kernel
theorem dX11_drift_80 : decode cX11_drift 80 = .ok (.isub, 1) := by decide +kernel
theorem dX11_drift_81 : decode cX11_drift 81 = .ok (.istore 6, 2) := by decide +kernel
theorem dX11_drift_83 : decode cX11_drift 83 = .ok (.aload_n 0, 1) := by decide +kernel
theorem dX11_drift_84 : decode cX11_drift 84 = .ok (.iload_n 3, 1) := by decide +kernel
theorem dX11_drift_85 : decode cX11_drift 85 = .ok (.iload 4, 2) := by decide +kernel
theorem dX11_drift_87 : decode cX11_drift 87 = .ok (.aload_n 0, 1) := by decide +kernel
theorem dX11_drift_88 : decode cX11_drift 88 = .ok (.iload 5, 2) := by decide +kernel
theorem dX11_drift_90 : decode cX11_drift 90 = .ok (.invokevirtual 164, 3) := by decide +kernel
theorem dX11_drift_93 : decode cX11_drift 93 = .ok (.ifCond .eq 8, 3) := by decide +kernel
theorem dX11_drift_96 : decode cX11_drift 96 = .ok (.iload 5, 2) := by decide +kernel
theorem dX11_drift_98 : decode cX11_drift 98 = .ok (.goto 4, 3) := by decide +kernel
theorem dX11_drift_101 : decode cX11_drift 101 = .ok (.iconst (-1), 1) := by decide +kernel
theorem dX11_drift_102 : decode cX11_drift 102 = .ok (.aload_n 0, 1) := by decide +kernel
theorem dX11_drift_103 : decode cX11_drift 103 = .ok (.iload 6, 2) := by decide +kernel
theorem dX11_drift_105 : decode cX11_drift 105 = .ok (.invokevirtual 69, 3) := by decide +kernel
theorem dX11_drift_108 : decode cX11_drift 108 = .ok (.ifCond .eq 8, 3) := by decide +kernel
theorem dX11_drift_111 : decode cX11_drift 111 = .ok (.iload 6, 2) := by decide +kernel
theorem dX11_drift_113 : decode cX11_drift 113 = .ok (.goto 4, 3) := by decide +kernel
theorem dX11_drift_116 : decode cX11_drift 116 = .ok (.iconst (-1), 1) := by decide +kernel
theorem dX11_drift_117 : decode cX11_drift 117 = .ok (.invokevirtual 176, 3) := by decide +kernel
theorem dX11_drift_120 : decode cX11_drift 120 = .ok (.iinc 2 1, 3) := by decide +kernel
theorem dX11_drift_123 : decode cX11_drift 123 = .ok (.goto (-106), 3) := by decide +kernel
theorem dX11_drift_126 : decode cX11_drift 126 = .ok (.aload_n 0, 1) := by decide +kernel
theorem dX11_drift_127 : decode cX11_drift 127 = .ok (.getfield 7, 3) := by decide +kernel
theorem dX11_drift_130 : decode cX11_drift 130 = .ok (.iconst 0, 1) := by decide +kernel
theorem dX11_drift_131 : decode cX11_drift 131 = .ok (.iaload, 1) := by decide +kernel
theorem dX11_drift_132 : decode cX11_drift 132 = .ok (.ireturn, 1) := by decide +kernel
set_option maxRecDepth 20000 in
theorem ggX11_undo_X11_in : GoodIn wsX11_undo wsX11_in := goodIn_r _ [9] (by decide +kernel) (by decide +kernel)
set_option maxRecDepth 20000 in
theorem gX11_undo_X11_in : GoodIn wsX11_undo (va_wsS RX11 61 yX11_in wsX11_in) := goodIn_app (goodIn_of _ (by decide +kernel)) ggX11_undo_X11_in
set_option maxRecDepth 20000 in
theorem ggX11_undo_X11_copy : GoodIn wsX11_undo wsX11_copy := goodIn_r _ [13, 5, 14, 15, 16, 17, 18, 19, 20, 21, 22, 23, 24, 25, 26, 27, 28, 29, 30, 31] (by decide +kernel) (by decide +kernel)
set_option maxRecDepth 20000 in
theorem gX11_undo_X11_copy : GoodIn wsX11_undo (wsV RX11 57 RX11 yX11_copy wsX11_copy) := goodIn_app (goodIn_of _ (by decide +kernel)) ggX11_undo_X11_copy
theorem dX11_undo_0 : decode cX11_undo 0 = .ok (.iload_n 1, 1) := by decide +kernel
theorem dX11_undo_1 : decode cX11_undo 1 = .ok (.i2l, 1) := by decide +kernel
theorem dX11_undo_2 : decode cX11_undo 2 = .ok (.lconst 1, 1) := by decide +kernel
theorem dX11_undo_3 : decode cX11_undo 3 = .ok (.ldc2_w 202, 3) := by decide +kernel
theorem dX11_undo_6 : decode cX11_undo 6 = .ok (.invokestatic 61, 3) := by decide +kernel
theorem dX11_undo_9 : decode cX11_undo 9 = .ok (.ifCond .ne 6, 3) := by decide +kernel
theorem dX11_undo_12 : decode cX11_undo 12 = .ok (.ldc 147, 2) := by decide +kernel
theorem dX11_undo_14 : decode cX11_undo 14 = .ok (.ireturn, 1) := by decide +kernel
theorem dX11_undo_15 : decode cX11_undo 15 = .ok (.iload_n 1, 1) := by decide +kernel
theorem dX11_undo_16 : decode cX11_undo 16 = .ok (.aload_n 0, 1) := by decide +kernel
theorem dX11_undo_17 : decode cX11_undo 17 = .ok (.getfield 53, 3) := by decide +kernel
theorem dX11_undo_20 : decode cX11_undo 20 = .ok (.if_icmp .le 6, 3) := by decide +kernel
theorem dX11_undo_23 : decode cX11_undo 23 = .ok (.ldc 167, 2) := by decide +kernel
theorem dX11_undo_25 : decode cX11_undo 25 = .ok (.ireturn, 1) := by decide +kernel
theorem dX11_undo_26 : decode cX11_undo 26 = .ok (.aload_n 0, 1) := by decide +kernel
theorem dX11_undo_27 : decode cX11_undo 27 = .ok (.dup, 1) := by decide +kernel
theorem dX11_undo_28 : decode cX11_undo 28 = .ok (.getfield 53, 3) := by decide +kernel
theorem dX11_undo_31 : decode cX11_undo 31 = .ok (.iload_n 1, 1) := by decide +kernel
theorem dX11_undo_32 : decode cX11_undo 32 = .ok (.isub, 1) := by decide +kernel
theorem dX11_undo_33 : decode cX11_undo 33 = .ok (.putfield 53, 3) := by decide +kernel
theorem dX11_undo_36 : decode cX11_undo 36 = .ok (.aload_n 0, 1) := by decide +kernel
theorem dX11_undo_37 : decode cX11_undo 37 = .ok (.sipush 423, 3) := by decide +kernel
theorem dX11_undo_40 : decode cX11_undo 40 = .ok (.sipush 141, 3) := by decide +kernel
theorem dX11_undo_43 : decode cX11_undo 43 = .ok (.aload_n 0, 1) := by decide +kernel
theorem dX11_undo_44 : decode cX11_undo 44 = .ok (.getfield 53, 3) := by decide +kernel
theorem dX11_undo_47 : decode cX11_undo 47 = .ok (.imul, 1) := by decide +kernel
theorem dX11_undo_48 : decode cX11_undo 48 = .ok (.iadd, 1) := by decide +kernel
theorem dX11_undo_49 : decode cX11_undo 49 = .ok (.iconst 0, 1) := by decide +kernel
theorem dX11_undo_50 : decode cX11_undo 50 = .ok (.invokevirtual 57, 3) := by decide +kernel
theorem dX11_undo_53 : decode cX11_undo 53 = .ok (.aload_n 0, 1) := by decide +kernel
theorem dX11_undo_54 : decode cX11_undo 54 = .ok (.getfield 7, 3) := by decide +kernel
theorem dX11_undo_57 : decode cX11_undo 57 = .ok (.iconst 0, 1) := by decide +kernel
theorem dX11_undo_58 : decode cX11_undo 58 = .ok (.iaload, 1) := by decide +kernel
theorem dX11_undo_59 : decode cX11_undo 59 = .ok (.ireturn, 1) := by decide +kernel
set_option maxRecDepth 20000 in
theorem ggX11_write_X11_isOne : GoodIn wsX11_write wsX11_isOne := goodIn_r _ [13, 14, 15, 16, 12, 17, 18, 19, 20, 21, 22, 23, 24, 25, 26, 27, 28, 29, 30, 31, 32, 33, 34, 35] (by decide +kernel) (by decide +kernel)
set_option maxRecDepth 20000 in
theorem gX11_write_X11_isOne : GoodIn wsX11_write (wsV RX11 65 RX11 yX11_isOne wsX11_isOne) := goodIn_app (goodIn_of _ (by decide +kernel)) ggX11_write_X11_isOne
set_option maxRecDepth 20000 in
theorem ggX11_write_X11_in : GoodIn wsX11_write wsX11_in := goodIn_r _ [17] (by decide +kernel) (by decide +kernel)
set_option maxRecDepth 20000 in
theorem gX11_write_X11_in : GoodIn wsX11_write (va_wsS RX11 61 yX11_in wsX11_in) := goodIn_app (goodIn_of _ (by decide +kernel)) ggX11_write_X11_in
theorem dX11_write_0 : decode cX11_write 0 = .ok (.aload_n 0, 1) := by decide +kernel
theorem dX11_write_1 : decode cX11_write 1 = .ok (.iload_n 1, 1) := by decide +kernel
theorem dX11_write_2 : decode cX11_write 2 = .ok (.invokevirtual 65, 3) := by decide +kernel
theorem dX11_write_5 : decode cX11_write 5 = .ok (.ifCond .ne 6, 3) := by decide +kernel
theorem dX11_write_8 : decode cX11_write 8 = .ok (.ldc 148, 2) := by decide +kernel
theorem dX11_write_10 : decode cX11_write 10 = .ok (.ireturn, 1) := by decide +kernel
theorem dX11_write_11 : decode cX11_write 11 = .ok (.iload_n 2, 1) := by decide +kernel
theorem dX11_write_12 : decode cX11_write 12 = .ok (.i2l, 1) := by decide +kernel
theorem dX11_write_13 : decode cX11_write 13 = .ok (.lconst 0, 1) := by decide +kernel
theorem dX11_write_14 : decode cX11_write 14 = .ok (.ldc2_w 170, 3) := by decide +kernel
theorem dX11_write_17 : decode cX11_write 17 = .ok (.invokestatic 61, 3) := by decide +kernel
theorem dX11_write_20 : decode cX11_write 20 = .ok (.ifCond .eq 15, 3) := by decide +kernel
theorem dX11_write_23 : decode cX11_write 23 = .ok (.iload_n 3, 1) := by decide +kernel
theorem dX11_write_24 : decode cX11_write 24 = .ok (.i2l, 1) := by decide +kernel
theorem dX11_write_25 : decode cX11_write 25 = .ok (.lconst 0, 1) := by decide +kernel
theorem dX11_write_26 : decode cX11_write 26 = .ok (.ldc2_w 170, 3) := by decide +kernel
theorem dX11_write_29 : decode cX11_write 29 = .ok (.invokestatic 61, 3) := by decide +kernel
theorem dX11_write_32 : decode cX11_write 32 = .ok (.ifCond .ne 6, 3) := by decide +kernel
theorem dX11_write_35 : decode cX11_write 35 = .ok (.ldc 147, 2) := by decide +kernel
theorem dX11_write_37 : decode cX11_write 37 = .ok (.ireturn, 1) := by decide +kernel
theorem dX11_write_38 : decode cX11_write 38 = .ok (.aload_n 0, 1) := by decide +kernel
theorem dX11_write_39 : decode cX11_write 39 = .ok (.getfield 124, 3) := by decide +kernel
theorem dX11_write_42 : decode cX11_write 42 = .ok (.bipush 20, 2) := by decide +kernel
theorem dX11_write_44 : decode cX11_write 44 = .ok (.if_icmp .ne 6, 3) := by decide +kernel
theorem dX11_write_47 : decode cX11_write 47 = .ok (.ldc 172, 2) := by decide +kernel
theorem dX11_write_49 : decode cX11_write 49 = .ok (.ireturn, 1) := by decide +kernel
theorem dX11_write_50 : decode cX11_write 50 = .ok (.aload_n 0, 1) := by decide +kernel
theorem dX11_write_51 : decode cX11_write 51 = .ok (.getfield 20, 3) := by decide +kernel
theorem dX11_write_54 : decode cX11_write 54 = .ok (.aload_n 0, 1) := by decide +kernel
theorem dX11_write_55 : decode cX11_write 55 = .ok (.getfield 124, 3) := by decide +kernel
theorem dX11_write_58 : decode cX11_write 58 = .ok (.iload_n 1, 1) := by decide +kernel
theorem dX11_write_59 : decode cX11_write 59 = .ok (.iastore, 1) := by decide +kernel
theorem dX11_write_60 : decode cX11_write 60 = .ok (.aload_n 0, 1) := by decide +kernel
theorem dX11_write_61 : decode cX11_write 61 = .ok (.getfield 23, 3) := by decide +kernel
theorem dX11_write_64 : decode cX11_write 64 = .ok (.aload_n 0, 1) := by decide +kernel
theorem dX11_write_65 : decode cX11_write 65 = .ok (.getfield 124, 3) := by decide +kernel
theorem dX11_write_68 : decode cX11_write 68 = .ok (.iload_n 2, 1) := by decide +kernel
theorem dX11_write_69 : decode cX11_write 69 = .ok (.iastore, 1) := by decide +kernel
theorem dX11_write_70 : decode cX11_write 70 = .ok (.aload_n 0, 1) := by decide +kernel
theorem dX11_write_71 : decode cX11_write 71 = .ok (.getfield 26, 3) := by decide +kernel
theorem dX11_write_74 : decode cX11_write 74 = .ok (.aload_n 0, 1) := by decide +kernel
theorem dX11_write_75 : decode cX11_write 75 = .ok (.getfield 124, 3) := by decide +kernel
theorem dX11_write_78 : decode cX11_write 78 = .ok (.iload_n 3, 1) := by decide +kernel
theorem dX11_write_79 : decode cX11_write 79 = .ok (.iastore, 1) := by decide +kernel
theorem dX11_write_80 : decode cX11_write 80 = .ok (.aload_n 0, 1) := by decide +kernel
theorem dX11_write_81 : decode cX11_write 81 = .ok (.dup, 1) := by decide +kernel
theorem dX11_write_82 : decode cX11_write 82 = .ok (.getfield 124, 3) := by decide +kernel
theorem dX11_write_85 : decode cX11_write 85 = .ok (.iconst 1, 1) := by decide +kernel
theorem dX11_write_86 : decode cX11_write 86 = .ok (.iadd, 1) := by decide +kernel
theorem dX11_write_87 : decode cX11_write 87 = .ok (.putfield 124, 3) := by decide +kernel
theorem dX11_write_90 : decode cX11_write 90 = .ok (.aload_n 0, 1) := by decide +kernel
theorem dX11_write_91 : decode cX11_write 91 = .ok (.getfield 124, 3) := by decide +kernel
theorem dX11_write_94 : decode cX11_write 94 = .ok (.ireturn, 1) := by decide +kernel
theorem dX11_tear_0 : decode cX11_tear 0 = .ok (.aload_n 0, 1) := by decide +kernel
theorem dX11_tear_1 : decode cX11_tear 1 = .ok (.getfield 124, 3) := by decide +kernel
theorem dX11_tear_4 : decode cX11_tear 4 = .ok (.istore_n 1, 1) := by decide +kernel
theorem dX11_tear_5 : decode cX11_tear 5 = .ok (.aload_n 0, 1) := by decide +kernel
theorem dX11_tear_6 : decode cX11_tear 6 = .ok (.iconst 0, 1) := by decide +kernel
theorem dX11_tear_7 : decode cX11_tear 7 = .ok (.putfield 124, 3) := by decide +kernel
theorem dX11_tear_10 : decode cX11_tear 10 = .ok (.iload_n 1, 1) := by decide +kernel
theorem dX11_tear_11 : decode cX11_tear 11 = .ok (.ireturn, 1) := by decide +kernel
theorem dX11_seed_0 : decode cX11_seed 0 = .ok (.iload_n 1, 1) := by decide +kernel
theorem dX11_seed_1 : decode cX11_seed 1 = .ok (.ifCond .ge 6, 3) := by decide +kernel
theorem dX11_seed_4 : decode cX11_seed 4 = .ok (.ldc 147, 2) := by decide +kernel
theorem dX11_seed_6 : decode cX11_seed 6 = .ok (.ireturn, 1) := by decide +kernel
theorem dX11_seed_7 : decode cX11_seed 7 = .ok (.aload_n 0, 1) := by decide +kernel
theorem dX11_seed_8 : decode cX11_seed 8 = .ok (.getfield 187, 3) := by decide +kernel
theorem dX11_seed_11 : decode cX11_seed 11 = .ok (.istore_n 2, 1) := by decide +kernel
theorem dX11_seed_12 : decode cX11_seed 12 = .ok (.aload_n 0, 1) := by decide +kernel
theorem dX11_seed_13 : decode cX11_seed 13 = .ok (.iload_n 1, 1) := by decide +kernel
theorem dX11_seed_14 : decode cX11_seed 14 = .ok (.putfield 187, 3) := by decide +kernel
theorem dX11_seed_17 : decode cX11_seed 17 = .ok (.iload_n 2, 1) := by decide +kernel
theorem dX11_seed_18 : decode cX11_seed 18 = .ok (.ireturn, 1) := by decide +kernel
set_option maxRecDepth 20000 in
theorem ggX11_keep_X11_in : GoodIn wsX11_keep wsX11_in := goodIn_r _ [9] (by decide +kernel) (by decide +kernel)
set_option maxRecDepth 20000 in
theorem gX11_keep_X11_in : GoodIn wsX11_keep (va_wsS RX11 61 yX11_in wsX11_in) := goodIn_app (goodIn_of _ (by decide +kernel)) ggX11_keep_X11_in
set_option maxRecDepth 20000 in
theorem ggX11_keep_X11_copy : GoodIn wsX11_keep wsX11_copy := goodIn_r _ [13, 14, 15, 16, 17, 18, 19, 20, 21, 22, 23, 24, 25, 26, 27, 28, 29, 30, 31, 32] (by decide +kernel) (by decide +kernel)
set_option maxRecDepth 20000 in
theorem gX11_keep_X11_copy : GoodIn wsX11_keep (wsV RX11 57 RX11 yX11_copy wsX11_copy) := goodIn_app (goodIn_of _ (by decide +kernel)) ggX11_keep_X11_copy
theorem dX11_keep_0 : decode cX11_keep 0 = .ok (.iload_n 1, 1) := by decide +kernel
theorem dX11_keep_1 : decode cX11_keep 1 = .ok (.i2l, 1) := by decide +kernel
theorem dX11_keep_2 : decode cX11_keep 2 = .ok (.lconst 0, 1) := by decide +kernel
theorem dX11_keep_3 : decode cX11_keep 3 = .ok (.lconst 1, 1) := by decide +kernel
theorem dX11_keep_4 : decode cX11_keep 4 = .ok (.invokestatic 61, 3) := by decide +kernel
theorem dX11_keep_7 : decode cX11_keep 7 = .ok (.ifCond .ne 6, 3) := by decide +kernel
theorem dX11_keep_10 : decode cX11_keep 10 = .ok (.ldc 148, 2) := by decide +kernel
theorem dX11_keep_12 : decode cX11_keep 12 = .ok (.ireturn, 1) := by decide +kernel
theorem dX11_keep_13 : decode cX11_keep 13 = .ok (.aload_n 0, 1) := by decide +kernel
theorem dX11_keep_14 : decode cX11_keep 14 = .ok (.iconst 0, 1) := by decide +kernel
theorem dX11_keep_15 : decode cX11_keep 15 = .ok (.sipush 141, 3) := by decide +kernel
theorem dX11_keep_18 : decode cX11_keep 18 = .ok (.sipush 141, 3) := by decide +kernel
theorem dX11_keep_21 : decode cX11_keep 21 = .ok (.iload_n 1, 1) := by decide +kernel
theorem dX11_keep_22 : decode cX11_keep 22 = .ok (.imul, 1) := by decide +kernel
theorem dX11_keep_23 : decode cX11_keep 23 = .ok (.iadd, 1) := by decide +kernel
theorem dX11_keep_24 : decode cX11_keep 24 = .ok (.invokevirtual 57, 3) := by decide +kernel
theorem dX11_keep_27 : decode cX11_keep 27 = .ok (.aload_n 0, 1) := by decide +kernel
theorem dX11_keep_28 : decode cX11_keep 28 = .ok (.getfield 13, 3) := by decide +kernel
theorem dX11_keep_31 : decode cX11_keep 31 = .ok (.iload_n 1, 1) := by decide +kernel
theorem dX11_keep_32 : decode cX11_keep 32 = .ok (.aload_n 0, 1) := by decide +kernel
theorem dX11_keep_33 : decode cX11_keep 33 = .ok (.getfield 187, 3) := by decide +kernel
theorem dX11_keep_36 : decode cX11_keep 36 = .ok (.iastore, 1) := by decide +kernel
theorem dX11_keep_37 : decode cX11_keep 37 = .ok (.aload_n 0, 1) := by decide +kernel
theorem dX11_keep_38 : decode cX11_keep 38 = .ok (.getfield 16, 3) := by decide +kernel
theorem dX11_keep_41 : decode cX11_keep 41 = .ok (.iload_n 1, 1) := by decide +kernel
theorem dX11_keep_42 : decode cX11_keep 42 = .ok (.iconst 1, 1) := by decide +kernel
theorem dX11_keep_43 : decode cX11_keep 43 = .ok (.bastore, 1) := by decide +kernel
theorem dX11_keep_44 : decode cX11_keep 44 = .ok (.aload_n 0, 1) := by decide +kernel
theorem dX11_keep_45 : decode cX11_keep 45 = .ok (.iconst 0, 1) := by decide +kernel
theorem dX11_keep_46 : decode cX11_keep 46 = .ok (.putfield 53, 3) := by decide +kernel
theorem dX11_keep_49 : decode cX11_keep 49 = .ok (.iconst 1, 1) := by decide +kernel
theorem dX11_keep_50 : decode cX11_keep 50 = .ok (.ireturn, 1) := by decide +kernel
set_option maxRecDepth 20000 in
theorem ggX11_goBack_X11_in : GoodIn wsX11_goBack wsX11_in := goodIn_r _ [10] (by decide +kernel) (by decide +kernel)
set_option maxRecDepth 20000 in
theorem gX11_goBack_X11_in : GoodIn wsX11_goBack (va_wsS RX11 61 yX11_in wsX11_in) := goodIn_app (goodIn_of _ (by decide +kernel)) ggX11_goBack_X11_in
set_option maxRecDepth 20000 in
theorem ggX11_goBack_X11_copy : GoodIn wsX11_goBack wsX11_copy := goodIn_r _ [14, 15, 16, 17, 18, 19, 20, 21, 22, 23, 24, 25, 26, 27, 28, 29, 30, 31, 32, 33] (by decide +kernel) (by decide +kernel)
set_option maxRecDepth 20000 in
theorem gX11_goBack_X11_copy : GoodIn wsX11_goBack (wsV RX11 57 RX11 yX11_copy wsX11_copy) := goodIn_app (goodIn_of _ (by decide +kernel)) ggX11_goBack_X11_copy
theorem dX11_goBack_0 : decode cX11_goBack 0 = .ok (.iload_n 1, 1) := by decide +kernel
theorem dX11_goBack_1 : decode cX11_goBack 1 = .ok (.i2l, 1) := by decide +kernel
theorem dX11_goBack_2 : decode cX11_goBack 2 = .ok (.lconst 0, 1) := by decide +kernel
theorem dX11_goBack_3 : decode cX11_goBack 3 = .ok (.lconst 1, 1) := by decide +kernel
theorem dX11_goBack_4 : decode cX11_goBack 4 = .ok (.invokestatic 61, 3) := by decide +kernel
theorem dX11_goBack_7 : decode cX11_goBack 7 = .ok (.ifCond .ne 6, 3) := by decide +kernel
theorem dX11_goBack_10 : decode cX11_goBack 10 = .ok (.ldc 148, 2) := by decide +kernel
theorem dX11_goBack_12 : decode cX11_goBack 12 = .ok (.ireturn, 1) := by decide +kernel
theorem dX11_goBack_13 : decode cX11_goBack 13 = .ok (.aload_n 0, 1) := by decide +kernel
theorem dX11_goBack_14 : decode cX11_goBack 14 = .ok (.getfield 16, 3) := by decide +kernel
theorem dX11_goBack_17 : decode cX11_goBack 17 = .ok (.iload_n 1, 1) := by decide +kernel
theorem dX11_goBack_18 : decode cX11_goBack 18 = .ok (.baload, 1) := by decide +kernel
theorem dX11_goBack_19 : decode cX11_goBack 19 = .ok (.ifCond .ne 6, 3) := by decide +kernel
theorem dX11_goBack_22 : decode cX11_goBack 22 = .ok (.ldc 167, 2) := by decide +kernel
theorem dX11_goBack_24 : decode cX11_goBack 24 = .ok (.ireturn, 1) := by decide +kernel
theorem dX11_goBack_25 : decode cX11_goBack 25 = .ok (.aload_n 0, 1) := by decide +kernel
theorem dX11_goBack_26 : decode cX11_goBack 26 = .ok (.sipush 141, 3) := by decide +kernel
theorem dX11_goBack_29 : decode cX11_goBack 29 = .ok (.sipush 141, 3) := by decide +kernel
theorem dX11_goBack_32 : decode cX11_goBack 32 = .ok (.iload_n 1, 1) := by decide +kernel
theorem dX11_goBack_33 : decode cX11_goBack 33 = .ok (.imul, 1) := by decide +kernel
theorem dX11_goBack_34 : decode cX11_goBack 34 = .ok (.iadd, 1) := by decide +kernel
theorem dX11_goBack_35 : decode cX11_goBack 35 = .ok (.iconst 0, 1) := by decide +kernel
theorem dX11_goBack_36 : decode cX11_goBack 36 = .ok (.invokevirtual 57, 3) := by decide +kernel
theorem dX11_goBack_39 : decode cX11_goBack 39 = .ok (.aload_n 0, 1) := by decide +kernel
theorem dX11_goBack_40 : decode cX11_goBack 40 = .ok (.aload_n 0, 1) := by decide +kernel
theorem dX11_goBack_41 : decode cX11_goBack 41 = .ok (.getfield 13, 3) := by decide +kernel
theorem dX11_goBack_44 : decode cX11_goBack 44 = .ok (.iload_n 1, 1) := by decide +kernel
theorem dX11_goBack_45 : decode cX11_goBack 45 = .ok (.iaload, 1) := by decide +kernel
theorem dX11_goBack_46 : decode cX11_goBack 46 = .ok (.putfield 187, 3) := by decide +kernel
theorem dX11_goBack_49 : decode cX11_goBack 49 = .ok (.aload_n 0, 1) := by decide +kernel
theorem dX11_goBack_50 : decode cX11_goBack 50 = .ok (.iconst 0, 1) := by decide +kernel
theorem dX11_goBack_51 : decode cX11_goBack 51 = .ok (.putfield 53, 3) := by decide +kernel
theorem dX11_goBack_54 : decode cX11_goBack 54 = .ok (.iconst 1, 1) := by decide +kernel
theorem dX11_goBack_55 : decode cX11_goBack 55 = .ok (.ireturn, 1) := by decide +kernel
theorem dJ9_max_7cf53_0 : decode cJ9_max_7cf53 0 = .ok (.iload_n 0, 1) := by decide +kernel
theorem dJ9_max_7cf53_1 : decode cJ9_max_7cf53 1 = .ok (.iload_n 1, 1) := by decide +kernel
theorem dJ9_max_7cf53_2 : decode cJ9_max_7cf53 2 = .ok (.if_icmp .lt 7, 3) := by decide +kernel
theorem dJ9_max_7cf53_5 : decode cJ9_max_7cf53 5 = .ok (.iload_n 0, 1) := by decide +kernel
theorem dJ9_max_7cf53_6 : decode cJ9_max_7cf53 6 = .ok (.goto 4, 3) := by decide +kernel
theorem dJ9_max_7cf53_9 : decode cJ9_max_7cf53 9 = .ok (.iload_n 1, 1) := by decide +kernel
theorem dJ9_max_7cf53_10 : decode cJ9_max_7cf53 10 = .ok (.ireturn, 1) := by decide +kernel
theorem dJ9_min_7cf53_0 : decode cJ9_min_7cf53 0 = .ok (.iload_n 0, 1) := by decide +kernel
theorem dJ9_min_7cf53_1 : decode cJ9_min_7cf53 1 = .ok (.iload_n 1, 1) := by decide +kernel
theorem dJ9_min_7cf53_2 : decode cJ9_min_7cf53 2 = .ok (.if_icmp .gt 7, 3) := by decide +kernel
theorem dJ9_min_7cf53_5 : decode cJ9_min_7cf53 5 = .ok (.iload_n 0, 1) := by decide +kernel
theorem dJ9_min_7cf53_6 : decode cJ9_min_7cf53 6 = .ok (.goto 4, 3) := by decide +kernel
theorem dJ9_min_7cf53_9 : decode cJ9_min_7cf53 9 = .ok (.iload_n 1, 1) := by decide +kernel
theorem dJ9_min_7cf53_10 : decode cJ9_min_7cf53 10 = .ok (.ireturn, 1) := by decide +kernel
set_option maxRecDepth 20000 in
theorem ggL_law_X10_init : GoodIn wsL_law wsX10_init := goodIn_r _ [8, 9, 10, 11, 12, 13, 14, 15, 16, 17, 18, 19, 20, 21, 22, 23, 24, 25, 26, 27, 28, 29, 30, 31, 32, 33, 34, 35, 36, 37, 38, 39, 40, 41, 42, 43, 44, 45, 46, 47, 48, 49, 50, 51, 52, 53, 54, 55, 56, 57, 58, 59, 60, 61, 62, 63, 64, 65, 66, 67, 68, 69, 70, 71, 72, 73, 74, 75, 76, 77, 78, 79, 80, 81, 82, 83, 84, 85, 86, 87, 88, 89, 90, 91, 92, 93, 94, 95, 96, 97, 98, 99, 100, 101, 102, 103, 104, 105, 106, 107, 108, 109, 110, 111, 112, 113, 114, 115, 116, 117, 118, 119, 120, 121, 122, 824, 797, 798, 799, 800, 801, 802, 803, 804, 805, 825, 826, 827, 828, 829, 830, 831, 832, 833, 834, 835, 836, 837, 838, 839, 840, 841, 842, 843, 844, 845, 846, 847, 848, 849, 850, 851, 852, 853, 854, 855] (by decide +kernel) (by decide +kernel)
set_option maxRecDepth 20000 in
theorem gL_law_X10_init : GoodIn wsL_law (wsX10_init) := ggL_law_X10_init
set_option maxRecDepth 20000 in
theorem ggL_law_X11_init : GoodIn wsL_law wsX11_init := goodIn_r _ [125, 126, 10, 11, 52, 127, 128, 115, 129, 130, 131, 132, 133, 134, 135, 136, 137, 138, 139, 140, 806, 807, 808, 809, 810, 811, 812, 813, 814, 815, 816, 817, 818, 819, 820, 821, 822, 823] (by decide +kernel) (by decide +kernel)
set_option maxRecDepth 20000 in
theorem gL_law_X11_init : GoodIn wsL_law (wsX11_init) := ggL_law_X11_init
set_option maxRecDepth 20000 in
theorem ggL_law_X10_told : GoodIn wsL_law wsX10_told := goodIn_r _ [144, 15, 19, 145, 23, 27, 35, 146, 39, 147, 148, 149, 150, 151, 14, 152, 53, 153, 154, 155, 156, 157, 158, 159, 160, 161, 162, 163, 18, 164, 165, 166, 167, 168, 169, 170, 171, 172, 173, 174, 175, 176, 177, 178, 179, 180, 58, 181, 182, 183, 184, 59, 185, 186, 187, 22, 188, 189, 190, 191, 192, 26, 193, 194, 195, 196, 197, 198, 199, 200, 201, 202, 203, 204, 205, 206, 207, 208, 209, 210, 211, 212, 213, 214, 215, 216, 217, 218, 219, 220, 221, 222, 223, 224, 225, 104, 226, 74, 227, 228, 229, 230, 231, 103, 105, 232, 233, 234, 34, 235, 236, 87, 237, 88, 89, 238, 797, 798, 799, 800, 801, 802, 803, 804, 805, 825, 826, 827, 828, 829, 843, 844, 845, 846, 847, 848, 849, 824, 830, 831, 832, 833, 834, 835, 836, 837, 838] (by decide +kernel) (by decide +kernel)
set_option maxRecDepth 20000 in
theorem gL_law_X10_told : GoodIn wsL_law (wsV RL 13 RX10 yX10_told wsX10_told) := goodIn_app (goodIn_of _ (by decide +kernel)) ggL_law_X10_told
set_option maxRecDepth 20000 in
theorem ggL_law_X11_told : GoodIn wsL_law wsX11_told := goodIn_r _ [242, 127, 243, 244, 245, 246, 247, 248, 5, 249, 250, 251, 252, 253, 254, 255, 256, 257, 258, 259, 260, 261, 262, 263, 264, 265, 266, 267, 268, 269, 270, 271, 272, 273, 274, 275, 276, 133, 277, 278, 279, 280, 134, 135, 281, 282, 283, 284, 285, 286, 287, 288, 289, 290, 291, 292, 293, 294, 295, 296, 136, 137, 297, 298, 299, 300, 301, 302, 303, 304, 305, 306, 307, 308, 309, 310, 311, 312, 313, 314, 315, 316, 317, 318, 319, 320, 321, 322, 323, 324, 325, 326, 327, 328, 329, 330, 331, 332, 333, 138, 334, 335, 336, 337, 130, 131, 132, 806, 807, 808, 809, 810, 811, 812, 813, 814, 815, 816, 817, 818, 819, 820, 821, 822, 823] (by decide +kernel) (by decide +kernel)
set_option maxRecDepth 20000 in
theorem gL_law_X11_told : GoodIn wsL_law (wsV RL 17 RX11 yX11_told wsX11_told) := goodIn_app (goodIn_of _ (by decide +kernel)) ggL_law_X11_told
set_option maxRecDepth 20000 in
theorem ggL_law_X10_person : GoodIn wsL_law wsX10_person := goodIn_r _ [341, 15, 342, 19, 27, 23, 148, 343, 344, 345, 14, 346, 53, 347, 348, 349, 350, 351, 352, 178, 179, 18, 180, 58, 353, 170, 171, 172, 165, 173, 174, 175, 176, 177, 181, 182, 183, 184, 59, 354, 221, 222, 26, 223, 224, 225, 104, 226, 74, 196, 195, 158, 159, 160, 200, 201, 202, 203, 204, 227, 228, 229, 230, 231, 103, 105, 205, 355, 356, 357, 358, 359, 150, 151, 152, 360, 361, 362, 363, 22, 364, 365, 366, 367, 368, 369, 370, 371, 65, 372, 373, 374, 375, 189, 376, 377, 378, 379, 380, 381, 382, 383, 384, 66, 385, 386, 387, 388, 389, 390, 391, 392, 393, 394, 395, 797, 798, 799, 800, 801, 802, 803, 804, 805, 824, 825, 826, 827, 828, 829, 838, 830, 831, 832, 833, 834, 835, 836, 837] (by decide +kernel) (by decide +kernel)
set_option maxRecDepth 20000 in
theorem gL_law_X10_person : GoodIn wsL_law (wsV RL 18 RX10 yX10_person wsX10_person) := goodIn_app (goodIn_of _ (by decide +kernel)) ggL_law_X10_person
set_option maxRecDepth 20000 in
theorem ggL_law_X11_person : GoodIn wsL_law wsX11_person := goodIn_r _ [399, 400, 127, 133, 401, 402, 245, 258, 259, 260, 5, 261, 262, 263, 264, 269, 270, 271, 272, 273, 274, 275, 276, 250, 251, 252, 253, 254, 255, 256, 257, 277, 278, 279, 280, 134, 135, 281, 282, 283, 284, 285, 286, 287, 288, 289, 290, 291, 292, 330, 331, 332, 333, 138, 403, 404, 405, 406, 407, 408, 409, 410, 136, 137, 293, 294, 295, 296, 297, 298, 299, 300, 301, 302, 303, 304, 305, 306, 307, 308, 309, 806, 807, 808, 809, 810, 811, 812, 813, 814, 815, 816, 817, 818, 819, 820, 821, 822, 823] (by decide +kernel) (by decide +kernel)
set_option maxRecDepth 20000 in
theorem gL_law_X11_person : GoodIn wsL_law (wsV RL 22 RX11 yX11_person wsX11_person) := goodIn_app (goodIn_of _ (by decide +kernel)) ggL_law_X11_person
set_option maxRecDepth 20000 in
theorem ggL_law_X10_quarter : GoodIn wsL_law wsX10_quarter := goodIn_r _ [414, 15, 342, 19, 148, 343, 344, 345, 14, 346, 53, 415, 182, 183, 18, 184, 59, 177, 178, 179, 180, 58, 416, 417, 418, 419, 60, 797, 798, 799, 800, 801, 802, 803, 804, 805, 824, 825, 826, 827, 828, 829] (by decide +kernel) (by decide +kernel)
set_option maxRecDepth 20000 in
theorem gL_law_X10_quarter : GoodIn wsL_law (wsV RL 23 RX10 yX10_quarter wsX10_quarter) := goodIn_app (goodIn_of _ (by decide +kernel)) ggL_law_X10_quarter
set_option maxRecDepth 20000 in
theorem ggL_law_X11_quarter : GoodIn wsL_law wsX11_quarter := goodIn_r _ [423, 400, 245, 133, 134, 135, 258, 259, 260, 5, 261, 127, 262, 263, 264, 269, 270, 271, 272, 273, 274, 275, 276, 250, 251, 252, 253, 254, 255, 256, 257, 277, 278, 279, 280, 281, 282, 283, 284, 806, 807, 808, 809, 810, 811, 812, 813, 814, 815, 816, 817, 818, 819, 820, 821, 822, 823] (by decide +kernel) (by decide +kernel)
set_option maxRecDepth 20000 in
theorem gL_law_X11_quarter : GoodIn wsL_law (wsV RL 27 RX11 yX11_quarter wsX11_quarter) := goodIn_app (goodIn_of _ (by decide +kernel)) ggL_law_X11_quarter
set_option maxRecDepth 20000 in
theorem ggL_law_X10_kin : GoodIn wsL_law wsX10_kin := goodIn_r _ [427, 15, 342, 148, 31, 428, 429, 343, 344, 345, 14, 346, 53, 430, 431, 432, 30, 433, 79, 80, 81, 82, 434, 435, 436, 437, 225, 104, 226, 438, 348, 349, 350, 351, 439, 440, 441, 442, 150, 151, 152, 797, 798, 799, 800, 801, 802, 803, 804, 805, 839, 840, 841, 842, 824] (by decide +kernel) (by decide +kernel)
set_option maxRecDepth 20000 in
theorem gL_law_X10_kin : GoodIn wsL_law (wsV RL 28 RX10 yX10_kin wsX10_kin) := goodIn_app (goodIn_of _ (by decide +kernel)) ggL_law_X10_kin
set_option maxRecDepth 20000 in
theorem ggL_law_X11_kin : GoodIn wsL_law wsX11_kin := goodIn_r _ [446, 400, 245, 139, 140, 127, 258, 259, 260, 5, 261, 262, 263, 264, 447, 448, 449, 450, 806, 807, 808, 809, 810, 811, 812, 813, 814, 815, 816, 817, 818, 819, 820, 821, 822, 823] (by decide +kernel) (by decide +kernel)
set_option maxRecDepth 20000 in
theorem gL_law_X11_kin : GoodIn wsL_law (wsV RL 31 RX11 yX11_kin wsX11_kin) := goodIn_app (goodIn_of _ (by decide +kernel)) ggL_law_X11_kin
set_option maxRecDepth 20000 in
theorem ggL_law_X10_would : GoodIn wsL_law wsX10_would := goodIn_r _ [454, 15, 342, 455, 19, 343, 344, 345, 14, 346, 53, 456, 457, 458, 459, 360, 348, 349, 350, 351, 460, 461, 462, 463, 464, 465, 466, 18, 467, 468, 469, 470, 471, 472, 58, 473, 154, 155, 156, 166, 167, 168, 474, 475, 476, 477, 478, 59, 60, 181, 182, 183, 184, 177, 178, 179, 180, 479, 417, 418, 419, 480, 481, 482, 483, 797, 798, 799, 800, 801, 802, 803, 804, 805, 824, 825, 826, 827, 828, 829] (by decide +kernel) (by decide +kernel)
set_option maxRecDepth 20000 in
theorem gL_law_X10_would : GoodIn wsL_law (wsV RL 32 RX10 yX10_would wsX10_would) := goodIn_app (goodIn_of _ (by decide +kernel)) ggL_law_X10_would
set_option maxRecDepth 20000 in
theorem ggL_law_X11_would : GoodIn wsL_law wsX11_would := goodIn_r _ [487, 400, 488, 127, 133, 258, 259, 260, 5, 261, 262, 263, 264, 489, 490, 491, 492, 254, 255, 256, 257, 269, 270, 271, 272, 273, 274, 275, 276, 250, 251, 252, 253, 277, 278, 279, 280, 134, 135, 281, 282, 283, 284, 806, 807, 808, 809, 810, 811, 812, 813, 814, 815, 816, 817, 818, 819, 820, 821, 822, 823] (by decide +kernel) (by decide +kernel)
set_option maxRecDepth 20000 in
theorem gL_law_X11_would : GoodIn wsL_law (wsV RL 35 RX11 yX11_would wsX11_would) := goodIn_app (goodIn_of _ (by decide +kernel)) ggL_law_X11_would
set_option maxRecDepth 20000 in
theorem ggL_law_X10_dated : GoodIn wsL_law wsX10_dated := goodIn_r _ [496, 148, 23, 15, 497, 498, 2, 499, 149, 150, 151, 14, 152, 53, 500, 501, 502, 22, 503, 189, 504, 386, 387, 388, 389, 390, 391, 368, 369, 370, 371, 65, 372, 373, 374, 375, 376, 505, 393, 394, 395, 381, 382, 383, 384, 66, 797, 798, 799, 800, 801, 802, 803, 804, 805, 824, 830, 831, 832, 833, 834, 835, 836, 837] (by decide +kernel) (by decide +kernel)
set_option maxRecDepth 20000 in
theorem gL_law_X10_dated : GoodIn wsL_law (wsV RL 36 RX10 yX10_dated wsX10_dated) := goodIn_app (goodIn_of _ (by decide +kernel)) ggL_law_X10_dated
set_option maxRecDepth 20000 in
theorem ggL_law_X11_dated : GoodIn wsL_law wsX11_dated := goodIn_r _ [509, 510, 245, 127, 136, 137, 262, 263, 5, 264, 293, 294, 295, 296, 297, 298, 299, 300, 301, 302, 303, 304, 305, 306, 307, 308, 309, 806, 807, 808, 809, 810, 811, 812, 813, 814, 815, 816, 817, 818, 819, 820, 821, 822, 823] (by decide +kernel) (by decide +kernel)
set_option maxRecDepth 20000 in
theorem gL_law_X11_dated : GoodIn wsL_law (wsV RL 39 RX11 yX11_dated wsX11_dated) := goodIn_app (goodIn_of _ (by decide +kernel)) ggL_law_X11_dated
set_option maxRecDepth 20000 in
theorem ggL_law_X10_signAt : GoodIn wsL_law wsX10_signAt := goodIn_r _ [514, 15, 515, 201, 202, 14, 203, 53, 204, 158, 159, 160, 797, 798, 799, 800, 801, 802, 803, 804, 805, 824] (by decide +kernel) (by decide +kernel)
set_option maxRecDepth 20000 in
theorem gL_law_X10_signAt : GoodIn wsL_law (wsV RL 40 RX10 yX10_signAt wsX10_signAt) := goodIn_app (goodIn_of _ (by decide +kernel)) ggL_law_X10_signAt
set_option maxRecDepth 20000 in
theorem ggL_law_X11_signAt : GoodIn wsL_law wsX11_signAt := goodIn_r _ [519, 127, 262, 263, 5, 264, 806, 807, 808, 809, 810, 811, 812, 813, 814, 815, 816, 817, 818, 819, 820, 821, 822, 823] (by decide +kernel) (by decide +kernel)
set_option maxRecDepth 20000 in
theorem gL_law_X11_signAt : GoodIn wsL_law (wsV RL 43 RX11 yX11_signAt wsX11_signAt) := goodIn_app (goodIn_of _ (by decide +kernel)) ggL_law_X11_signAt
set_option maxRecDepth 20000 in
theorem ggL_law_X10_put : GoodIn wsL_law wsX10_put := goodIn_r _ [523, 15, 342, 148, 455, 524, 39, 525, 526, 527, 14, 528, 351, 344, 345, 346, 53, 529, 530, 2, 531, 456, 457, 458, 459, 360, 348, 349, 350, 460, 461, 462, 463, 532, 533, 534, 535, 359, 150, 151, 152, 536, 537, 538, 38, 539, 97, 540, 541, 542, 225, 104, 226, 543, 544, 545, 96, 546, 106, 547, 107, 548, 549, 550, 551, 552, 553, 554, 555, 556, 557, 558, 559, 560, 19, 23, 561, 562, 563, 18, 564, 165, 472, 565, 566, 567, 568, 474, 569, 570, 166, 167, 168, 468, 469, 470, 471, 58, 473, 154, 155, 156, 475, 476, 477, 478, 59, 60, 181, 182, 183, 184, 177, 178, 179, 180, 479, 417, 418, 419, 480, 481, 482, 483, 571, 572, 573, 22, 574, 376, 189, 575, 576, 577, 578, 579, 65, 66, 365, 366, 367, 580, 389, 390, 391, 581, 582, 583, 584, 585, 586, 587, 588, 589, 69, 67, 68, 590, 591, 592, 593, 594, 595, 596, 597, 598, 599, 600, 601, 149, 797, 798, 799, 800, 801, 802, 803, 804, 805, 824, 847, 848, 849, 854, 855, 825, 826, 827, 828, 829, 830, 831, 832, 833, 834, 835, 836, 837] (by decide +kernel) (by decide +kernel)
set_option maxRecDepth 20000 in
theorem gL_law_X10_put : GoodIn wsL_law (wsV RL 44 RX10 yX10_put wsX10_put) := goodIn_app (goodIn_of _ (by decide +kernel)) ggL_law_X10_put
set_option maxRecDepth 20000 in
theorem ggL_law_X11_put : GoodIn wsL_law wsX11_put := goodIn_r _ [605, 400, 606, 245, 488, 127, 607, 258, 259, 260, 5, 261, 262, 263, 264, 489, 490, 491, 492, 254, 255, 256, 257, 608, 609, 610, 611, 244, 612, 613, 614, 615, 616, 617, 618, 619, 806, 807, 808, 809, 810, 811, 812, 813, 814, 815, 816, 817, 818, 819, 820, 821, 822, 823] (by decide +kernel) (by decide +kernel)
set_option maxRecDepth 20000 in
theorem gL_law_X11_put : GoodIn wsL_law (wsV RL 48 RX11 yX11_put wsX11_put) := goodIn_app (goodIn_of _ (by decide +kernel)) ggL_law_X11_put
set_option maxRecDepth 20000 in
theorem ggL_law_X10_born : GoodIn wsL_law wsX10_born := goodIn_r _ [623, 624, 625, 626, 2, 627, 15, 342, 148, 39, 23, 343, 344, 345, 14, 346, 53, 497, 498, 499, 536, 537, 538, 38, 539, 97, 540, 541, 542, 225, 104, 226, 543, 544, 545, 96, 546, 106, 547, 107, 548, 549, 550, 551, 628, 629, 630, 631, 351, 571, 572, 573, 22, 574, 376, 189, 575, 150, 151, 152, 576, 577, 578, 579, 65, 66, 365, 366, 367, 580, 348, 349, 350, 389, 390, 391, 581, 582, 583, 584, 585, 586, 587, 588, 589, 69, 67, 68, 590, 591, 592, 593, 594, 595, 596, 597, 598, 599, 600, 601, 185, 186, 187, 188, 797, 798, 799, 800, 801, 802, 803, 804, 805, 824, 847, 848, 849, 854, 855, 830, 831, 832, 833, 834, 835, 836, 837] (by decide +kernel) (by decide +kernel)
set_option maxRecDepth 20000 in
theorem gL_law_X10_born : GoodIn wsL_law (wsV RL 49 RX10 yX10_born wsX10_born) := goodIn_app (goodIn_of _ (by decide +kernel)) ggL_law_X10_born
set_option maxRecDepth 20000 in
theorem ggL_law_X11_born : GoodIn wsL_law wsX11_born := goodIn_r _ [635, 636, 637, 638, 5, 639, 400, 510, 245, 127, 258, 259, 260, 261, 262, 263, 264, 608, 609, 610, 611, 244, 612, 613, 614, 615, 293, 294, 295, 296, 136, 137, 297, 298, 299, 300, 301, 302, 303, 304, 305, 306, 307, 308, 309, 806, 807, 808, 809, 810, 811, 812, 813, 814, 815, 816, 817, 818, 819, 820, 821, 822, 823] (by decide +kernel) (by decide +kernel)
set_option maxRecDepth 20000 in
theorem gL_law_X11_born : GoodIn wsL_law (wsV RL 52 RX11 yX11_born wsX11_born) := goodIn_app (goodIn_of _ (by decide +kernel)) ggL_law_X11_born
set_option maxRecDepth 20000 in
theorem ggL_law_X10_died : GoodIn wsL_law wsX10_died := goodIn_r _ [643, 624, 625, 626, 2, 627, 15, 342, 148, 39, 23, 343, 344, 345, 14, 346, 53, 497, 498, 499, 536, 537, 538, 38, 539, 97, 540, 541, 542, 225, 104, 226, 543, 544, 545, 96, 546, 106, 547, 107, 548, 549, 550, 551, 628, 629, 630, 631, 351, 571, 572, 573, 22, 574, 376, 189, 575, 150, 151, 152, 576, 577, 578, 579, 65, 66, 365, 366, 367, 580, 348, 349, 350, 389, 390, 391, 581, 582, 583, 584, 585, 586, 587, 588, 589, 69, 67, 68, 590, 591, 592, 593, 594, 595, 596, 597, 598, 599, 600, 601, 185, 186, 187, 188, 797, 798, 799, 800, 801, 802, 803, 804, 805, 824, 847, 848, 849, 854, 855, 830, 831, 832, 833, 834, 835, 836, 837] (by decide +kernel) (by decide +kernel)
set_option maxRecDepth 20000 in
theorem gL_law_X10_died : GoodIn wsL_law (wsV RL 53 RX10 yX10_died wsX10_died) := goodIn_app (goodIn_of _ (by decide +kernel)) ggL_law_X10_died
set_option maxRecDepth 20000 in
theorem ggL_law_X11_died : GoodIn wsL_law wsX11_died := goodIn_r _ [647, 636, 637, 638, 5, 639, 400, 510, 245, 127, 258, 259, 260, 261, 262, 263, 264, 608, 609, 610, 611, 244, 612, 613, 614, 615, 293, 294, 295, 296, 136, 137, 297, 298, 299, 300, 301, 302, 303, 304, 305, 306, 307, 308, 309, 806, 807, 808, 809, 810, 811, 812, 813, 814, 815, 816, 817, 818, 819, 820, 821, 822, 823] (by decide +kernel) (by decide +kernel)
set_option maxRecDepth 20000 in
theorem gL_law_X11_died : GoodIn wsL_law (wsV RL 56 RX11 yX11_died wsX11_died) := goodIn_app (goodIn_of _ (by decide +kernel)) ggL_law_X11_died
set_option maxRecDepth 20000 in
theorem ggL_law_X10_rule : GoodIn wsL_law wsX10_rule := goodIn_r _ [651, 148, 39, 15, 19, 536, 537, 538, 38, 539, 97, 540, 541, 542, 225, 104, 226, 543, 544, 545, 96, 546, 106, 547, 107, 548, 549, 550, 551, 652, 653, 654, 14, 655, 53, 561, 562, 563, 18, 564, 165, 472, 565, 150, 151, 152, 566, 567, 568, 474, 348, 349, 350, 351, 344, 345, 346, 569, 457, 458, 459, 360, 570, 461, 462, 463, 166, 167, 168, 468, 469, 470, 471, 58, 473, 154, 155, 156, 475, 476, 477, 478, 59, 60, 181, 182, 183, 184, 177, 178, 179, 180, 479, 417, 418, 419, 480, 481, 482, 483, 161, 162, 163, 164, 169, 170, 171, 172, 173, 174, 175, 176, 797, 798, 799, 800, 801, 802, 803, 804, 805, 847, 848, 849, 854, 855, 824, 825, 826, 827, 828, 829] (by decide +kernel) (by decide +kernel)
set_option maxRecDepth 20000 in
theorem gL_law_X10_rule : GoodIn wsL_law (wsV RL 57 RX10 yX10_rule wsX10_rule) := goodIn_app (goodIn_of _ (by decide +kernel)) ggL_law_X10_rule
set_option maxRecDepth 20000 in
theorem ggL_law_X11_rule : GoodIn wsL_law wsX11_rule := goodIn_r _ [659, 660, 245, 127, 262, 263, 5, 264, 608, 609, 610, 611, 244, 612, 613, 614, 615, 265, 266, 267, 268, 269, 270, 271, 272, 273, 274, 275, 276, 133, 250, 251, 252, 253, 254, 255, 256, 257, 258, 259, 260, 261, 277, 278, 279, 280, 134, 135, 281, 282, 283, 284, 285, 286, 287, 288, 289, 290, 291, 292, 806, 807, 808, 809, 810, 811, 812, 813, 814, 815, 816, 817, 818, 819, 820, 821, 822, 823] (by decide +kernel) (by decide +kernel)
set_option maxRecDepth 20000 in
theorem gL_law_X11_rule : GoodIn wsL_law (wsV RL 60 RX11 yX11_rule wsX11_rule) := goodIn_app (goodIn_of _ (by decide +kernel)) ggL_law_X11_rule
set_option maxRecDepth 20000 in
theorem ggL_law_X10_sign : GoodIn wsL_law wsX10_sign := goodIn_r _ [664, 148, 15, 524, 39, 157, 158, 159, 14, 160, 53, 536, 537, 538, 38, 539, 97, 540, 541, 542, 225, 104, 226, 543, 544, 545, 96, 546, 106, 547, 107, 548, 549, 550, 551, 665, 666, 667, 668, 204, 797, 798, 799, 800, 801, 802, 803, 804, 805, 824, 847, 848, 849, 854, 855] (by decide +kernel) (by decide +kernel)
set_option maxRecDepth 20000 in
theorem gL_law_X10_sign : GoodIn wsL_law (wsV RL 61 RX10 yX10_sign wsX10_sign) := goodIn_app (goodIn_of _ (by decide +kernel)) ggL_law_X10_sign
set_option maxRecDepth 20000 in
theorem ggL_law_X11_sign : GoodIn wsL_law wsX11_sign := goodIn_r _ [672, 673, 245, 127, 607, 262, 263, 5, 264, 608, 609, 610, 611, 244, 612, 613, 614, 615, 806, 807, 808, 809, 810, 811, 812, 813, 814, 815, 816, 817, 818, 819, 820, 821, 822, 823] (by decide +kernel) (by decide +kernel)
set_option maxRecDepth 20000 in
theorem gL_law_X11_sign : GoodIn wsL_law (wsV RL 64 RX11 yX11_sign wsX11_sign) := goodIn_app (goodIn_of _ (by decide +kernel)) ggL_law_X11_sign
set_option maxRecDepth 20000 in
theorem ggL_law_X10_wipe : GoodIn wsL_law wsX10_wipe := goodIn_r _ [677, 15, 39, 157, 158, 159, 14, 160, 53, 536, 537, 538, 38, 539, 97, 540, 541, 542, 225, 104, 226, 543, 544, 545, 96, 546, 106, 547, 107, 548, 549, 550, 551, 678, 679, 680, 681, 797, 798, 799, 800, 801, 802, 803, 804, 805, 824, 847, 848, 849, 854, 855] (by decide +kernel) (by decide +kernel)
set_option maxRecDepth 20000 in
theorem gL_law_X10_wipe : GoodIn wsL_law (wsV RL 65 RX10 yX10_wipe wsX10_wipe) := goodIn_app (goodIn_of _ (by decide +kernel)) ggL_law_X10_wipe
set_option maxRecDepth 20000 in
theorem ggL_law_X11_wipe : GoodIn wsL_law wsX11_wipe := goodIn_r _ [685, 127, 608, 609, 610, 5, 611, 244, 612, 613, 614, 615, 806, 807, 808, 809, 810, 811, 812, 813, 814, 815, 816, 817, 818, 819, 820, 821, 822, 823] (by decide +kernel) (by decide +kernel)
set_option maxRecDepth 20000 in
theorem gL_law_X11_wipe : GoodIn wsL_law (wsV RL 69 RX11 yX11_wipe wsX11_wipe) := goodIn_app (goodIn_of _ (by decide +kernel)) ggL_law_X11_wipe
set_option maxRecDepth 20000 in
theorem ggL_law_X10_drift : GoodIn wsL_law wsX10_drift := goodIn_r _ [689, 148, 15, 39, 47, 532, 533, 534, 14, 535, 359, 150, 151, 152, 53, 536, 537, 538, 38, 539, 97, 540, 541, 542, 225, 104, 226, 543, 544, 545, 96, 546, 106, 547, 107, 548, 549, 550, 551, 690, 691, 692, 46, 693, 694, 695, 696, 697, 122, 698, 699, 700, 701, 702, 457, 458, 459, 360, 348, 349, 350, 351, 344, 345, 346, 703, 461, 462, 463, 704, 553, 554, 555, 556, 557, 558, 559, 2, 560, 19, 23, 561, 562, 563, 18, 564, 165, 472, 565, 566, 567, 568, 474, 569, 570, 166, 167, 168, 468, 469, 470, 471, 58, 473, 154, 155, 156, 475, 476, 477, 478, 59, 60, 181, 182, 183, 184, 177, 178, 179, 180, 479, 417, 418, 419, 480, 481, 482, 483, 571, 572, 573, 22, 574, 376, 189, 575, 576, 577, 578, 579, 65, 66, 365, 366, 367, 580, 389, 390, 391, 581, 582, 583, 584, 585, 586, 587, 588, 589, 69, 67, 68, 590, 591, 592, 593, 594, 595, 596, 597, 598, 599, 600, 601, 149, 797, 798, 799, 800, 801, 802, 803, 804, 805, 824, 847, 848, 849, 854, 855, 853, 825, 826, 827, 828, 829, 830, 831, 832, 833, 834, 835, 836, 837] (by decide +kernel) (by decide +kernel)
set_option maxRecDepth 20000 in
theorem gL_law_X10_drift : GoodIn wsL_law (wsV RL 70 RX10 yX10_drift wsX10_drift) := goodIn_app (goodIn_of _ (by decide +kernel)) ggL_law_X10_drift
set_option maxRecDepth 20000 in
theorem ggL_law_X11_drift : GoodIn wsL_law wsX11_drift := goodIn_r _ [708, 709, 245, 127, 262, 263, 5, 264, 608, 609, 610, 611, 244, 612, 613, 614, 615, 710, 711, 712, 713, 714, 715, 716, 717, 718, 489, 490, 491, 492, 258, 259, 260, 261, 254, 255, 256, 257, 616, 617, 618, 619, 806, 807, 808, 809, 810, 811, 812, 813, 814, 815, 816, 817, 818, 819, 820, 821, 822, 823] (by decide +kernel) (by decide +kernel)
set_option maxRecDepth 20000 in
theorem gL_law_X11_drift : GoodIn wsL_law (wsV RL 73 RX11 yX11_drift wsX11_drift) := goodIn_app (goodIn_of _ (by decide +kernel)) ggL_law_X11_drift
set_option maxRecDepth 20000 in
theorem ggL_law_X10_undo : GoodIn wsL_law wsX10_undo := goodIn_r _ [722, 148, 39, 147, 455, 15, 723, 724, 725, 38, 726, 541, 540, 97, 727, 728, 729, 96, 730, 106, 107, 547, 548, 549, 550, 551, 557, 558, 559, 2, 560, 19, 23, 561, 562, 563, 18, 564, 165, 472, 565, 150, 151, 14, 152, 53, 566, 567, 568, 474, 348, 349, 350, 351, 344, 345, 346, 569, 457, 458, 459, 360, 570, 461, 462, 463, 166, 167, 168, 468, 469, 470, 471, 58, 473, 154, 155, 156, 475, 476, 477, 478, 59, 60, 181, 182, 183, 184, 177, 178, 179, 180, 479, 417, 418, 419, 480, 481, 482, 483, 571, 572, 573, 22, 574, 376, 189, 575, 576, 577, 578, 579, 65, 66, 365, 366, 367, 580, 389, 390, 391, 581, 582, 583, 584, 585, 586, 587, 588, 589, 69, 67, 68, 590, 591, 592, 593, 594, 595, 596, 597, 598, 599, 600, 601, 149, 797, 798, 799, 800, 801, 802, 803, 804, 805, 847, 848, 849, 854, 855, 824, 825, 826, 827, 828, 829, 830, 831, 832, 833, 834, 835, 836, 837] (by decide +kernel) (by decide +kernel)
set_option maxRecDepth 20000 in
theorem gL_law_X10_undo : GoodIn wsL_law (wsV RL 74 RX10 yX10_undo wsX10_undo) := goodIn_app (goodIn_of _ (by decide +kernel)) ggL_law_X10_undo
set_option maxRecDepth 20000 in
theorem ggL_law_X11_undo : GoodIn wsL_law wsX11_undo := goodIn_r _ [734, 735, 245, 244, 488, 127, 262, 263, 5, 264, 612, 613, 614, 615, 806, 807, 808, 809, 810, 811, 812, 813, 814, 815, 816, 817, 818, 819, 820, 821, 822, 823] (by decide +kernel) (by decide +kernel)
set_option maxRecDepth 20000 in
theorem gL_law_X11_undo : GoodIn wsL_law (wsV RL 77 RX11 yX11_undo wsX11_undo) := goodIn_app (goodIn_of _ (by decide +kernel)) ggL_law_X11_undo
set_option maxRecDepth 20000 in
theorem ggL_law_X10_write : GoodIn wsL_law wsX10_write := goodIn_r _ [739, 15, 342, 148, 35, 146, 524, 343, 344, 345, 14, 346, 53, 529, 530, 2, 531, 740, 741, 742, 34, 743, 236, 87, 88, 89, 797, 798, 799, 800, 801, 802, 803, 804, 805, 843, 844, 845, 846, 824] (by decide +kernel) (by decide +kernel)
set_option maxRecDepth 20000 in
theorem gL_law_X10_write : GoodIn wsL_law (wsV RL 78 RX10 yX10_write wsX10_write) := goodIn_app (goodIn_of _ (by decide +kernel)) ggL_law_X10_write
set_option maxRecDepth 20000 in
theorem ggL_law_X11_write : GoodIn wsL_law wsX11_write := goodIn_r _ [747, 400, 606, 245, 243, 607, 130, 131, 132, 258, 259, 260, 5, 261, 127, 262, 263, 264, 806, 807, 808, 809, 810, 811, 812, 813, 814, 815, 816, 817, 818, 819, 820, 821, 822, 823] (by decide +kernel) (by decide +kernel)
set_option maxRecDepth 20000 in
theorem gL_law_X11_write : GoodIn wsL_law (wsV RL 81 RX11 yX11_write wsX11_write) := goodIn_app (goodIn_of _ (by decide +kernel)) ggL_law_X11_write
set_option maxRecDepth 20000 in
theorem ggL_law_X10_tear : GoodIn wsL_law wsX10_tear := goodIn_r _ [751, 35, 146, 797, 798, 799, 800, 801, 802, 803, 804, 805, 843, 844, 845, 846] (by decide +kernel) (by decide +kernel)
set_option maxRecDepth 20000 in
theorem gL_law_X10_tear : GoodIn wsL_law (wsV RL 82 RX10 yX10_tear wsX10_tear) := goodIn_app (goodIn_of _ (by decide +kernel)) ggL_law_X10_tear
set_option maxRecDepth 20000 in
theorem ggL_law_X11_tear : GoodIn wsL_law wsX11_tear := goodIn_r _ [755, 243, 806, 807, 808, 809, 810, 811, 812, 813, 814, 815, 816, 817, 818, 819, 820, 821, 822, 823] (by decide +kernel) (by decide +kernel)
set_option maxRecDepth 20000 in
theorem gL_law_X11_tear : GoodIn wsL_law (wsV RL 85 RX11 yX11_tear wsX11_tear) := goodIn_app (goodIn_of _ (by decide +kernel)) ggL_law_X11_tear
set_option maxRecDepth 20000 in
theorem ggL_law_X10_seed : GoodIn wsL_law wsX10_seed := goodIn_r _ [759, 148, 47, 760, 797, 798, 799, 800, 801, 802, 803, 804, 805, 853] (by decide +kernel) (by decide +kernel)
set_option maxRecDepth 20000 in
theorem gL_law_X10_seed : GoodIn wsL_law (wsV RL 86 RX10 yX10_seed wsX10_seed) := goodIn_app (goodIn_of _ (by decide +kernel)) ggL_law_X10_seed
set_option maxRecDepth 20000 in
theorem ggL_law_X11_seed : GoodIn wsL_law wsX11_seed := goodIn_r _ [764, 245, 714, 806, 807, 808, 809, 810, 811, 812, 813, 814, 815, 816, 817, 818, 819, 820, 821, 822, 823] (by decide +kernel) (by decide +kernel)
set_option maxRecDepth 20000 in
theorem gL_law_X11_seed : GoodIn wsL_law (wsV RL 89 RX11 yX11_seed wsX11_seed) := goodIn_app (goodIn_of _ (by decide +kernel)) ggL_law_X11_seed
set_option maxRecDepth 20000 in
theorem ggL_law_X10_keep : GoodIn wsL_law wsX10_keep := goodIn_r _ [768, 342, 43, 15, 47, 39, 147, 769, 770, 771, 42, 772, 113, 114, 773, 116, 774, 544, 545, 96, 546, 106, 547, 107, 548, 549, 550, 551, 797, 798, 799, 800, 801, 802, 803, 804, 805, 847, 848, 849, 850, 851, 852, 853, 854, 855, 824] (by decide +kernel) (by decide +kernel)
set_option maxRecDepth 20000 in
theorem gL_law_X10_keep : GoodIn wsL_law (wsV RL 90 RX10 yX10_keep wsX10_keep) := goodIn_app (goodIn_of _ (by decide +kernel)) ggL_law_X10_keep
set_option maxRecDepth 20000 in
theorem ggL_law_X11_keep : GoodIn wsL_law wsX11_keep := goodIn_r _ [778, 400, 128, 714, 129, 244, 262, 263, 5, 264, 612, 613, 614, 615, 127, 806, 807, 808, 809, 810, 811, 812, 813, 814, 815, 816, 817, 818, 819, 820, 821, 822, 823] (by decide +kernel) (by decide +kernel)
set_option maxRecDepth 20000 in
theorem gL_law_X11_keep : GoodIn wsL_law (wsV RL 93 RX11 yX11_keep wsX11_keep) := goodIn_app (goodIn_of _ (by decide +kernel)) ggL_law_X11_keep
set_option maxRecDepth 20000 in
theorem ggL_law_X10_goBack : GoodIn wsL_law wsX10_goBack := goodIn_r _ [782, 342, 43, 455, 15, 47, 39, 147, 783, 784, 785, 42, 786, 116, 787, 788, 789, 790, 113, 114, 773, 791, 792, 728, 729, 96, 730, 106, 107, 547, 548, 549, 550, 551, 557, 558, 559, 2, 560, 19, 23, 561, 562, 563, 18, 564, 165, 472, 565, 150, 151, 14, 152, 53, 566, 567, 568, 474, 348, 349, 350, 351, 344, 345, 346, 569, 457, 458, 459, 360, 570, 461, 462, 463, 166, 167, 168, 468, 469, 470, 471, 58, 473, 154, 155, 156, 475, 476, 477, 478, 59, 60, 181, 182, 183, 184, 177, 178, 179, 180, 479, 417, 418, 419, 480, 481, 482, 483, 571, 572, 573, 22, 574, 376, 189, 575, 576, 577, 578, 579, 65, 66, 365, 366, 367, 580, 389, 390, 391, 581, 582, 583, 584, 585, 586, 587, 588, 589, 69, 67, 68, 590, 591, 592, 593, 594, 595, 596, 597, 598, 599, 600, 601, 797, 798, 799, 800, 801, 802, 803, 804, 805, 847, 848, 849, 850, 851, 852, 853, 854, 855, 824, 825, 826, 827, 828, 829, 830, 831, 832, 833, 834, 835, 836, 837] (by decide +kernel) (by decide +kernel)
set_option maxRecDepth 20000 in
theorem gL_law_X10_goBack : GoodIn wsL_law (wsV RL 94 RX10 yX10_goBack wsX10_goBack) := goodIn_app (goodIn_of _ (by decide +kernel)) ggL_law_X10_goBack
set_option maxRecDepth 20000 in
theorem ggL_law_X11_goBack : GoodIn wsL_law wsX11_goBack := goodIn_r _ [796, 400, 129, 488, 128, 714, 244, 262, 263, 5, 264, 612, 613, 614, 615, 127, 806, 807, 808, 809, 810, 811, 812, 813, 814, 815, 816, 817, 818, 819, 820, 821, 822, 823] (by decide +kernel) (by decide +kernel)
set_option maxRecDepth 20000 in
theorem gL_law_X11_goBack : GoodIn wsL_law (wsV RL 97 RX11 yX11_goBack wsX11_goBack) := goodIn_app (goodIn_of _ (by decide +kernel)) ggL_law_X11_goBack
