theorem dX11_narrows_0 : decode cX11_narrows 0 = .ok (.iconst 0, 1) := by decide +kernel
theorem dX11_narrows_1 : decode cX11_narrows 1 = .ok (.istore_n 1, 1) := by decide +kernel
theorem dX11_narrows_2 : decode cX11_narrows 2 = .ok (.iload_n 1, 1) := by decide +kernel
theorem dX11_narrows_3 : decode cX11_narrows 3 = .ok (.aload_n 0, 1) := by decide +kernel
theorem dX11_narrows_4 : decode cX11_narrows 4 = .ok (.getfield 7, 3) := by decide +kernel
theorem dX11_narrows_7 : decode cX11_narrows 7 = .ok (.iconst 0, 1) := by decide +kernel
theorem dX11_narrows_8 : decode cX11_narrows 8 = .ok (.iaload, 1) := by decide +kernel
theorem dX11_narrows_9 : decode cX11_narrows 9 = .ok (.if_icmp .ge 87, 3) := by decide +kernel
theorem dX11_narrows_12 : decode cX11_narrows 12 = .ok (.aload_n 0, 1) := by decide +kernel
theorem dX11_narrows_13 : decode cX11_narrows 13 = .ok (.getfield 38, 3) := by decide +kernel
theorem dX11_narrows_16 : decode cX11_narrows 16 = .ok (.iload_n 1, 1) := by decide +kernel
theorem dX11_narrows_17 : decode cX11_narrows 17 = .ok (.aload_n 0, 1) := by decide +kernel
theorem dX11_narrows_18 : decode cX11_narrows 18 = .ok (.getfield 7, 3) := by decide +kernel
theorem dX11_narrows_21 : decode cX11_narrows 21 = .ok (.bipush 77, 2) := by decide +kernel
theorem dX11_narrows_23 : decode cX11_narrows 23 = .ok (.iconst 2, 1) := by decide +kernel
theorem dX11_narrows_24 : decode cX11_narrows 24 = .ok (.iload_n 1, 1) := by decide +kernel
theorem dX11_narrows_25 : decode cX11_narrows 25 = .ok (.imul, 1) := by decide +kernel
theorem dX11_narrows_26 : decode cX11_narrows 26 = .ok (.iadd, 1) := by decide +kernel
theorem dX11_narrows_27 : decode cX11_narrows 27 = .ok (.iaload, 1) := by decide +kernel
theorem dX11_narrows_28 : decode cX11_narrows 28 = .ok (.iastore, 1) := by decide +kernel
theorem dX11_narrows_29 : decode cX11_narrows 29 = .ok (.aload_n 0, 1) := by decide +kernel
theorem dX11_narrows_30 : decode cX11_narrows 30 = .ok (.getfield 41, 3) := by decide +kernel
theorem dX11_narrows_33 : decode cX11_narrows 33 = .ok (.iload_n 1, 1) := by decide +kernel
theorem dX11_narrows_34 : decode cX11_narrows 34 = .ok (.aload_n 0, 1) := by decide +kernel
theorem dX11_narrows_35 : decode cX11_narrows 35 = .ok (.getfield 7, 3) := by decide +kernel
theorem dX11_narrows_38 : decode cX11_narrows 38 = .ok (.bipush 77, 2) := by decide +kernel
theorem dX11_narrows_40 : decode cX11_narrows 40 = .ok (.iconst 2, 1) := by decide +kernel
theorem dX11_narrows_41 : decode cX11_narrows 41 = .ok (.iload_n 1, 1) := by decide +kernel
theorem dX11_narrows_42 : decode cX11_narrows 42 = .ok (.imul, 1) := by decide +kernel
theorem dX11_narrows_43 : decode cX11_narrows 43 = .ok (.iadd, 1) := by decide +kernel
theorem dX11_narrows_44 : decode cX11_narrows 44 = .ok (.iconst 1, 1) := by decide +kernel
theorem dX11_narrows_45 : decode cX11_narrows 45 = .ok (.iadd, 1) := by decide +kernel
theorem dX11_narrows_46 : decode cX11_narrows 46 = .ok (.iaload, 1) := by decide +kernel
theorem dX11_narrows_47 : decode cX11_narrows 47 = .ok (.iastore, 1) := by decide +kernel
theorem dX11_narrows_48 : decode cX11_narrows 48 = .ok (.aload_n 0, 1) := by decide +kernel
theorem dX11_narrows_49 : decode cX11_narrows 49 = .ok (.getfield 38, 3) := by decide +kernel
theorem dX11_narrows_52 : decode cX11_narrows 52 = .ok (.bipush 16, 2) := by decide +kernel
theorem dX11_narrows_54 : decode cX11_narrows 54 = .ok (.iload_n 1, 1) := by decide +kernel
theorem dX11_narrows_55 : decode cX11_narrows 55 = .ok (.iadd, 1) := by decide +kernel
theorem dX11_narrows_56 : decode cX11_narrows 56 = .ok (.aload_n 0, 1) := by decide +kernel
theorem dX11_narrows_57 : decode cX11_narrows 57 = .ok (.getfield 7, 3) := by decide +kernel
theorem dX11_narrows_60 : decode cX11_narrows 60 = .ok (.bipush 109, 2) := by decide +kernel
theorem dX11_narrows_62 : decode cX11_narrows 62 = .ok (.iconst 2, 1) := by decide +kernel
theorem dX11_narrows_63 : decode cX11_narrows 63 = .ok (.iload_n 1, 1) := by decide +kernel
theorem dX11_narrows_64 : decode cX11_narrows 64 = .ok (.imul, 1) := by decide +kernel
theorem dX11_narrows_65 : decode cX11_narrows 65 = .ok (.iadd, 1) := by decide +kernel
theorem dX11_narrows_66 : decode cX11_narrows 66 = .ok (.iaload, 1) := by decide +kernel
theorem dX11_narrows_67 : decode cX11_narrows 67 = .ok (.iastore, 1) := by decide +kernel
theorem dX11_narrows_68 : decode cX11_narrows 68 = .ok (.aload_n 0, 1) := by decide +kernel
theorem dX11_narrows_69 : decode cX11_narrows 69 = .ok (.getfield 41, 3) := by decide +kernel
theorem dX11_narrows_72 : decode cX11_narrows 72 = .ok (.bipush 16, 2) := by decide +kernel
theorem dX11_narrows_74 : decode cX11_narrows 74 = .ok (.iload_n 1, 1) := by decide +kernel
theorem dX11_narrows_75 : decode cX11_narrows 75 = .ok (.iadd, 1) := by decide +kernel
theorem dX11_narrows_76 : decode cX11_narrows 76 = .ok (.aload_n 0, 1) := by decide +kernel
theorem dX11_narrows_77 : decode cX11_narrows 77 = .ok (.getfield 7, 3) := by decide +kernel
theorem dX11_narrows_80 : decode cX11_narrows 80 = .ok (.bipush 109, 2) := by decide +kernel
theorem dX11_narrows_82 : decode cX11_narrows 82 = .ok (.iconst 2, 1) := by decide +kernel
theorem dX11_narrows_83 : decode cX11_narrows 83 = .ok (.iload_n 1, 1) := by decide +kernel
theorem dX11_narrows_84 : decode cX11_narrows 84 = .ok (.imul, 1) := by decide +kernel
theorem dX11_narrows_85 : decode cX11_narrows 85 = .ok (.iadd, 1) := by decide +kernel
theorem dX11_narrows_86 : decode cX11_narrows 86 = .ok (.iconst 1, 1) := by decide +kernel
theorem dX11_narrows_87 : decode cX11_narrows 87 = .ok (.iadd, 1) := by decide +kernel
theorem dX11_narrows_88 : decode cX11_narrows 88 = .ok (.iaload, 1) := by decide +kernel
theorem dX11_narrows_89 : decode cX11_narrows 89 = .ok (.iastore, 1) := by decide +kernel
theorem dX11_narrows_90 : decode cX11_narrows 90 = .ok (.iinc 1 1, 3) := by decide +kernel
theorem dX11_narrows_93 : decode cX11_narrows 93 = .ok (.goto (-91), 3) := by decide +kernel
theorem dX11_narrows_96 : decode cX11_narrows 96 = .ok (.aload_n 0, 1) := by decide +kernel
theorem dX11_narrows_97 : decode cX11_narrows 97 = .ok (.iconst 1, 1) := by decide +kernel
theorem dX11_narrows_98 : decode cX11_narrows 98 = .ok (.putfield 97, 3) := by decide +kernel
theorem dX11_narrows_101 : decode cX11_narrows 101 = .ok (.aload_n 0, 1) := by decide +kernel
theorem dX11_narrows_102 : decode cX11_narrows 102 = .ok (.getfield 97, 3) := by decide +kernel
theorem dX11_narrows_105 : decode cX11_narrows 105 = .ok (.ifCond .eq 41, 3) := by decide +kernel
theorem dX11_narrows_108 : decode cX11_narrows 108 = .ok (.aload_n 0, 1) := by decide +kernel
theorem dX11_narrows_109 : decode cX11_narrows 109 = .ok (.invokevirtual 104, 3) := by decide +kernel
theorem dX11_narrows_112 : decode cX11_narrows 112 = .ok (.ifCond .ne 34, 3) := by decide +kernel
theorem dX11_narrows_115 : decode cX11_narrows 115 = .ok (.aload_n 0, 1) := by decide +kernel
theorem dX11_narrows_116 : decode cX11_narrows 116 = .ok (.iconst 0, 1) := by decide +kernel
theorem dX11_narrows_117 : decode cX11_narrows 117 = .ok (.putfield 97, 3) := by decide +kernel
theorem dX11_narrows_120 : decode cX11_narrows 120 = .ok (.iconst 0, 1) := by decide +kernel
theorem dX11_narrows_121 : decode cX11_narrows 121 = .ok (.istore_n 1, 1) := by decide +kernel
theorem dX11_narrows_122 : decode cX11_narrows 122 = .ok (.iload_n 1, 1) := by decide +kernel
theorem dX11_narrows_123 : decode cX11_narrows 123 = .ok (.aload_n 0, 1) := by decide +kernel
theorem dX11_narrows_124 : decode cX11_narrows 124 = .ok (.getfield 7, 3) := by decide +kernel
theorem dX11_narrows_127 : decode cX11_narrows 127 = .ok (.iconst 0, 1) := by decide +kernel
theorem dX11_narrows_128 : decode cX11_narrows 128 = .ok (.iaload, 1) := by decide +kernel
theorem dX11_narrows_129 : decode cX11_narrows 129 = .ok (.if_icmp .ge 14, 3) := by decide +kernel
theorem dX11_narrows_132 : decode cX11_narrows 132 = .ok (.aload_n 0, 1) := by decide +kernel
theorem dX11_narrows_133 : decode cX11_narrows 133 = .ok (.iload_n 1, 1) := by decide +kernel
theorem dX11_narrows_134 : decode cX11_narrows 134 = .ok (.invokevirtual 108, 3) := by decide +kernel
theorem dX11_narrows_137 : decode cX11_narrows 137 = .ok (.iinc 1 1, 3) := by decide +kernel
theorem dX11_narrows_140 : decode cX11_narrows 140 = .ok (.goto (-18), 3) := by decide +kernel
theorem dX11_narrows_143 : decode cX11_narrows 143 = .ok (.goto (-42), 3) := by decide +kernel
theorem dX11_narrows_146 : decode cX11_narrows 146 = .ok (.aload_n 0, 1) := by decide +kernel
theorem dX11_narrows_147 : decode cX11_narrows 147 = .ok (.invokevirtual 104, 3) := by decide +kernel
theorem dX11_narrows_150 : decode cX11_narrows 150 = .ok (.ifCond .ne 7, 3) := by decide +kernel
theorem dX11_narrows_153 : decode cX11_narrows 153 = .ok (.iconst 1, 1) := by decide +kernel
theorem dX11_narrows_154 : decode cX11_narrows 154 = .ok (.goto 4, 3) := by decide +kernel
theorem dX11_narrows_157 : decode cX11_narrows 157 = .ok (.iconst 0, 1) := by decide +kernel
theorem dX11_narrows_158 : decode cX11_narrows 158 = .ok (.ireturn, 1) := by decide +kernel
theorem dX11_isAs_0 : decode cX11_isAs 0 = .ok (.aload_n 0, 1) := by decide +kernel
theorem dX11_isAs_1 : decode cX11_isAs 1 = .ok (.getfield 7, 3) := by decide +kernel
theorem dX11_isAs_4 : decode cX11_isAs 4 = .ok (.iconst 3, 1) := by decide +kernel
theorem dX11_isAs_5 : decode cX11_isAs 5 = .ok (.iload_n 1, 1) := by decide +kernel
theorem dX11_isAs_6 : decode cX11_isAs 6 = .ok (.iadd, 1) := by decide +kernel
theorem dX11_isAs_7 : decode cX11_isAs 7 = .ok (.iaload, 1) := by decide +kernel
theorem dX11_isAs_8 : decode cX11_isAs 8 = .ok (.bipush 10, 2) := by decide +kernel
theorem dX11_isAs_10 : decode cX11_isAs 10 = .ok (.if_icmp .eq 15, 3) := by decide +kernel
theorem dX11_isAs_13 : decode cX11_isAs 13 = .ok (.aload_n 0, 1) := by decide +kernel
theorem dX11_isAs_14 : decode cX11_isAs 14 = .ok (.getfield 7, 3) := by decide +kernel
theorem dX11_isAs_17 : decode cX11_isAs 17 = .ok (.iconst 3, 1) := by decide +kernel
theorem dX11_isAs_18 : decode cX11_isAs 18 = .ok (.iload_n 1, 1) := by decide +kernel
theorem dX11_isAs_19 : decode cX11_isAs 19 = .ok (.iadd, 1) := by decide +kernel
theorem dX11_isAs_20 : decode cX11_isAs 20 = .ok (.iaload, 1) := by decide +kernel
theorem dX11_isAs_21 : decode cX11_isAs 21 = .ok (.iload_n 2, 1) := by decide +kernel
theorem dX11_isAs_22 : decode cX11_isAs 22 = .ok (.if_icmp .ne 7, 3) := by decide +kernel
theorem dX11_isAs_25 : decode cX11_isAs 25 = .ok (.iconst 1, 1) := by decide +kernel
theorem dX11_isAs_26 : decode cX11_isAs 26 = .ok (.goto 4, 3) := by decide +kernel
theorem dX11_isAs_29 : decode cX11_isAs 29 = .ok (.iconst 0, 1) := by decide +kernel
theorem dX11_isAs_30 : decode cX11_isAs 30 = .ok (.ireturn, 1) := by decide +kernel
set_option maxRecDepth 20000 in
theorem ggX11_isAll_X11_isAs : GoodIn wsX11_isAll wsX11_isAs := goodIn_r _ [8, 1, 9, 10, 11, 12, 13, 14, 15, 16, 17, 18, 19, 20, 21, 22, 23, 24, 25, 26] (by decide +kernel) (by decide +kernel)
set_option maxRecDepth 20000 in
theorem gX11_isAll_X11_isAs : GoodIn wsX11_isAll (wsV RX11 112 RX11 yX11_isAs wsX11_isAs) := goodIn_app (goodIn_of _ (by decide +kernel)) ggX11_isAll_X11_isAs
theorem dX11_isAll_0 : decode cX11_isAll 0 = .ok (.aload_n 0, 1) := by decide +kernel
theorem dX11_isAll_1 : decode cX11_isAll 1 = .ok (.getfield 7, 3) := by decide +kernel
theorem dX11_isAll_4 : decode cX11_isAll 4 = .ok (.iconst 2, 1) := by decide +kernel
theorem dX11_isAll_5 : decode cX11_isAll 5 = .ok (.iaload, 1) := by decide +kernel
theorem dX11_isAll_6 : decode cX11_isAll 6 = .ok (.ifCond .le 22, 3) := by decide +kernel
theorem dX11_isAll_9 : decode cX11_isAll 9 = .ok (.aload_n 0, 1) := by decide +kernel
theorem dX11_isAll_10 : decode cX11_isAll 10 = .ok (.getfield 29, 3) := by decide +kernel
theorem dX11_isAll_13 : decode cX11_isAll 13 = .ok (.iload_n 1, 1) := by decide +kernel
theorem dX11_isAll_14 : decode cX11_isAll 14 = .ok (.iaload, 1) := by decide +kernel
theorem dX11_isAll_15 : decode cX11_isAll 15 = .ok (.aload_n 0, 1) := by decide +kernel
theorem dX11_isAll_16 : decode cX11_isAll 16 = .ok (.getfield 7, 3) := by decide +kernel
theorem dX11_isAll_19 : decode cX11_isAll 19 = .ok (.iconst 2, 1) := by decide +kernel
theorem dX11_isAll_20 : decode cX11_isAll 20 = .ok (.iaload, 1) := by decide +kernel
theorem dX11_isAll_21 : decode cX11_isAll 21 = .ok (.if_icmp .ne 7, 3) := by decide +kernel
theorem dX11_isAll_24 : decode cX11_isAll 24 = .ok (.iconst 1, 1) := by decide +kernel
theorem dX11_isAll_25 : decode cX11_isAll 25 = .ok (.goto 4, 3) := by decide +kernel
theorem dX11_isAll_28 : decode cX11_isAll 28 = .ok (.iconst 0, 1) := by decide +kernel
theorem dX11_isAll_29 : decode cX11_isAll 29 = .ok (.istore_n 2, 1) := by decide +kernel
theorem dX11_isAll_30 : decode cX11_isAll 30 = .ok (.iconst 0, 1) := by decide +kernel
theorem dX11_isAll_31 : decode cX11_isAll 31 = .ok (.istore_n 3, 1) := by decide +kernel
theorem dX11_isAll_32 : decode cX11_isAll 32 = .ok (.iload_n 3, 1) := by decide +kernel
theorem dX11_isAll_33 : decode cX11_isAll 33 = .ok (.aload_n 0, 1) := by decide +kernel
theorem dX11_isAll_34 : decode cX11_isAll 34 = .ok (.getfield 29, 3) := by decide +kernel
theorem dX11_isAll_37 : decode cX11_isAll 37 = .ok (.iload_n 1, 1) := by decide +kernel
theorem dX11_isAll_38 : decode cX11_isAll 38 = .ok (.iaload, 1) := by decide +kernel
theorem dX11_isAll_39 : decode cX11_isAll 39 = .ok (.if_icmp .ge 30, 3) := by decide +kernel
theorem dX11_isAll_42 : decode cX11_isAll 42 = .ok (.iload_n 2, 1) := by decide +kernel
theorem dX11_isAll_43 : decode cX11_isAll 43 = .ok (.ifCond .eq 26, 3) := by decide +kernel
theorem dX11_isAll_46 : decode cX11_isAll 46 = .ok (.aload_n 0, 1) := by decide +kernel
theorem dX11_isAll_47 : decode cX11_isAll 47 = .ok (.iload_n 3, 1) := by decide +kernel
theorem dX11_isAll_48 : decode cX11_isAll 48 = .ok (.aload_n 0, 1) := by decide +kernel
theorem dX11_isAll_49 : decode cX11_isAll 49 = .ok (.getfield 32, 3) := by decide +kernel
theorem dX11_isAll_52 : decode cX11_isAll 52 = .ok (.bipush 10, 2) := by decide +kernel
theorem dX11_isAll_54 : decode cX11_isAll 54 = .ok (.iload_n 1, 1) := by decide +kernel
theorem dX11_isAll_55 : decode cX11_isAll 55 = .ok (.imul, 1) := by decide +kernel
theorem dX11_isAll_56 : decode cX11_isAll 56 = .ok (.iload_n 3, 1) := by decide +kernel
theorem dX11_isAll_57 : decode cX11_isAll 57 = .ok (.iadd, 1) := by decide +kernel
theorem dX11_isAll_58 : decode cX11_isAll 58 = .ok (.iaload, 1) := by decide +kernel
theorem dX11_isAll_59 : decode cX11_isAll 59 = .ok (.invokevirtual 112, 3) := by decide +kernel
theorem dX11_isAll_62 : decode cX11_isAll 62 = .ok (.istore_n 2, 1) := by decide +kernel
theorem dX11_isAll_63 : decode cX11_isAll 63 = .ok (.iinc 3 1, 3) := by decide +kernel
theorem dX11_isAll_66 : decode cX11_isAll 66 = .ok (.goto (-34), 3) := by decide +kernel
theorem dX11_isAll_69 : decode cX11_isAll 69 = .ok (.iload_n 2, 1) := by decide +kernel
theorem dX11_isAll_70 : decode cX11_isAll 70 = .ok (.ireturn, 1) := by decide +kernel
set_option maxRecDepth 20000 in
theorem ggX11_isSome_X11_isAs : GoodIn wsX11_isSome wsX11_isAs := goodIn_r _ [8, 1, 9, 10, 11, 12, 13, 14, 15, 16, 17, 18, 19, 20, 21, 22, 23, 24, 25, 26] (by decide +kernel) (by decide +kernel)
set_option maxRecDepth 20000 in
theorem gX11_isSome_X11_isAs : GoodIn wsX11_isSome (wsV RX11 112 RX11 yX11_isAs wsX11_isAs) := goodIn_app (goodIn_of _ (by decide +kernel)) ggX11_isSome_X11_isAs
theorem dX11_isSome_0 : decode cX11_isSome 0 = .ok (.aload_n 0, 1) := by decide +kernel
theorem dX11_isSome_1 : decode cX11_isSome 1 = .ok (.getfield 7, 3) := by decide +kernel
theorem dX11_isSome_4 : decode cX11_isSome 4 = .ok (.iconst 2, 1) := by decide +kernel
theorem dX11_isSome_5 : decode cX11_isSome 5 = .ok (.iaload, 1) := by decide +kernel
theorem dX11_isSome_6 : decode cX11_isSome 6 = .ok (.ifCond .eq 20, 3) := by decide +kernel
theorem dX11_isSome_9 : decode cX11_isSome 9 = .ok (.aload_n 0, 1) := by decide +kernel
theorem dX11_isSome_10 : decode cX11_isSome 10 = .ok (.iconst 0, 1) := by decide +kernel
theorem dX11_isSome_11 : decode cX11_isSome 11 = .ok (.aload_n 0, 1) := by decide +kernel
theorem dX11_isSome_12 : decode cX11_isSome 12 = .ok (.getfield 32, 3) := by decide +kernel
theorem dX11_isSome_15 : decode cX11_isSome 15 = .ok (.bipush 10, 2) := by decide +kernel
theorem dX11_isSome_17 : decode cX11_isSome 17 = .ok (.iload_n 1, 1) := by decide +kernel
theorem dX11_isSome_18 : decode cX11_isSome 18 = .ok (.imul, 1) := by decide +kernel
theorem dX11_isSome_19 : decode cX11_isSome 19 = .ok (.iaload, 1) := by decide +kernel
theorem dX11_isSome_20 : decode cX11_isSome 20 = .ok (.invokevirtual 112, 3) := by decide +kernel
theorem dX11_isSome_23 : decode cX11_isSome 23 = .ok (.ifCond .ne 5, 3) := by decide +kernel
theorem dX11_isSome_26 : decode cX11_isSome 26 = .ok (.iconst 0, 1) := by decide +kernel
theorem dX11_isSome_27 : decode cX11_isSome 27 = .ok (.ireturn, 1) := by decide +kernel
theorem dX11_isSome_28 : decode cX11_isSome 28 = .ok (.iconst 1, 1) := by decide +kernel
theorem dX11_isSome_29 : decode cX11_isSome 29 = .ok (.istore_n 2, 1) := by decide +kernel
theorem dX11_isSome_30 : decode cX11_isSome 30 = .ok (.iconst 1, 1) := by decide +kernel
theorem dX11_isSome_31 : decode cX11_isSome 31 = .ok (.istore_n 3, 1) := by decide +kernel
theorem dX11_isSome_32 : decode cX11_isSome 32 = .ok (.iload_n 3, 1) := by decide +kernel
theorem dX11_isSome_33 : decode cX11_isSome 33 = .ok (.aload_n 0, 1) := by decide +kernel
theorem dX11_isSome_34 : decode cX11_isSome 34 = .ok (.getfield 29, 3) := by decide +kernel
theorem dX11_isSome_37 : decode cX11_isSome 37 = .ok (.iload_n 1, 1) := by decide +kernel
theorem dX11_isSome_38 : decode cX11_isSome 38 = .ok (.iaload, 1) := by decide +kernel
theorem dX11_isSome_39 : decode cX11_isSome 39 = .ok (.if_icmp .ge 46, 3) := by decide +kernel
theorem dX11_isSome_42 : decode cX11_isSome 42 = .ok (.iload_n 2, 1) := by decide +kernel
theorem dX11_isSome_43 : decode cX11_isSome 43 = .ok (.iload_n 2, 1) := by decide +kernel
theorem dX11_isSome_44 : decode cX11_isSome 44 = .ok (.aload_n 0, 1) := by decide +kernel
theorem dX11_isSome_45 : decode cX11_isSome 45 = .ok (.getfield 7, 3) := by decide +kernel
theorem dX11_isSome_48 : decode cX11_isSome 48 = .ok (.iconst 2, 1) := by decide +kernel
theorem dX11_isSome_49 : decode cX11_isSome 49 = .ok (.iaload, 1) := by decide +kernel
theorem dX11_isSome_50 : decode cX11_isSome 50 = .ok (.if_icmp .ge 26, 3) := by decide +kernel
theorem dX11_isSome_53 : decode cX11_isSome 53 = .ok (.aload_n 0, 1) := by decide +kernel
theorem dX11_isSome_54 : decode cX11_isSome 54 = .ok (.iload_n 2, 1) := by decide +kernel
theorem dX11_isSome_55 : decode cX11_isSome 55 = .ok (.aload_n 0, 1) := by decide +kernel
theorem dX11_isSome_56 : decode cX11_isSome 56 = .ok (.getfield 32, 3) := by decide +kernel
theorem dX11_isSome_59 : decode cX11_isSome 59 = .ok (.bipush 10, 2) := by decide +kernel
theorem dX11_isSome_61 : decode cX11_isSome 61 = .ok (.iload_n 1, 1) := by decide +kernel
theorem dX11_isSome_62 : decode cX11_isSome 62 = .ok (.imul, 1) := by decide +kernel
theorem dX11_isSome_63 : decode cX11_isSome 63 = .ok (.iload_n 3, 1) := by decide +kernel
theorem dX11_isSome_64 : decode cX11_isSome 64 = .ok (.iadd, 1) := by decide +kernel
theorem dX11_isSome_65 : decode cX11_isSome 65 = .ok (.iaload, 1) := by decide +kernel
theorem dX11_isSome_66 : decode cX11_isSome 66 = .ok (.invokevirtual 112, 3) := by decide +kernel
theorem dX11_isSome_69 : decode cX11_isSome 69 = .ok (.ifCond .eq 7, 3) := by decide +kernel
theorem dX11_isSome_72 : decode cX11_isSome 72 = .ok (.iconst 1, 1) := by decide +kernel
theorem dX11_isSome_73 : decode cX11_isSome 73 = .ok (.goto 4, 3) := by decide +kernel
theorem dX11_isSome_76 : decode cX11_isSome 76 = .ok (.iconst 0, 1) := by decide +kernel
theorem dX11_isSome_77 : decode cX11_isSome 77 = .ok (.iadd, 1) := by decide +kernel
theorem dX11_isSome_78 : decode cX11_isSome 78 = .ok (.istore_n 2, 1) := by decide +kernel
theorem dX11_isSome_79 : decode cX11_isSome 79 = .ok (.iinc 3 1, 3) := by decide +kernel
theorem dX11_isSome_82 : decode cX11_isSome 82 = .ok (.goto (-50), 3) := by decide +kernel
theorem dX11_isSome_85 : decode cX11_isSome 85 = .ok (.iload_n 2, 1) := by decide +kernel
theorem dX11_isSome_86 : decode cX11_isSome 86 = .ok (.aload_n 0, 1) := by decide +kernel
theorem dX11_isSome_87 : decode cX11_isSome 87 = .ok (.getfield 7, 3) := by decide +kernel
theorem dX11_isSome_90 : decode cX11_isSome 90 = .ok (.iconst 2, 1) := by decide +kernel
theorem dX11_isSome_91 : decode cX11_isSome 91 = .ok (.iaload, 1) := by decide +kernel
theorem dX11_isSome_92 : decode cX11_isSome 92 = .ok (.if_icmp .ne 7, 3) := by decide +kernel
theorem dX11_isSome_95 : decode cX11_isSome 95 = .ok (.iconst 1, 1) := by decide +kernel
theorem dX11_isSome_96 : decode cX11_isSome 96 = .ok (.goto 4, 3) := by decide +kernel
theorem dX11_isSome_99 : decode cX11_isSome 99 = .ok (.iconst 0, 1) := by decide +kernel
theorem dX11_isSome_100 : decode cX11_isSome 100 = .ok (.ireturn, 1) := by decide +kernel
set_option maxRecDepth 20000 in
theorem ggX11_meant_X11_lays : GoodIn wsX11_meant wsX11_lays := goodIn_r _ [6, 1, 7, 8, 9, 5, 10, 11, 12, 13, 14, 15, 16, 17, 18, 19, 20, 21, 22, 23, 24, 25, 26, 27, 28, 29, 30, 31, 32, 33, 34, 35, 36, 49, 50, 51, 52, 53, 54, 55, 56, 57, 58, 59, 60, 61, 62, 63, 64, 65, 66] (by decide +kernel) (by decide +kernel)
set_option maxRecDepth 20000 in
theorem gX11_meant_X11_lays : GoodIn wsX11_meant (wsV RX11 90 RX11 yX11_lays wsX11_lays) := goodIn_app (goodIn_of _ (by decide +kernel)) ggX11_meant_X11_lays
set_option maxRecDepth 20000 in
theorem ggX11_meant_X11_isAll : GoodIn wsX11_meant wsX11_isAll := goodIn_r _ [40, 1, 11, 31, 41, 42, 43, 5, 44, 49, 50, 51, 52, 53, 54, 55, 56, 57, 58, 59, 60, 61, 62, 63, 64, 65, 66] (by decide +kernel) (by decide +kernel)
set_option maxRecDepth 20000 in
theorem gX11_meant_X11_isAll : GoodIn wsX11_meant (wsV RX11 115 RX11 yX11_isAll wsX11_isAll) := goodIn_app (goodIn_of _ (by decide +kernel)) ggX11_meant_X11_isAll
set_option maxRecDepth 20000 in
theorem ggX11_meant_X11_isSome : GoodIn wsX11_meant wsX11_isSome := goodIn_r _ [48, 1, 31, 11, 41, 42, 43, 5, 44, 49, 50, 51, 52, 53, 54, 55, 56, 57, 58, 59, 60, 61, 62, 63, 64, 65, 66] (by decide +kernel) (by decide +kernel)
set_option maxRecDepth 20000 in
theorem gX11_meant_X11_isSome : GoodIn wsX11_meant (wsV RX11 118 RX11 yX11_isSome wsX11_isSome) := goodIn_app (goodIn_of _ (by decide +kernel)) ggX11_meant_X11_isSome
theorem dX11_meant_0 : decode cX11_meant 0 = .ok (.aload_n 0, 1) := by decide +kernel
theorem dX11_meant_1 : decode cX11_meant 1 = .ok (.invokevirtual 90, 3) := by decide +kernel
theorem dX11_meant_4 : decode cX11_meant 4 = .ok (.iconst 0, 1) := by decide +kernel
theorem dX11_meant_5 : decode cX11_meant 5 = .ok (.istore_n 2, 1) := by decide +kernel
theorem dX11_meant_6 : decode cX11_meant 6 = .ok (.iconst 0, 1) := by decide +kernel
theorem dX11_meant_7 : decode cX11_meant 7 = .ok (.istore_n 3, 1) := by decide +kernel
theorem dX11_meant_8 : decode cX11_meant 8 = .ok (.iload_n 3, 1) := by decide +kernel
theorem dX11_meant_9 : decode cX11_meant 9 = .ok (.aload_n 0, 1) := by decide +kernel
theorem dX11_meant_10 : decode cX11_meant 10 = .ok (.getfield 7, 3) := by decide +kernel
theorem dX11_meant_13 : decode cX11_meant 13 = .ok (.iconst 0, 1) := by decide +kernel
theorem dX11_meant_14 : decode cX11_meant 14 = .ok (.iaload, 1) := by decide +kernel
theorem dX11_meant_15 : decode cX11_meant 15 = .ok (.if_icmp .ge 42, 3) := by decide +kernel
theorem dX11_meant_18 : decode cX11_meant 18 = .ok (.iload_n 2, 1) := by decide +kernel
theorem dX11_meant_19 : decode cX11_meant 19 = .ok (.iload_n 1, 1) := by decide +kernel
theorem dX11_meant_20 : decode cX11_meant 20 = .ok (.ifCond .eq 14, 3) := by decide +kernel
theorem dX11_meant_23 : decode cX11_meant 23 = .ok (.aload_n 0, 1) := by decide +kernel
theorem dX11_meant_24 : decode cX11_meant 24 = .ok (.iload_n 3, 1) := by decide +kernel
theorem dX11_meant_25 : decode cX11_meant 25 = .ok (.invokevirtual 115, 3) := by decide +kernel
theorem dX11_meant_28 : decode cX11_meant 28 = .ok (.ifCond .eq 20, 3) := by decide +kernel
theorem dX11_meant_31 : decode cX11_meant 31 = .ok (.goto 11, 3) := by decide +kernel
theorem dX11_meant_34 : decode cX11_meant 34 = .ok (.aload_n 0, 1) := by decide +kernel
theorem dX11_meant_35 : decode cX11_meant 35 = .ok (.iload_n 3, 1) := by decide +kernel
theorem dX11_meant_36 : decode cX11_meant 36 = .ok (.invokevirtual 118, 3) := by decide +kernel
theorem dX11_meant_39 : decode cX11_meant 39 = .ok (.ifCond .eq 9, 3) := by decide +kernel
theorem dX11_meant_42 : decode cX11_meant 42 = .ok (.iconst 1, 1) := by decide +kernel
theorem dX11_meant_43 : decode cX11_meant 43 = .ok (.iload_n 3, 1) := by decide +kernel
theorem dX11_meant_44 : decode cX11_meant 44 = .ok (.ishl, 1) := by decide +kernel
theorem dX11_meant_45 : decode cX11_meant 45 = .ok (.goto 4, 3) := by decide +kernel
theorem dX11_meant_48 : decode cX11_meant 48 = .ok (.iconst 0, 1) := by decide +kernel
theorem dX11_meant_49 : decode cX11_meant 49 = .ok (.ior, 1) := by decide +kernel
theorem dX11_meant_50 : decode cX11_meant 50 = .ok (.istore_n 2, 1) := by decide +kernel
theorem dX11_meant_51 : decode cX11_meant 51 = .ok (.iinc 3 1, 3) := by decide +kernel
theorem dX11_meant_54 : decode cX11_meant 54 = .ok (.goto (-46), 3) := by decide +kernel
theorem dX11_meant_57 : decode cX11_meant 57 = .ok (.iload_n 2, 1) := by decide +kernel
theorem dX11_meant_58 : decode cX11_meant 58 = .ok (.ireturn, 1) := by decide +kernel
theorem dX11_like_0 : decode cX11_like 0 = .ok (.iconst 0, 1) := by decide +kernel
theorem dX11_like_1 : decode cX11_like 1 = .ok (.istore_n 2, 1) := by decide +kernel
theorem dX11_like_2 : decode cX11_like 2 = .ok (.iload_n 2, 1) := by decide +kernel
theorem dX11_like_3 : decode cX11_like 3 = .ok (.aload_n 0, 1) := by decide +kernel
theorem dX11_like_4 : decode cX11_like 4 = .ok (.getfield 29, 3) := by decide +kernel
theorem dX11_like_7 : decode cX11_like 7 = .ok (.iload_n 1, 1) := by decide +kernel
theorem dX11_like_8 : decode cX11_like 8 = .ok (.iaload, 1) := by decide +kernel
theorem dX11_like_9 : decode cX11_like 9 = .ok (.if_icmp .gt 16, 3) := by decide +kernel
theorem dX11_like_12 : decode cX11_like 12 = .ok (.aload_n 0, 1) := by decide +kernel
theorem dX11_like_13 : decode cX11_like 13 = .ok (.getfield 44, 3) := by decide +kernel
theorem dX11_like_16 : decode cX11_like 16 = .ok (.iload_n 2, 1) := by decide +kernel
theorem dX11_like_17 : decode cX11_like 17 = .ok (.iconst 0, 1) := by decide +kernel
theorem dX11_like_18 : decode cX11_like 18 = .ok (.iastore, 1) := by decide +kernel
theorem dX11_like_19 : decode cX11_like 19 = .ok (.iinc 2 1, 3) := by decide +kernel
theorem dX11_like_22 : decode cX11_like 22 = .ok (.goto (-20), 3) := by decide +kernel
theorem dX11_like_25 : decode cX11_like 25 = .ok (.iconst 0, 1) := by decide +kernel
theorem dX11_like_26 : decode cX11_like 26 = .ok (.istore_n 2, 1) := by decide +kernel
theorem dX11_like_27 : decode cX11_like 27 = .ok (.iload_n 2, 1) := by decide +kernel
theorem dX11_like_28 : decode cX11_like 28 = .ok (.aload_n 0, 1) := by decide +kernel
theorem dX11_like_29 : decode cX11_like 29 = .ok (.getfield 7, 3) := by decide +kernel
theorem dX11_like_32 : decode cX11_like 32 = .ok (.iconst 2, 1) := by decide +kernel
theorem dX11_like_33 : decode cX11_like 33 = .ok (.iaload, 1) := by decide +kernel
theorem dX11_like_34 : decode cX11_like 34 = .ok (.if_icmp .ge 140, 3) := by decide +kernel
theorem dX11_like_37 : decode cX11_like 37 = .ok (.iconst 0, 1) := by decide +kernel
theorem dX11_like_38 : decode cX11_like 38 = .ok (.istore_n 3, 1) := by decide +kernel
theorem dX11_like_39 : decode cX11_like 39 = .ok (.iconst 0, 1) := by decide +kernel
theorem dX11_like_40 : decode cX11_like 40 = .ok (.istore 4, 2) := by decide +kernel
theorem dX11_like_42 : decode cX11_like 42 = .ok (.iload 4, 2) := by decide +kernel
theorem dX11_like_44 : decode cX11_like 44 = .ok (.aload_n 0, 1) := by decide +kernel
theorem dX11_like_45 : decode cX11_like 45 = .ok (.getfield 29, 3) := by decide +kernel
theorem dX11_like_48 : decode cX11_like 48 = .ok (.iload_n 1, 1) := by decide +kernel
theorem dX11_like_49 : decode cX11_like 49 = .ok (.iaload, 1) := by decide +kernel
theorem dX11_like_50 : decode cX11_like 50 = .ok (.if_icmp .ge 118, 3) := by decide +kernel
theorem dX11_like_53 : decode cX11_like 53 = .ok (.aload_n 0, 1) := by decide +kernel
theorem dX11_like_54 : decode cX11_like 54 = .ok (.getfield 7, 3) := by decide +kernel
theorem dX11_like_57 : decode cX11_like 57 = .ok (.iconst 3, 1) := by decide +kernel
theorem dX11_like_58 : decode cX11_like 58 = .ok (.iload_n 2, 1) := by decide +kernel
theorem dX11_like_59 : decode cX11_like 59 = .ok (.iadd, 1) := by decide +kernel
theorem dX11_like_60 : decode cX11_like 60 = .ok (.iaload, 1) := by decide +kernel
theorem dX11_like_61 : decode cX11_like 61 = .ok (.bipush 10, 2) := by decide +kernel
theorem dX11_like_63 : decode cX11_like 63 = .ok (.if_icmp .eq 105, 3) := by decide +kernel
theorem dX11_like_66 : decode cX11_like 66 = .ok (.aload_n 0, 1) := by decide +kernel
theorem dX11_like_67 : decode cX11_like 67 = .ok (.getfield 44, 3) := by decide +kernel
theorem dX11_like_70 : decode cX11_like 70 = .ok (.iload 4, 2) := by decide +kernel
theorem dX11_like_72 : decode cX11_like 72 = .ok (.iconst 1, 1) := by decide +kernel
theorem dX11_like_73 : decode cX11_like 73 = .ok (.iadd, 1) := by decide +kernel
theorem dX11_like_74 : decode cX11_like 74 = .ok (.iaload, 1) := by decide +kernel
theorem dX11_like_75 : decode cX11_like 75 = .ok (.istore 5, 2) := by decide +kernel
theorem dX11_like_77 : decode cX11_like 77 = .ok (.aload_n 0, 1) := by decide +kernel
theorem dX11_like_78 : decode cX11_like 78 = .ok (.getfield 32, 3) := by decide +kernel
theorem dX11_like_81 : decode cX11_like 81 = .ok (.bipush 10, 2) := by decide +kernel
theorem dX11_like_83 : decode cX11_like 83 = .ok (.iload_n 1, 1) := by decide +kernel
theorem dX11_like_84 : decode cX11_like 84 = .ok (.imul, 1) := by decide +kernel
theorem dX11_like_85 : decode cX11_like 85 = .ok (.iload 4, 2) := by decide +kernel
theorem dX11_like_87 : decode cX11_like 87 = .ok (.iadd, 1) := by decide +kernel
theorem dX11_like_88 : decode cX11_like 88 = .ok (.iaload, 1) := by decide +kernel
theorem dX11_like_89 : decode cX11_like 89 = .ok (.aload_n 0, 1) := by decide +kernel
theorem dX11_like_90 : decode cX11_like 90 = .ok (.getfield 7, 3) := by decide +kernel
theorem dX11_like_93 : decode cX11_like 93 = .ok (.iconst 3, 1) := by decide +kernel
theorem dX11_like_94 : decode cX11_like 94 = .ok (.iload_n 2, 1) := by decide +kernel
theorem dX11_like_95 : decode cX11_like 95 = .ok (.iadd, 1) := by decide +kernel
theorem dX11_like_96 : decode cX11_like 96 = .ok (.iaload, 1) := by decide +kernel
theorem dX11_like_97 : decode cX11_like 97 = .ok (.if_icmp .ne 9, 3) := by decide +kernel
theorem dX11_like_100 : decode cX11_like 100 = .ok (.iload_n 3, 1) := by decide +kernel
theorem dX11_like_101 : decode cX11_like 101 = .ok (.iconst 1, 1) := by decide +kernel
theorem dX11_like_102 : decode cX11_like 102 = .ok (.iadd, 1) := by decide +kernel
theorem dX11_like_103 : decode cX11_like 103 = .ok (.goto 5, 3) := by decide +kernel
theorem dX11_like_106 : decode cX11_like 106 = .ok (.iload 5, 2) := by decide +kernel
theorem dX11_like_108 : decode cX11_like 108 = .ok (.istore 6, 2) := by decide +kernel
theorem dX11_like_110 : decode cX11_like 110 = .ok (.iload 6, 2) := by decide +kernel
theorem dX11_like_112 : decode cX11_like 112 = .ok (.iload 5, 2) := by decide +kernel
theorem dX11_like_114 : decode cX11_like 114 = .ok (.if_icmp .ge 8, 3) := by decide +kernel
theorem dX11_like_117 : decode cX11_like 117 = .ok (.iload 5, 2) := by decide +kernel
theorem dX11_like_119 : decode cX11_like 119 = .ok (.goto 5, 3) := by decide +kernel
theorem dX11_like_122 : decode cX11_like 122 = .ok (.iload 6, 2) := by decide +kernel
theorem dX11_like_124 : decode cX11_like 124 = .ok (.istore 6, 2) := by decide +kernel
theorem dX11_like_126 : decode cX11_like 126 = .ok (.aload_n 0, 1) := by decide +kernel
theorem dX11_like_127 : decode cX11_like 127 = .ok (.getfield 44, 3) := by decide +kernel
theorem dX11_like_130 : decode cX11_like 130 = .ok (.iload 4, 2) := by decide +kernel
theorem dX11_like_132 : decode cX11_like 132 = .ok (.iconst 1, 1) := by decide +kernel
theorem dX11_like_133 : decode cX11_like 133 = .ok (.iadd, 1) := by decide +kernel
theorem dX11_like_134 : decode cX11_like 134 = .ok (.iload 6, 2) := by decide +kernel
theorem dX11_like_136 : decode cX11_like 136 = .ok (.aload_n 0, 1) := by decide +kernel
theorem dX11_like_137 : decode cX11_like 137 = .ok (.getfield 44, 3) := by decide +kernel
theorem dX11_like_140 : decode cX11_like 140 = .ok (.iload 4, 2) := by decide +kernel
theorem dX11_like_142 : decode cX11_like 142 = .ok (.iaload, 1) := by decide +kernel
theorem dX11_like_143 : decode cX11_like 143 = .ok (.if_icmp .ge 13, 3) := by decide +kernel
theorem dX11_like_146 : decode cX11_like 146 = .ok (.aload_n 0, 1) := by decide +kernel
theorem dX11_like_147 : decode cX11_like 147 = .ok (.getfield 44, 3) := by decide +kernel
theorem dX11_like_150 : decode cX11_like 150 = .ok (.iload 4, 2) := by decide +kernel
theorem dX11_like_152 : decode cX11_like 152 = .ok (.iaload, 1) := by decide +kernel
theorem dX11_like_153 : decode cX11_like 153 = .ok (.goto 5, 3) := by decide +kernel
theorem dX11_like_156 : decode cX11_like 156 = .ok (.iload 6, 2) := by decide +kernel
theorem dX11_like_158 : decode cX11_like 158 = .ok (.iastore, 1) := by decide +kernel
theorem dX11_like_159 : decode cX11_like 159 = .ok (.iload 5, 2) := by decide +kernel
theorem dX11_like_161 : decode cX11_like 161 = .ok (.istore_n 3, 1) := by decide +kernel
theorem dX11_like_162 : decode cX11_like 162 = .ok (.iinc 4 1, 3) := by decide +kernel
theorem dX11_like_165 : decode cX11_like 165 = .ok (.goto (-123), 3) := by decide +kernel
theorem dX11_like_168 : decode cX11_like 168 = .ok (.iinc 2 1, 3) := by decide +kernel
theorem dX11_like_171 : decode cX11_like 171 = .ok (.goto (-144), 3) := by decide +kernel
theorem dX11_like_174 : decode cX11_like 174 = .ok (.aload_n 0, 1) := by decide +kernel
theorem dX11_like_175 : decode cX11_like 175 = .ok (.getfield 44, 3) := by decide +kernel
theorem dX11_like_178 : decode cX11_like 178 = .ok (.aload_n 0, 1) := by decide +kernel
theorem dX11_like_179 : decode cX11_like 179 = .ok (.getfield 29, 3) := by decide +kernel
theorem dX11_like_182 : decode cX11_like 182 = .ok (.iload_n 1, 1) := by decide +kernel
theorem dX11_like_183 : decode cX11_like 183 = .ok (.iaload, 1) := by decide +kernel
theorem dX11_like_184 : decode cX11_like 184 = .ok (.iaload, 1) := by decide +kernel
theorem dX11_like_185 : decode cX11_like 185 = .ok (.ireturn, 1) := by decide +kernel
set_option maxRecDepth 20000 in
theorem ggX11_likely_X11_lays : GoodIn wsX11_likely wsX11_lays := goodIn_r _ [7, 1, 8, 9, 10, 6, 11, 2, 12, 13, 14, 15, 16, 17, 18, 19, 20, 21, 22, 23, 24, 25, 26, 27, 28, 29, 30, 31, 32, 33, 34, 35, 36, 42, 43, 44, 45, 46, 47, 48, 49, 50, 51, 52, 53, 54, 55, 56, 57, 58, 59] (by decide +kernel) (by decide +kernel)
set_option maxRecDepth 20000 in
theorem gX11_likely_X11_lays : GoodIn wsX11_likely (wsV RX11 90 RX11 yX11_lays wsX11_lays) := goodIn_app (goodIn_of _ (by decide +kernel)) ggX11_likely_X11_lays
set_option maxRecDepth 20000 in
theorem ggX11_likely_X11_like : GoodIn wsX11_likely wsX11_like := goodIn_r _ [40, 2, 41, 1, 31, 42, 43, 44, 45, 46, 47, 48, 49, 50, 51, 52, 53, 54, 55, 56, 57, 58, 59] (by decide +kernel) (by decide +kernel)
set_option maxRecDepth 20000 in
theorem gX11_likely_X11_like : GoodIn wsX11_likely (wsV RX11 121 RX11 yX11_like wsX11_like) := goodIn_app (goodIn_of _ (by decide +kernel)) ggX11_likely_X11_like
theorem dX11_likely_0 : decode cX11_likely 0 = .ok (.aload_n 0, 1) := by decide +kernel
theorem dX11_likely_1 : decode cX11_likely 1 = .ok (.invokevirtual 90, 3) := by decide +kernel
theorem dX11_likely_4 : decode cX11_likely 4 = .ok (.iconst (-1), 1) := by decide +kernel
theorem dX11_likely_5 : decode cX11_likely 5 = .ok (.istore_n 1, 1) := by decide +kernel
theorem dX11_likely_6 : decode cX11_likely 6 = .ok (.iconst 0, 1) := by decide +kernel
theorem dX11_likely_7 : decode cX11_likely 7 = .ok (.istore_n 2, 1) := by decide +kernel
theorem dX11_likely_8 : decode cX11_likely 8 = .ok (.iconst 0, 1) := by decide +kernel
theorem dX11_likely_9 : decode cX11_likely 9 = .ok (.istore_n 3, 1) := by decide +kernel
theorem dX11_likely_10 : decode cX11_likely 10 = .ok (.iload_n 3, 1) := by decide +kernel
theorem dX11_likely_11 : decode cX11_likely 11 = .ok (.aload_n 0, 1) := by decide +kernel
theorem dX11_likely_12 : decode cX11_likely 12 = .ok (.getfield 7, 3) := by decide +kernel
theorem dX11_likely_15 : decode cX11_likely 15 = .ok (.iconst 0, 1) := by decide +kernel
theorem dX11_likely_16 : decode cX11_likely 16 = .ok (.iaload, 1) := by decide +kernel
theorem dX11_likely_17 : decode cX11_likely 17 = .ok (.if_icmp .ge 53, 3) := by decide +kernel
theorem dX11_likely_20 : decode cX11_likely 20 = .ok (.aload_n 0, 1) := by decide +kernel
theorem dX11_likely_21 : decode cX11_likely 21 = .ok (.iload_n 3, 1) := by decide +kernel
theorem dX11_likely_22 : decode cX11_likely 22 = .ok (.invokevirtual 121, 3) := by decide +kernel
theorem dX11_likely_25 : decode cX11_likely 25 = .ok (.istore 4, 2) := by decide +kernel
theorem dX11_likely_27 : decode cX11_likely 27 = .ok (.iload 4, 2) := by decide +kernel
theorem dX11_likely_29 : decode cX11_likely 29 = .ok (.iload_n 2, 1) := by decide +kernel
theorem dX11_likely_30 : decode cX11_likely 30 = .ok (.if_icmp .gt 29, 3) := by decide +kernel
theorem dX11_likely_33 : decode cX11_likely 33 = .ok (.iload 4, 2) := by decide +kernel
theorem dX11_likely_35 : decode cX11_likely 35 = .ok (.iload_n 2, 1) := by decide +kernel
theorem dX11_likely_36 : decode cX11_likely 36 = .ok (.if_icmp .ne 28, 3) := by decide +kernel
theorem dX11_likely_39 : decode cX11_likely 39 = .ok (.iload_n 1, 1) := by decide +kernel
theorem dX11_likely_40 : decode cX11_likely 40 = .ok (.iconst (-1), 1) := by decide +kernel
theorem dX11_likely_41 : decode cX11_likely 41 = .ok (.if_icmp .eq 23, 3) := by decide +kernel
theorem dX11_likely_44 : decode cX11_likely 44 = .ok (.aload_n 0, 1) := by decide +kernel
theorem dX11_likely_45 : decode cX11_likely 45 = .ok (.getfield 29, 3) := by decide +kernel
theorem dX11_likely_48 : decode cX11_likely 48 = .ok (.iload_n 3, 1) := by decide +kernel
theorem dX11_likely_49 : decode cX11_likely 49 = .ok (.iaload, 1) := by decide +kernel
theorem dX11_likely_50 : decode cX11_likely 50 = .ok (.aload_n 0, 1) := by decide +kernel
theorem dX11_likely_51 : decode cX11_likely 51 = .ok (.getfield 29, 3) := by decide +kernel
theorem dX11_likely_54 : decode cX11_likely 54 = .ok (.iload_n 1, 1) := by decide +kernel
theorem dX11_likely_55 : decode cX11_likely 55 = .ok (.iaload, 1) := by decide +kernel
theorem dX11_likely_56 : decode cX11_likely 56 = .ok (.if_icmp .ge 8, 3) := by decide +kernel
theorem dX11_likely_59 : decode cX11_likely 59 = .ok (.iload_n 3, 1) := by decide +kernel
theorem dX11_likely_60 : decode cX11_likely 60 = .ok (.istore_n 1, 1) := by decide +kernel
theorem dX11_likely_61 : decode cX11_likely 61 = .ok (.iload 4, 2) := by decide +kernel
theorem dX11_likely_63 : decode cX11_likely 63 = .ok (.istore_n 2, 1) := by decide +kernel
theorem dX11_likely_64 : decode cX11_likely 64 = .ok (.iinc 3 1, 3) := by decide +kernel
theorem dX11_likely_67 : decode cX11_likely 67 = .ok (.goto (-57), 3) := by decide +kernel
theorem dX11_likely_70 : decode cX11_likely 70 = .ok (.iload_n 1, 1) := by decide +kernel
theorem dX11_likely_71 : decode cX11_likely 71 = .ok (.ireturn, 1) := by decide +kernel
set_option maxRecDepth 20000 in
theorem ggX11_heirs_X11_isHeir : GoodIn wsX11_heirs wsX11_isHeir := goodIn_r _ [6, 1, 7, 8, 9, 5, 10, 11, 12, 13, 14, 15, 16, 17, 18, 19, 20, 21, 22, 23, 24, 25, 26, 27, 28, 29, 30, 31, 32, 33, 34, 35] (by decide +kernel) (by decide +kernel)
set_option maxRecDepth 20000 in
theorem gX11_heirs_X11_isHeir : GoodIn wsX11_heirs (wsV RX11 76 RX11 yX11_isHeir wsX11_isHeir) := goodIn_app (goodIn_of _ (by decide +kernel)) ggX11_heirs_X11_isHeir
theorem dX11_heirs_0 : decode cX11_heirs 0 = .ok (.iconst 0, 1) := by decide +kernel
theorem dX11_heirs_1 : decode cX11_heirs 1 = .ok (.istore_n 1, 1) := by decide +kernel
theorem dX11_heirs_2 : decode cX11_heirs 2 = .ok (.iconst 0, 1) := by decide +kernel
theorem dX11_heirs_3 : decode cX11_heirs 3 = .ok (.istore_n 2, 1) := by decide +kernel
theorem dX11_heirs_4 : decode cX11_heirs 4 = .ok (.iload_n 2, 1) := by decide +kernel
theorem dX11_heirs_5 : decode cX11_heirs 5 = .ok (.aload_n 0, 1) := by decide +kernel
theorem dX11_heirs_6 : decode cX11_heirs 6 = .ok (.getfield 7, 3) := by decide +kernel
theorem dX11_heirs_9 : decode cX11_heirs 9 = .ok (.iconst 0, 1) := by decide +kernel
theorem dX11_heirs_10 : decode cX11_heirs 10 = .ok (.iaload, 1) := by decide +kernel
theorem dX11_heirs_11 : decode cX11_heirs 11 = .ok (.if_icmp .ge 27, 3) := by decide +kernel
theorem dX11_heirs_14 : decode cX11_heirs 14 = .ok (.iload_n 1, 1) := by decide +kernel
theorem dX11_heirs_15 : decode cX11_heirs 15 = .ok (.aload_n 0, 1) := by decide +kernel
theorem dX11_heirs_16 : decode cX11_heirs 16 = .ok (.iload_n 2, 1) := by decide +kernel
theorem dX11_heirs_17 : decode cX11_heirs 17 = .ok (.invokevirtual 76, 3) := by decide +kernel
theorem dX11_heirs_20 : decode cX11_heirs 20 = .ok (.ifCond .eq 9, 3) := by decide +kernel
theorem dX11_heirs_23 : decode cX11_heirs 23 = .ok (.iconst 1, 1) := by decide +kernel
theorem dX11_heirs_24 : decode cX11_heirs 24 = .ok (.iload_n 2, 1) := by decide +kernel
theorem dX11_heirs_25 : decode cX11_heirs 25 = .ok (.ishl, 1) := by decide +kernel
theorem dX11_heirs_26 : decode cX11_heirs 26 = .ok (.goto 4, 3) := by decide +kernel
theorem dX11_heirs_29 : decode cX11_heirs 29 = .ok (.iconst 0, 1) := by decide +kernel
theorem dX11_heirs_30 : decode cX11_heirs 30 = .ok (.ior, 1) := by decide +kernel
theorem dX11_heirs_31 : decode cX11_heirs 31 = .ok (.istore_n 1, 1) := by decide +kernel
theorem dX11_heirs_32 : decode cX11_heirs 32 = .ok (.iinc 2 1, 3) := by decide +kernel
theorem dX11_heirs_35 : decode cX11_heirs 35 = .ok (.goto (-31), 3) := by decide +kernel
theorem dX11_heirs_38 : decode cX11_heirs 38 = .ok (.iload_n 1, 1) := by decide +kernel
theorem dX11_heirs_39 : decode cX11_heirs 39 = .ok (.ireturn, 1) := by decide +kernel
set_option maxRecDepth 20000 in
theorem ggX11_wrong_X11_lays : GoodIn wsX11_wrong wsX11_lays := goodIn_r _ [11, 12, 13, 14, 15, 10, 16, 4, 17, 18, 19, 20, 21, 22, 23, 24, 25, 26, 27, 28, 29, 30, 31, 32, 33, 34, 35, 5, 36, 37, 38, 39, 40, 41, 42, 43, 44, 45, 46, 47, 48, 49, 50, 51, 52, 53, 54, 55, 56, 57, 58] (by decide +kernel) (by decide +kernel)
set_option maxRecDepth 20000 in
theorem gX11_wrong_X11_lays : GoodIn wsX11_wrong (wsV RX11 90 RX11 yX11_lays wsX11_lays) := goodIn_app (goodIn_of _ (by decide +kernel)) ggX11_wrong_X11_lays
set_option maxRecDepth 20000 in
theorem ggX11_wrong_X11_isOne : GoodIn wsX11_wrong wsX11_isOne := goodIn_r _ [28, 12, 29, 30, 10, 31, 41, 42, 43, 44, 45, 46, 47, 48, 49, 50, 51, 52, 53, 54, 55, 56, 57, 58] (by decide +kernel) (by decide +kernel)
set_option maxRecDepth 20000 in
theorem gX11_wrong_X11_isOne : GoodIn wsX11_wrong (wsV RX11 65 RX11 yX11_isOne wsX11_isOne) := goodIn_app (goodIn_of _ (by decide +kernel)) ggX11_wrong_X11_isOne
theorem dX11_wrong_0 : decode cX11_wrong 0 = .ok (.aload_n 0, 1) := by decide +kernel
theorem dX11_wrong_1 : decode cX11_wrong 1 = .ok (.invokevirtual 90, 3) := by decide +kernel
theorem dX11_wrong_4 : decode cX11_wrong 4 = .ok (.iconst 0, 1) := by decide +kernel
theorem dX11_wrong_5 : decode cX11_wrong 5 = .ok (.istore_n 1, 1) := by decide +kernel
theorem dX11_wrong_6 : decode cX11_wrong 6 = .ok (.iload_n 1, 1) := by decide +kernel
theorem dX11_wrong_7 : decode cX11_wrong 7 = .ok (.aload_n 0, 1) := by decide +kernel
theorem dX11_wrong_8 : decode cX11_wrong 8 = .ok (.getfield 124, 3) := by decide +kernel
theorem dX11_wrong_11 : decode cX11_wrong 11 = .ok (.if_icmp .ge 66, 3) := by decide +kernel
theorem dX11_wrong_14 : decode cX11_wrong 14 = .ok (.aload_n 0, 1) := by decide +kernel
theorem dX11_wrong_15 : decode cX11_wrong 15 = .ok (.getfield 20, 3) := by decide +kernel
theorem dX11_wrong_18 : decode cX11_wrong 18 = .ok (.iload_n 1, 1) := by decide +kernel
theorem dX11_wrong_19 : decode cX11_wrong 19 = .ok (.iaload, 1) := by decide +kernel
theorem dX11_wrong_20 : decode cX11_wrong 20 = .ok (.istore_n 2, 1) := by decide +kernel
theorem dX11_wrong_21 : decode cX11_wrong 21 = .ok (.aload_n 0, 1) := by decide +kernel
theorem dX11_wrong_22 : decode cX11_wrong 22 = .ok (.iload_n 2, 1) := by decide +kernel
theorem dX11_wrong_23 : decode cX11_wrong 23 = .ok (.invokevirtual 65, 3) := by decide +kernel
theorem dX11_wrong_26 : decode cX11_wrong 26 = .ok (.ifCond .eq 43, 3) := by decide +kernel
theorem dX11_wrong_29 : decode cX11_wrong 29 = .ok (.aload_n 0, 1) := by decide +kernel
theorem dX11_wrong_30 : decode cX11_wrong 30 = .ok (.getfield 23, 3) := by decide +kernel
theorem dX11_wrong_33 : decode cX11_wrong 33 = .ok (.iload_n 1, 1) := by decide +kernel
theorem dX11_wrong_34 : decode cX11_wrong 34 = .ok (.iaload, 1) := by decide +kernel
theorem dX11_wrong_35 : decode cX11_wrong 35 = .ok (.aload_n 0, 1) := by decide +kernel
theorem dX11_wrong_36 : decode cX11_wrong 36 = .ok (.getfield 29, 3) := by decide +kernel
theorem dX11_wrong_39 : decode cX11_wrong 39 = .ok (.iload_n 2, 1) := by decide +kernel
theorem dX11_wrong_40 : decode cX11_wrong 40 = .ok (.iaload, 1) := by decide +kernel
theorem dX11_wrong_41 : decode cX11_wrong 41 = .ok (.if_icmp .ge 28, 3) := by decide +kernel
theorem dX11_wrong_44 : decode cX11_wrong 44 = .ok (.aload_n 0, 1) := by decide +kernel
theorem dX11_wrong_45 : decode cX11_wrong 45 = .ok (.getfield 32, 3) := by decide +kernel
theorem dX11_wrong_48 : decode cX11_wrong 48 = .ok (.bipush 10, 2) := by decide +kernel
theorem dX11_wrong_50 : decode cX11_wrong 50 = .ok (.iload_n 2, 1) := by decide +kernel
theorem dX11_wrong_51 : decode cX11_wrong 51 = .ok (.imul, 1) := by decide +kernel
theorem dX11_wrong_52 : decode cX11_wrong 52 = .ok (.aload_n 0, 1) := by decide +kernel
theorem dX11_wrong_53 : decode cX11_wrong 53 = .ok (.getfield 23, 3) := by decide +kernel
theorem dX11_wrong_56 : decode cX11_wrong 56 = .ok (.iload_n 1, 1) := by decide +kernel
theorem dX11_wrong_57 : decode cX11_wrong 57 = .ok (.iaload, 1) := by decide +kernel
theorem dX11_wrong_58 : decode cX11_wrong 58 = .ok (.iadd, 1) := by decide +kernel
theorem dX11_wrong_59 : decode cX11_wrong 59 = .ok (.iaload, 1) := by decide +kernel
theorem dX11_wrong_60 : decode cX11_wrong 60 = .ok (.aload_n 0, 1) := by decide +kernel
theorem dX11_wrong_61 : decode cX11_wrong 61 = .ok (.getfield 26, 3) := by decide +kernel
theorem dX11_wrong_64 : decode cX11_wrong 64 = .ok (.iload_n 1, 1) := by decide +kernel
theorem dX11_wrong_65 : decode cX11_wrong 65 = .ok (.iaload, 1) := by decide +kernel
theorem dX11_wrong_66 : decode cX11_wrong 66 = .ok (.if_icmp .eq 5, 3) := by decide +kernel
theorem dX11_wrong_69 : decode cX11_wrong 69 = .ok (.iload_n 1, 1) := by decide +kernel
theorem dX11_wrong_70 : decode cX11_wrong 70 = .ok (.ireturn, 1) := by decide +kernel
theorem dX11_wrong_71 : decode cX11_wrong 71 = .ok (.iinc 1 1, 3) := by decide +kernel
theorem dX11_wrong_74 : decode cX11_wrong 74 = .ok (.goto (-68), 3) := by decide +kernel
theorem dX11_wrong_77 : decode cX11_wrong 77 = .ok (.iconst (-1), 1) := by decide +kernel
theorem dX11_wrong_78 : decode cX11_wrong 78 = .ok (.ireturn, 1) := by decide +kernel
set_option maxRecDepth 20000 in
theorem ggX11_told_X11_heirs : GoodIn wsX11_told wsX11_heirs := goodIn_r _ [9, 1, 10, 11, 12, 8, 13, 14, 15, 16, 17, 18, 19, 20, 21, 22, 23, 24, 107, 108, 109, 110, 111, 112, 113, 114, 115, 116, 117, 118, 119, 120, 121, 122, 123, 124] (by decide +kernel) (by decide +kernel)
set_option maxRecDepth 20000 in
theorem gX11_told_X11_heirs : GoodIn wsX11_told (wsV RX11 127 RX11 yX11_heirs wsX11_heirs) := goodIn_app (goodIn_of _ (by decide +kernel)) ggX11_told_X11_heirs
set_option maxRecDepth 20000 in
theorem ggX11_told_X11_coats : GoodIn wsX11_told wsX11_coats := goodIn_r _ [28, 1, 29, 30, 31, 8, 32, 33, 34, 35, 36, 37, 10, 11, 12, 13, 14, 15, 16, 17, 18, 19, 20, 21, 22, 23, 24, 38, 39, 40, 41, 42, 43, 44, 45, 46, 47, 48, 49, 50, 51, 52, 53, 54, 55, 107, 108, 109, 110, 111, 112, 113, 114, 115, 116, 117, 118, 119, 120, 121, 122, 123, 124] (by decide +kernel) (by decide +kernel)
set_option maxRecDepth 20000 in
theorem gX11_told_X11_coats : GoodIn wsX11_told (wsV RX11 131 RX11 yX11_coats wsX11_coats) := goodIn_app (goodIn_of _ (by decide +kernel)) ggX11_told_X11_coats
set_option maxRecDepth 20000 in
theorem ggX11_told_X11_narrows : GoodIn wsX11_told wsX11_narrows := goodIn_r _ [59, 1, 60, 61, 62, 63, 64, 65, 8, 66, 67, 68, 69, 70, 71, 72, 73, 74, 107, 108, 109, 110, 111, 112, 113, 114, 115, 116, 117, 118, 119, 120, 121, 122, 123, 124] (by decide +kernel) (by decide +kernel)
set_option maxRecDepth 20000 in
theorem gX11_told_X11_narrows : GoodIn wsX11_told (wsV RX11 134 RX11 yX11_narrows wsX11_narrows) := goodIn_app (goodIn_of _ (by decide +kernel)) ggX11_told_X11_narrows
set_option maxRecDepth 20000 in
theorem ggX11_told_X11_meant : GoodIn wsX11_told wsX11_meant := goodIn_r _ [78, 1, 29, 30, 31, 8, 32, 33, 34, 35, 36, 37, 10, 11, 12, 13, 14, 15, 16, 17, 18, 19, 20, 21, 22, 23, 24, 38, 39, 40, 41, 42, 43, 44, 45, 46, 47, 79, 80, 81, 82, 83, 84, 85, 86, 87, 88, 89, 90, 107, 108, 109, 110, 111, 112, 113, 114, 115, 116, 117, 118, 119, 120, 121, 122, 123, 124] (by decide +kernel) (by decide +kernel)
set_option maxRecDepth 20000 in
theorem gX11_told_X11_meant : GoodIn wsX11_told (wsV RX11 137 RX11 yX11_meant wsX11_meant) := goodIn_app (goodIn_of _ (by decide +kernel)) ggX11_told_X11_meant
set_option maxRecDepth 20000 in
theorem ggX11_told_X11_likely : GoodIn wsX11_told wsX11_likely := goodIn_r _ [94, 1, 37, 29, 30, 31, 8, 32, 33, 34, 35, 36, 10, 11, 12, 13, 14, 15, 16, 17, 18, 19, 20, 21, 22, 23, 24, 38, 39, 40, 41, 42, 43, 44, 45, 46, 47, 95, 96, 97, 98, 99, 107, 108, 109, 110, 111, 112, 113, 114, 115, 116, 117, 118, 119, 120, 121, 122, 123, 124] (by decide +kernel) (by decide +kernel)
set_option maxRecDepth 20000 in
theorem gX11_told_X11_likely : GoodIn wsX11_told (wsV RX11 141 RX11 yX11_likely wsX11_likely) := goodIn_app (goodIn_of _ (by decide +kernel)) ggX11_told_X11_likely
set_option maxRecDepth 20000 in
theorem ggX11_told_X11_wrong : GoodIn wsX11_told wsX11_wrong := goodIn_r _ [103, 2, 104, 105, 37, 42, 106, 29, 30, 31, 8, 32, 1, 33, 34, 35, 36, 10, 11, 12, 13, 14, 15, 16, 17, 18, 19, 20, 21, 22, 23, 24, 38, 39, 40, 41, 43, 44, 45, 46, 47, 107, 108, 109, 110, 111, 112, 113, 114, 115, 116, 117, 118, 119, 120, 121, 122, 123, 124] (by decide +kernel) (by decide +kernel)
set_option maxRecDepth 20000 in
theorem gX11_told_X11_wrong : GoodIn wsX11_told (wsV RX11 144 RX11 yX11_wrong wsX11_wrong) := goodIn_app (goodIn_of _ (by decide +kernel)) ggX11_told_X11_wrong
theorem dX11_told_0 : decode cX11_told 0 = .ok (.iload_n 1, 1) := by decide +kernel
theorem dX11_told_1 : decode cX11_told 1 = .ok (.tableswitch 139 0 11 #[63, 70, 77, 84, 89, 94, 107, 113, 119, 124, 129, 134], 63) := by decide +kernel
theorem dX11_told_64 : decode cX11_told 64 = .ok (.aload_n 0, 1) := by decide +kernel
theorem dX11_told_65 : decode cX11_told 65 = .ok (.getfield 7, 3) := by decide +kernel
theorem dX11_told_68 : decode cX11_told 68 = .ok (.iconst 0, 1) := by decide +kernel
theorem dX11_told_69 : decode cX11_told 69 = .ok (.iaload, 1) := by decide +kernel
theorem dX11_told_70 : decode cX11_told 70 = .ok (.ireturn, 1) := by decide +kernel
theorem dX11_told_71 : decode cX11_told 71 = .ok (.aload_n 0, 1) := by decide +kernel
theorem dX11_told_72 : decode cX11_told 72 = .ok (.getfield 7, 3) := by decide +kernel
theorem dX11_told_75 : decode cX11_told 75 = .ok (.iconst 1, 1) := by decide +kernel
theorem dX11_told_76 : decode cX11_told 76 = .ok (.iaload, 1) := by decide +kernel
theorem dX11_told_77 : decode cX11_told 77 = .ok (.ireturn, 1) := by decide +kernel
theorem dX11_told_78 : decode cX11_told 78 = .ok (.aload_n 0, 1) := by decide +kernel
theorem dX11_told_79 : decode cX11_told 79 = .ok (.getfield 7, 3) := by decide +kernel
theorem dX11_told_82 : decode cX11_told 82 = .ok (.iconst 2, 1) := by decide +kernel
theorem dX11_told_83 : decode cX11_told 83 = .ok (.iaload, 1) := by decide +kernel
theorem dX11_told_84 : decode cX11_told 84 = .ok (.ireturn, 1) := by decide +kernel
theorem dX11_told_85 : decode cX11_told 85 = .ok (.aload_n 0, 1) := by decide +kernel
theorem dX11_told_86 : decode cX11_told 86 = .ok (.invokevirtual 127, 3) := by decide +kernel
theorem dX11_told_89 : decode cX11_told 89 = .ok (.ireturn, 1) := by decide +kernel
theorem dX11_told_90 : decode cX11_told 90 = .ok (.aload_n 0, 1) := by decide +kernel
theorem dX11_told_91 : decode cX11_told 91 = .ok (.invokevirtual 131, 3) := by decide +kernel
theorem dX11_told_94 : decode cX11_told 94 = .ok (.ireturn, 1) := by decide +kernel
theorem dX11_told_95 : decode cX11_told 95 = .ok (.aload_n 0, 1) := by decide +kernel
theorem dX11_told_96 : decode cX11_told 96 = .ok (.invokevirtual 134, 3) := by decide +kernel
theorem dX11_told_99 : decode cX11_told 99 = .ok (.ifCond .eq 7, 3) := by decide +kernel
theorem dX11_told_102 : decode cX11_told 102 = .ok (.iconst 0, 1) := by decide +kernel
theorem dX11_told_103 : decode cX11_told 103 = .ok (.goto 4, 3) := by decide +kernel
theorem dX11_told_106 : decode cX11_told 106 = .ok (.iconst 1, 1) := by decide +kernel
theorem dX11_told_107 : decode cX11_told 107 = .ok (.ireturn, 1) := by decide +kernel
theorem dX11_told_108 : decode cX11_told 108 = .ok (.aload_n 0, 1) := by decide +kernel
theorem dX11_told_109 : decode cX11_told 109 = .ok (.iconst 1, 1) := by decide +kernel
theorem dX11_told_110 : decode cX11_told 110 = .ok (.invokevirtual 137, 3) := by decide +kernel
theorem dX11_told_113 : decode cX11_told 113 = .ok (.ireturn, 1) := by decide +kernel
theorem dX11_told_114 : decode cX11_told 114 = .ok (.aload_n 0, 1) := by decide +kernel
theorem dX11_told_115 : decode cX11_told 115 = .ok (.iconst 0, 1) := by decide +kernel
theorem dX11_told_116 : decode cX11_told 116 = .ok (.invokevirtual 137, 3) := by decide +kernel
theorem dX11_told_119 : decode cX11_told 119 = .ok (.ireturn, 1) := by decide +kernel
theorem dX11_told_120 : decode cX11_told 120 = .ok (.aload_n 0, 1) := by decide +kernel
theorem dX11_told_121 : decode cX11_told 121 = .ok (.invokevirtual 141, 3) := by decide +kernel
theorem dX11_told_124 : decode cX11_told 124 = .ok (.ireturn, 1) := by decide +kernel
theorem dX11_told_125 : decode cX11_told 125 = .ok (.aload_n 0, 1) := by decide +kernel
theorem dX11_told_126 : decode cX11_told 126 = .ok (.getfield 124, 3) := by decide +kernel
theorem dX11_told_129 : decode cX11_told 129 = .ok (.ireturn, 1) := by decide +kernel
theorem dX11_told_130 : decode cX11_told 130 = .ok (.aload_n 0, 1) := by decide +kernel
theorem dX11_told_131 : decode cX11_told 131 = .ok (.invokevirtual 144, 3) := by decide +kernel
theorem dX11_told_134 : decode cX11_told 134 = .ok (.ireturn, 1) := by decide +kernel
theorem dX11_told_135 : decode cX11_told 135 = .ok (.aload_n 0, 1) := by decide +kernel
theorem dX11_told_136 : decode cX11_told 136 = .ok (.getfield 53, 3) := by decide +kernel
theorem dX11_told_139 : decode cX11_told 139 = .ok (.ireturn, 1) := by decide +kernel
theorem dX11_told_140 : decode cX11_told 140 = .ok (.ldc 147, 2) := by decide +kernel
theorem dX11_told_142 : decode cX11_told 142 = .ok (.ireturn, 1) := by decide +kernel
theorem dX11_children_0 : decode cX11_children 0 = .ok (.iconst 0, 1) := by decide +kernel
theorem dX11_children_1 : decode cX11_children 1 = .ok (.istore_n 2, 1) := by decide +kernel
theorem dX11_children_2 : decode cX11_children 2 = .ok (.iconst 0, 1) := by decide +kernel
theorem dX11_children_3 : decode cX11_children 3 = .ok (.istore_n 3, 1) := by decide +kernel
theorem dX11_children_4 : decode cX11_children 4 = .ok (.iload_n 3, 1) := by decide +kernel
theorem dX11_children_5 : decode cX11_children 5 = .ok (.aload_n 0, 1) := by decide +kernel
theorem dX11_children_6 : decode cX11_children 6 = .ok (.getfield 7, 3) := by decide +kernel
theorem dX11_children_9 : decode cX11_children 9 = .ok (.iconst 0, 1) := by decide +kernel
theorem dX11_children_10 : decode cX11_children 10 = .ok (.iaload, 1) := by decide +kernel
theorem dX11_children_11 : decode cX11_children 11 = .ok (.if_icmp .ge 45, 3) := by decide +kernel
theorem dX11_children_14 : decode cX11_children 14 = .ok (.iload_n 2, 1) := by decide +kernel
theorem dX11_children_15 : decode cX11_children 15 = .ok (.aload_n 0, 1) := by decide +kernel
theorem dX11_children_16 : decode cX11_children 16 = .ok (.getfield 7, 3) := by decide +kernel
theorem dX11_children_19 : decode cX11_children 19 = .ok (.bipush 45, 2) := by decide +kernel
theorem dX11_children_21 : decode cX11_children 21 = .ok (.iload_n 3, 1) := by decide +kernel
theorem dX11_children_22 : decode cX11_children 22 = .ok (.iadd, 1) := by decide +kernel
theorem dX11_children_23 : decode cX11_children 23 = .ok (.iaload, 1) := by decide +kernel
theorem dX11_children_24 : decode cX11_children 24 = .ok (.iload_n 1, 1) := by decide +kernel
theorem dX11_children_25 : decode cX11_children 25 = .ok (.if_icmp .eq 16, 3) := by decide +kernel
theorem dX11_children_28 : decode cX11_children 28 = .ok (.aload_n 0, 1) := by decide +kernel
theorem dX11_children_29 : decode cX11_children 29 = .ok (.getfield 7, 3) := by decide +kernel
theorem dX11_children_32 : decode cX11_children 32 = .ok (.bipush 61, 2) := by decide +kernel
theorem dX11_children_34 : decode cX11_children 34 = .ok (.iload_n 3, 1) := by decide +kernel
theorem dX11_children_35 : decode cX11_children 35 = .ok (.iadd, 1) := by decide +kernel
theorem dX11_children_36 : decode cX11_children 36 = .ok (.iaload, 1) := by decide +kernel
theorem dX11_children_37 : decode cX11_children 37 = .ok (.iload_n 1, 1) := by decide +kernel
theorem dX11_children_38 : decode cX11_children 38 = .ok (.if_icmp .ne 9, 3) := by decide +kernel
theorem dX11_children_41 : decode cX11_children 41 = .ok (.iconst 1, 1) := by decide +kernel
theorem dX11_children_42 : decode cX11_children 42 = .ok (.iload_n 3, 1) := by decide +kernel
theorem dX11_children_43 : decode cX11_children 43 = .ok (.ishl, 1) := by decide +kernel
theorem dX11_children_44 : decode cX11_children 44 = .ok (.goto 4, 3) := by decide +kernel
theorem dX11_children_47 : decode cX11_children 47 = .ok (.iconst 0, 1) := by decide +kernel
theorem dX11_children_48 : decode cX11_children 48 = .ok (.ior, 1) := by decide +kernel
theorem dX11_children_49 : decode cX11_children 49 = .ok (.istore_n 2, 1) := by decide +kernel
theorem dX11_children_50 : decode cX11_children 50 = .ok (.iinc 3 1, 3) := by decide +kernel
theorem dX11_children_53 : decode cX11_children 53 = .ok (.goto (-49), 3) := by decide +kernel
theorem dX11_children_56 : decode cX11_children 56 = .ok (.iload_n 2, 1) := by decide +kernel
theorem dX11_children_57 : decode cX11_children 57 = .ok (.ireturn, 1) := by decide +kernel
set_option maxRecDepth 20000 in
theorem ggX11_narrowed_X11_narrows : GoodIn wsX11_narrowed wsX11_narrows := goodIn_r _ [7, 8, 1, 2, 9, 10, 11, 12, 6, 13, 14, 15, 16, 17, 18, 19, 20, 21, 22, 23, 24, 25, 26, 27, 28, 29, 30, 31, 32, 33, 34, 35, 36, 37, 38, 39] (by decide +kernel) (by decide +kernel)
set_option maxRecDepth 20000 in
theorem gX11_narrowed_X11_narrows : GoodIn wsX11_narrowed (wsV RX11 134 RX11 yX11_narrows wsX11_narrows) := goodIn_app (goodIn_of _ (by decide +kernel)) ggX11_narrowed_X11_narrows
theorem dX11_narrowed_0 : decode cX11_narrowed 0 = .ok (.aload_n 0, 1) := by decide +kernel
theorem dX11_narrowed_1 : decode cX11_narrowed 1 = .ok (.invokevirtual 134, 3) := by decide +kernel
theorem dX11_narrowed_4 : decode cX11_narrowed 4 = .ok (.ifCond .ne 5, 3) := by decide +kernel
theorem dX11_narrowed_7 : decode cX11_narrowed 7 = .ok (.iconst (-1), 1) := by decide +kernel
theorem dX11_narrowed_8 : decode cX11_narrowed 8 = .ok (.ireturn, 1) := by decide +kernel
theorem dX11_narrowed_9 : decode cX11_narrowed 9 = .ok (.iload_n 2, 1) := by decide +kernel
theorem dX11_narrowed_10 : decode cX11_narrowed 10 = .ok (.bipush 14, 2) := by decide +kernel
theorem dX11_narrowed_12 : decode cX11_narrowed 12 = .ok (.if_icmp .ge 7, 3) := by decide +kernel
theorem dX11_narrowed_15 : decode cX11_narrowed 15 = .ok (.iload_n 1, 1) := by decide +kernel
theorem dX11_narrowed_16 : decode cX11_narrowed 16 = .ok (.goto 7, 3) := by decide +kernel
theorem dX11_narrowed_19 : decode cX11_narrowed 19 = .ok (.bipush 16, 2) := by decide +kernel
theorem dX11_narrowed_21 : decode cX11_narrowed 21 = .ok (.iload_n 1, 1) := by decide +kernel
theorem dX11_narrowed_22 : decode cX11_narrowed 22 = .ok (.iadd, 1) := by decide +kernel
theorem dX11_narrowed_23 : decode cX11_narrowed 23 = .ok (.istore_n 3, 1) := by decide +kernel
theorem dX11_narrowed_24 : decode cX11_narrowed 24 = .ok (.iload_n 2, 1) := by decide +kernel
theorem dX11_narrowed_25 : decode cX11_narrowed 25 = .ok (.iconst 2, 1) := by decide +kernel
theorem dX11_narrowed_26 : decode cX11_narrowed 26 = .ok (.irem, 1) := by decide +kernel
theorem dX11_narrowed_27 : decode cX11_narrowed 27 = .ok (.ifCond .ne 12, 3) := by decide +kernel
theorem dX11_narrowed_30 : decode cX11_narrowed 30 = .ok (.aload_n 0, 1) := by decide +kernel
theorem dX11_narrowed_31 : decode cX11_narrowed 31 = .ok (.getfield 38, 3) := by decide +kernel
theorem dX11_narrowed_34 : decode cX11_narrowed 34 = .ok (.iload_n 3, 1) := by decide +kernel
theorem dX11_narrowed_35 : decode cX11_narrowed 35 = .ok (.iaload, 1) := by decide +kernel
theorem dX11_narrowed_36 : decode cX11_narrowed 36 = .ok (.goto 9, 3) := by decide +kernel
theorem dX11_narrowed_39 : decode cX11_narrowed 39 = .ok (.aload_n 0, 1) := by decide +kernel
theorem dX11_narrowed_40 : decode cX11_narrowed 40 = .ok (.getfield 41, 3) := by decide +kernel
theorem dX11_narrowed_43 : decode cX11_narrowed 43 = .ok (.iload_n 3, 1) := by decide +kernel
theorem dX11_narrowed_44 : decode cX11_narrowed 44 = .ok (.iaload, 1) := by decide +kernel
theorem dX11_narrowed_45 : decode cX11_narrowed 45 = .ok (.ireturn, 1) := by decide +kernel
set_option maxRecDepth 20000 in
theorem ggX11_person_X11_isOne : GoodIn wsX11_person wsX11_isOne := goodIn_r _ [11, 2, 12, 13, 10, 14, 81, 82, 83, 84, 85, 86, 87, 88, 89, 90, 91, 92, 93, 94, 95, 96, 97, 98] (by decide +kernel) (by decide +kernel)
set_option maxRecDepth 20000 in
theorem gX11_person_X11_isOne : GoodIn wsX11_person (wsV RX11 65 RX11 yX11_isOne wsX11_isOne) := goodIn_app (goodIn_of _ (by decide +kernel)) ggX11_person_X11_isOne
set_option maxRecDepth 20000 in
theorem ggX11_person_X11_lays : GoodIn wsX11_person wsX11_lays := goodIn_r _ [18, 2, 19, 20, 21, 10, 22, 3, 23, 24, 25, 26, 27, 28, 29, 30, 7, 8, 9, 11, 12, 13, 14, 31, 32, 33, 34, 35, 36, 37, 38, 39, 40, 81, 82, 83, 84, 85, 86, 87, 88, 89, 90, 91, 92, 93, 94, 95, 96, 97, 98] (by decide +kernel) (by decide +kernel)
set_option maxRecDepth 20000 in
theorem gX11_person_X11_lays : GoodIn wsX11_person (wsV RX11 90 RX11 yX11_lays wsX11_lays) := goodIn_app (goodIn_of _ (by decide +kernel)) ggX11_person_X11_lays
set_option maxRecDepth 20000 in
theorem ggX11_person_X11_same : GoodIn wsX11_person wsX11_same := goodIn_r _ [44, 2, 45, 46, 47, 10, 48, 3, 35, 81, 82, 83, 84, 85, 86, 87, 88, 89, 90, 91, 92, 93, 94, 95, 96, 97, 98] (by decide +kernel) (by decide +kernel)
set_option maxRecDepth 20000 in
theorem gX11_person_X11_same : GoodIn wsX11_person (wsV RX11 93 RX11 yX11_same wsX11_same) := goodIn_app (goodIn_of _ (by decide +kernel)) ggX11_person_X11_same
set_option maxRecDepth 20000 in
theorem ggX11_person_X11_like : GoodIn wsX11_person wsX11_like := goodIn_r _ [52, 3, 53, 2, 35, 81, 82, 83, 84, 85, 86, 87, 88, 89, 90, 91, 92, 93, 94, 95, 96, 97, 98] (by decide +kernel) (by decide +kernel)
set_option maxRecDepth 20000 in
theorem gX11_person_X11_like : GoodIn wsX11_person (wsV RX11 121 RX11 yX11_like wsX11_like) := goodIn_app (goodIn_of _ (by decide +kernel)) ggX11_person_X11_like
set_option maxRecDepth 20000 in
theorem ggX11_person_X11_children : GoodIn wsX11_person wsX11_children := goodIn_r _ [57, 2, 81, 82, 83, 84, 85, 86, 87, 88, 89, 90, 91, 92, 93, 94, 95, 96, 97, 98] (by decide +kernel) (by decide +kernel)
set_option maxRecDepth 20000 in
theorem gX11_person_X11_children : GoodIn wsX11_person (wsV RX11 149 RX11 yX11_children wsX11_children) := goodIn_app (goodIn_of _ (by decide +kernel)) ggX11_person_X11_children
set_option maxRecDepth 20000 in
theorem ggX11_person_X11_in : GoodIn wsX11_person wsX11_in := goodIn_r _ [14] (by decide +kernel) (by decide +kernel)
set_option maxRecDepth 20000 in
theorem gX11_person_X11_in : GoodIn wsX11_person (va_wsS RX11 61 yX11_in wsX11_in) := goodIn_app (goodIn_of _ (by decide +kernel)) ggX11_person_X11_in
set_option maxRecDepth 20000 in
theorem ggX11_person_X11_narrowed : GoodIn wsX11_person wsX11_narrowed := goodIn_r _ [61, 62, 63, 64, 65, 66, 10, 67, 2, 68, 69, 70, 71, 72, 73, 74, 75, 76, 77, 78, 79, 80, 81, 82, 83, 84, 85, 86, 87, 88, 89, 90, 91, 92, 93, 94, 95, 96, 97, 98] (by decide +kernel) (by decide +kernel)
set_option maxRecDepth 20000 in
theorem gX11_person_X11_narrowed : GoodIn wsX11_person (wsV RX11 156 RX11 yX11_narrowed wsX11_narrowed) := goodIn_app (goodIn_of _ (by decide +kernel)) ggX11_person_X11_narrowed
theorem dX11_person_0 : decode cX11_person 0 = .ok (.aload_n 0, 1) := by decide +kernel
theorem dX11_person_1 : decode cX11_person 1 = .ok (.iload_n 1, 1) := by decide +kernel
theorem dX11_person_2 : decode cX11_person 2 = .ok (.invokevirtual 65, 3) := by decide +kernel
theorem dX11_person_5 : decode cX11_person 5 = .ok (.ifCond .ne 6, 3) := by decide +kernel
theorem dX11_person_8 : decode cX11_person 8 = .ok (.ldc 148, 2) := by decide +kernel
theorem dX11_person_10 : decode cX11_person 10 = .ok (.ireturn, 1) := by decide +kernel
theorem dX11_person_11 : decode cX11_person 11 = .ok (.aload_n 0, 1) := by decide +kernel
theorem dX11_person_12 : decode cX11_person 12 = .ok (.invokevirtual 90, 3) := by decide +kernel
theorem dX11_person_15 : decode cX11_person 15 = .ok (.iload_n 2, 1) := by decide +kernel
theorem dX11_person_16 : decode cX11_person 16 = .ok (.tableswitch 181 0 11 #[64, 74, 84, 94, 104, 111, 117, 123, 129, 141, 155, 167], 64) := by decide +kernel
theorem dX11_person_80 : decode cX11_person 80 = .ok (.aload_n 0, 1) := by decide +kernel
theorem dX11_person_81 : decode cX11_person 81 = .ok (.getfield 7, 3) := by decide +kernel
theorem dX11_person_84 : decode cX11_person 84 = .ok (.bipush 13, 2) := by decide +kernel
theorem dX11_person_86 : decode cX11_person 86 = .ok (.iload_n 1, 1) := by decide +kernel
theorem dX11_person_87 : decode cX11_person 87 = .ok (.iadd, 1) := by decide +kernel
theorem dX11_person_88 : decode cX11_person 88 = .ok (.iaload, 1) := by decide +kernel
theorem dX11_person_89 : decode cX11_person 89 = .ok (.ireturn, 1) := by decide +kernel
theorem dX11_person_90 : decode cX11_person 90 = .ok (.aload_n 0, 1) := by decide +kernel
theorem dX11_person_91 : decode cX11_person 91 = .ok (.getfield 7, 3) := by decide +kernel
theorem dX11_person_94 : decode cX11_person 94 = .ok (.bipush 29, 2) := by decide +kernel
theorem dX11_person_96 : decode cX11_person 96 = .ok (.iload_n 1, 1) := by decide +kernel
theorem dX11_person_97 : decode cX11_person 97 = .ok (.iadd, 1) := by decide +kernel
theorem dX11_person_98 : decode cX11_person 98 = .ok (.iaload, 1) := by decide +kernel
theorem dX11_person_99 : decode cX11_person 99 = .ok (.ireturn, 1) := by decide +kernel
theorem dX11_person_100 : decode cX11_person 100 = .ok (.aload_n 0, 1) := by decide +kernel
theorem dX11_person_101 : decode cX11_person 101 = .ok (.getfield 7, 3) := by decide +kernel
theorem dX11_person_104 : decode cX11_person 104 = .ok (.bipush 45, 2) := by decide +kernel
theorem dX11_person_106 : decode cX11_person 106 = .ok (.iload_n 1, 1) := by decide +kernel
theorem dX11_person_107 : decode cX11_person 107 = .ok (.iadd, 1) := by decide +kernel
theorem dX11_person_108 : decode cX11_person 108 = .ok (.iaload, 1) := by decide +kernel
theorem dX11_person_109 : decode cX11_person 109 = .ok (.ireturn, 1) := by decide +kernel
theorem dX11_person_110 : decode cX11_person 110 = .ok (.aload_n 0, 1) := by decide +kernel
theorem dX11_person_111 : decode cX11_person 111 = .ok (.getfield 7, 3) := by decide +kernel
theorem dX11_person_114 : decode cX11_person 114 = .ok (.bipush 61, 2) := by decide +kernel
theorem dX11_person_116 : decode cX11_person 116 = .ok (.iload_n 1, 1) := by decide +kernel
theorem dX11_person_117 : decode cX11_person 117 = .ok (.iadd, 1) := by decide +kernel
theorem dX11_person_118 : decode cX11_person 118 = .ok (.iaload, 1) := by decide +kernel
theorem dX11_person_119 : decode cX11_person 119 = .ok (.ireturn, 1) := by decide +kernel
theorem dX11_person_120 : decode cX11_person 120 = .ok (.aload_n 0, 1) := by decide +kernel
theorem dX11_person_121 : decode cX11_person 121 = .ok (.getfield 29, 3) := by decide +kernel
theorem dX11_person_124 : decode cX11_person 124 = .ok (.iload_n 1, 1) := by decide +kernel
theorem dX11_person_125 : decode cX11_person 125 = .ok (.iaload, 1) := by decide +kernel
theorem dX11_person_126 : decode cX11_person 126 = .ok (.ireturn, 1) := by decide +kernel
theorem dX11_person_127 : decode cX11_person 127 = .ok (.aload_n 0, 1) := by decide +kernel
theorem dX11_person_128 : decode cX11_person 128 = .ok (.iload_n 1, 1) := by decide +kernel
theorem dX11_person_129 : decode cX11_person 129 = .ok (.invokevirtual 93, 3) := by decide +kernel
theorem dX11_person_132 : decode cX11_person 132 = .ok (.ireturn, 1) := by decide +kernel
theorem dX11_person_133 : decode cX11_person 133 = .ok (.aload_n 0, 1) := by decide +kernel
theorem dX11_person_134 : decode cX11_person 134 = .ok (.iload_n 1, 1) := by decide +kernel
theorem dX11_person_135 : decode cX11_person 135 = .ok (.invokevirtual 121, 3) := by decide +kernel
theorem dX11_person_138 : decode cX11_person 138 = .ok (.ireturn, 1) := by decide +kernel
theorem dX11_person_139 : decode cX11_person 139 = .ok (.aload_n 0, 1) := by decide +kernel
theorem dX11_person_140 : decode cX11_person 140 = .ok (.iload_n 1, 1) := by decide +kernel
theorem dX11_person_141 : decode cX11_person 141 = .ok (.invokevirtual 149, 3) := by decide +kernel
theorem dX11_person_144 : decode cX11_person 144 = .ok (.ireturn, 1) := by decide +kernel
theorem dX11_person_145 : decode cX11_person 145 = .ok (.aload_n 0, 1) := by decide +kernel
theorem dX11_person_146 : decode cX11_person 146 = .ok (.getfield 7, 3) := by decide +kernel
theorem dX11_person_149 : decode cX11_person 149 = .ok (.bipush 77, 2) := by decide +kernel
theorem dX11_person_151 : decode cX11_person 151 = .ok (.iconst 2, 1) := by decide +kernel
theorem dX11_person_152 : decode cX11_person 152 = .ok (.iload_n 1, 1) := by decide +kernel
theorem dX11_person_153 : decode cX11_person 153 = .ok (.imul, 1) := by decide +kernel
theorem dX11_person_154 : decode cX11_person 154 = .ok (.iadd, 1) := by decide +kernel
theorem dX11_person_155 : decode cX11_person 155 = .ok (.iaload, 1) := by decide +kernel
theorem dX11_person_156 : decode cX11_person 156 = .ok (.ireturn, 1) := by decide +kernel
theorem dX11_person_157 : decode cX11_person 157 = .ok (.aload_n 0, 1) := by decide +kernel
theorem dX11_person_158 : decode cX11_person 158 = .ok (.getfield 7, 3) := by decide +kernel
theorem dX11_person_161 : decode cX11_person 161 = .ok (.bipush 77, 2) := by decide +kernel
theorem dX11_person_163 : decode cX11_person 163 = .ok (.iconst 2, 1) := by decide +kernel
theorem dX11_person_164 : decode cX11_person 164 = .ok (.iload_n 1, 1) := by decide +kernel
theorem dX11_person_165 : decode cX11_person 165 = .ok (.imul, 1) := by decide +kernel
theorem dX11_person_166 : decode cX11_person 166 = .ok (.iadd, 1) := by decide +kernel
theorem dX11_person_167 : decode cX11_person 167 = .ok (.iconst 1, 1) := by decide +kernel
theorem dX11_person_168 : decode cX11_person 168 = .ok (.iadd, 1) := by decide +kernel
theorem dX11_person_169 : decode cX11_person 169 = .ok (.iaload, 1) := by decide +kernel
theorem dX11_person_170 : decode cX11_person 170 = .ok (.ireturn, 1) := by decide +kernel
theorem dX11_person_171 : decode cX11_person 171 = .ok (.aload_n 0, 1) := by decide +kernel
theorem dX11_person_172 : decode cX11_person 172 = .ok (.getfield 7, 3) := by decide +kernel
theorem dX11_person_175 : decode cX11_person 175 = .ok (.bipush 109, 2) := by decide +kernel
theorem dX11_person_177 : decode cX11_person 177 = .ok (.iconst 2, 1) := by decide +kernel
theorem dX11_person_178 : decode cX11_person 178 = .ok (.iload_n 1, 1) := by decide +kernel
theorem dX11_person_179 : decode cX11_person 179 = .ok (.imul, 1) := by decide +kernel
theorem dX11_person_180 : decode cX11_person 180 = .ok (.iadd, 1) := by decide +kernel
theorem dX11_person_181 : decode cX11_person 181 = .ok (.iaload, 1) := by decide +kernel
theorem dX11_person_182 : decode cX11_person 182 = .ok (.ireturn, 1) := by decide +kernel
theorem dX11_person_183 : decode cX11_person 183 = .ok (.aload_n 0, 1) := by decide +kernel
theorem dX11_person_184 : decode cX11_person 184 = .ok (.getfield 7, 3) := by decide +kernel
theorem dX11_person_187 : decode cX11_person 187 = .ok (.bipush 109, 2) := by decide +kernel
theorem dX11_person_189 : decode cX11_person 189 = .ok (.iconst 2, 1) := by decide +kernel
theorem dX11_person_190 : decode cX11_person 190 = .ok (.iload_n 1, 1) := by decide +kernel
theorem dX11_person_191 : decode cX11_person 191 = .ok (.imul, 1) := by decide +kernel
theorem dX11_person_192 : decode cX11_person 192 = .ok (.iadd, 1) := by decide +kernel
theorem dX11_person_193 : decode cX11_person 193 = .ok (.iconst 1, 1) := by decide +kernel
theorem dX11_person_194 : decode cX11_person 194 = .ok (.iadd, 1) := by decide +kernel
theorem dX11_person_195 : decode cX11_person 195 = .ok (.iaload, 1) := by decide +kernel
theorem dX11_person_196 : decode cX11_person 196 = .ok (.ireturn, 1) := by decide +kernel
theorem dX11_person_197 : decode cX11_person 197 = .ok (.iload_n 2, 1) := by decide +kernel
theorem dX11_person_198 : decode cX11_person 198 = .ok (.i2l, 1) := by decide +kernel
theorem dX11_person_199 : decode cX11_person 199 = .ok (.ldc2_w 152, 3) := by decide +kernel
theorem dX11_person_202 : decode cX11_person 202 = .ok (.ldc2_w 154, 3) := by decide +kernel
theorem dX11_person_205 : decode cX11_person 205 = .ok (.invokestatic 61, 3) := by decide +kernel
theorem dX11_person_208 : decode cX11_person 208 = .ok (.ifCond .eq 12, 3) := by decide +kernel
theorem dX11_person_211 : decode cX11_person 211 = .ok (.aload_n 0, 1) := by decide +kernel
theorem dX11_person_212 : decode cX11_person 212 = .ok (.iload_n 1, 1) := by decide +kernel
theorem dX11_person_213 : decode cX11_person 213 = .ok (.iload_n 2, 1) := by decide +kernel
theorem dX11_person_214 : decode cX11_person 214 = .ok (.invokevirtual 156, 3) := by decide +kernel
theorem dX11_person_217 : decode cX11_person 217 = .ok (.goto 5, 3) := by decide +kernel
theorem dX11_person_220 : decode cX11_person 220 = .ok (.ldc 147, 2) := by decide +kernel
theorem dX11_person_222 : decode cX11_person 222 = .ok (.ireturn, 1) := by decide +kernel
set_option maxRecDepth 20000 in
theorem ggX11_quarter_X11_isOne : GoodIn wsX11_quarter wsX11_isOne := goodIn_r _ [10, 11, 12, 13, 9, 14, 39, 40, 41, 42, 43, 44, 45, 46, 47, 48, 49, 50, 51, 52, 53, 54, 55, 56] (by decide +kernel) (by decide +kernel)
set_option maxRecDepth 20000 in
theorem gX11_quarter_X11_isOne : GoodIn wsX11_quarter (wsV RX11 65 RX11 yX11_isOne wsX11_isOne) := goodIn_app (goodIn_of _ (by decide +kernel)) ggX11_quarter_X11_isOne
set_option maxRecDepth 20000 in
theorem ggX11_quarter_X11_in : GoodIn wsX11_quarter wsX11_in := goodIn_r _ [14] (by decide +kernel) (by decide +kernel)
set_option maxRecDepth 20000 in
theorem gX11_quarter_X11_in : GoodIn wsX11_quarter (va_wsS RX11 61 yX11_in wsX11_in) := goodIn_app (goodIn_of _ (by decide +kernel)) ggX11_quarter_X11_in
set_option maxRecDepth 20000 in
theorem ggX11_quarter_X11_lays : GoodIn wsX11_quarter wsX11_lays := goodIn_r _ [18, 11, 19, 20, 21, 9, 22, 3, 23, 24, 25, 26, 27, 28, 29, 30, 6, 7, 8, 10, 12, 13, 14, 31, 32, 33, 34, 4, 5, 35, 36, 37, 38, 39, 40, 41, 42, 43, 44, 45, 46, 47, 48, 49, 50, 51, 52, 53, 54, 55, 56] (by decide +kernel) (by decide +kernel)
set_option maxRecDepth 20000 in
theorem gX11_quarter_X11_lays : GoodIn wsX11_quarter (wsV RX11 90 RX11 yX11_lays wsX11_lays) := goodIn_app (goodIn_of _ (by decide +kernel)) ggX11_quarter_X11_lays
theorem dX11_quarter_0 : decode cX11_quarter 0 = .ok (.aload_n 0, 1) := by decide +kernel
theorem dX11_quarter_1 : decode cX11_quarter 1 = .ok (.iload_n 1, 1) := by decide +kernel
theorem dX11_quarter_2 : decode cX11_quarter 2 = .ok (.invokevirtual 65, 3) := by decide +kernel
theorem dX11_quarter_5 : decode cX11_quarter 5 = .ok (.ifCond .ne 6, 3) := by decide +kernel
theorem dX11_quarter_8 : decode cX11_quarter 8 = .ok (.ldc 148, 2) := by decide +kernel
theorem dX11_quarter_10 : decode cX11_quarter 10 = .ok (.ireturn, 1) := by decide +kernel
theorem dX11_quarter_11 : decode cX11_quarter 11 = .ok (.iload_n 3, 1) := by decide +kernel
theorem dX11_quarter_12 : decode cX11_quarter 12 = .ok (.i2l, 1) := by decide +kernel
theorem dX11_quarter_13 : decode cX11_quarter 13 = .ok (.lconst 0, 1) := by decide +kernel
theorem dX11_quarter_14 : decode cX11_quarter 14 = .ok (.lconst 1, 1) := by decide +kernel
theorem dX11_quarter_15 : decode cX11_quarter 15 = .ok (.invokestatic 61, 3) := by decide +kernel
theorem dX11_quarter_18 : decode cX11_quarter 18 = .ok (.ifCond .ne 6, 3) := by decide +kernel
theorem dX11_quarter_21 : decode cX11_quarter 21 = .ok (.ldc 147, 2) := by decide +kernel
theorem dX11_quarter_23 : decode cX11_quarter 23 = .ok (.ireturn, 1) := by decide +kernel
theorem dX11_quarter_24 : decode cX11_quarter 24 = .ok (.aload_n 0, 1) := by decide +kernel
theorem dX11_quarter_25 : decode cX11_quarter 25 = .ok (.invokevirtual 90, 3) := by decide +kernel
theorem dX11_quarter_28 : decode cX11_quarter 28 = .ok (.iload_n 2, 1) := by decide +kernel
theorem dX11_quarter_29 : decode cX11_quarter 29 = .ok (.i2l, 1) := by decide +kernel
theorem dX11_quarter_30 : decode cX11_quarter 30 = .ok (.lconst 0, 1) := by decide +kernel
theorem dX11_quarter_31 : decode cX11_quarter 31 = .ok (.aload_n 0, 1) := by decide +kernel
theorem dX11_quarter_32 : decode cX11_quarter 32 = .ok (.getfield 29, 3) := by decide +kernel
theorem dX11_quarter_35 : decode cX11_quarter 35 = .ok (.iload_n 1, 1) := by decide +kernel
theorem dX11_quarter_36 : decode cX11_quarter 36 = .ok (.iaload, 1) := by decide +kernel
theorem dX11_quarter_37 : decode cX11_quarter 37 = .ok (.iconst 1, 1) := by decide +kernel
theorem dX11_quarter_38 : decode cX11_quarter 38 = .ok (.isub, 1) := by decide +kernel
theorem dX11_quarter_39 : decode cX11_quarter 39 = .ok (.i2l, 1) := by decide +kernel
theorem dX11_quarter_40 : decode cX11_quarter 40 = .ok (.invokestatic 61, 3) := by decide +kernel
theorem dX11_quarter_43 : decode cX11_quarter 43 = .ok (.ifCond .ne 7, 3) := by decide +kernel
theorem dX11_quarter_46 : decode cX11_quarter 46 = .ok (.iconst (-1), 1) := by decide +kernel
theorem dX11_quarter_47 : decode cX11_quarter 47 = .ok (.goto 32, 3) := by decide +kernel
theorem dX11_quarter_50 : decode cX11_quarter 50 = .ok (.iload_n 3, 1) := by decide +kernel
theorem dX11_quarter_51 : decode cX11_quarter 51 = .ok (.ifCond .ne 17, 3) := by decide +kernel
theorem dX11_quarter_54 : decode cX11_quarter 54 = .ok (.aload_n 0, 1) := by decide +kernel
theorem dX11_quarter_55 : decode cX11_quarter 55 = .ok (.getfield 32, 3) := by decide +kernel
theorem dX11_quarter_58 : decode cX11_quarter 58 = .ok (.bipush 10, 2) := by decide +kernel
theorem dX11_quarter_60 : decode cX11_quarter 60 = .ok (.iload_n 1, 1) := by decide +kernel
theorem dX11_quarter_61 : decode cX11_quarter 61 = .ok (.imul, 1) := by decide +kernel
theorem dX11_quarter_62 : decode cX11_quarter 62 = .ok (.iload_n 2, 1) := by decide +kernel
theorem dX11_quarter_63 : decode cX11_quarter 63 = .ok (.iadd, 1) := by decide +kernel
theorem dX11_quarter_64 : decode cX11_quarter 64 = .ok (.iaload, 1) := by decide +kernel
theorem dX11_quarter_65 : decode cX11_quarter 65 = .ok (.goto 14, 3) := by decide +kernel
theorem dX11_quarter_68 : decode cX11_quarter 68 = .ok (.aload_n 0, 1) := by decide +kernel
theorem dX11_quarter_69 : decode cX11_quarter 69 = .ok (.getfield 35, 3) := by decide +kernel
theorem dX11_quarter_72 : decode cX11_quarter 72 = .ok (.bipush 10, 2) := by decide +kernel
theorem dX11_quarter_74 : decode cX11_quarter 74 = .ok (.iload_n 1, 1) := by decide +kernel
theorem dX11_quarter_75 : decode cX11_quarter 75 = .ok (.imul, 1) := by decide +kernel
theorem dX11_quarter_76 : decode cX11_quarter 76 = .ok (.iload_n 2, 1) := by decide +kernel
theorem dX11_quarter_77 : decode cX11_quarter 77 = .ok (.iadd, 1) := by decide +kernel
theorem dX11_quarter_78 : decode cX11_quarter 78 = .ok (.iaload, 1) := by decide +kernel
theorem dX11_quarter_79 : decode cX11_quarter 79 = .ok (.ireturn, 1) := by decide +kernel
theorem dX11_steps_0 : decode cX11_steps 0 = .ok (.iconst 0, 1) := by decide +kernel
theorem dX11_steps_1 : decode cX11_steps 1 = .ok (.istore_n 3, 1) := by decide +kernel
theorem dX11_steps_2 : decode cX11_steps 2 = .ok (.iload_n 3, 1) := by decide +kernel
theorem dX11_steps_3 : decode cX11_steps 3 = .ok (.bipush 16, 2) := by decide +kernel
theorem dX11_steps_5 : decode cX11_steps 5 = .ok (.if_icmp .ge 22, 3) := by decide +kernel
theorem dX11_steps_8 : decode cX11_steps 8 = .ok (.aload_n 2, 1) := by decide +kernel
theorem dX11_steps_9 : decode cX11_steps 9 = .ok (.iload_n 3, 1) := by decide +kernel
theorem dX11_steps_10 : decode cX11_steps 10 = .ok (.iload_n 3, 1) := by decide +kernel
theorem dX11_steps_11 : decode cX11_steps 11 = .ok (.iload_n 1, 1) := by decide +kernel
theorem dX11_steps_12 : decode cX11_steps 12 = .ok (.if_icmp .ne 7, 3) := by decide +kernel
theorem dX11_steps_15 : decode cX11_steps 15 = .ok (.iconst 0, 1) := by decide +kernel
theorem dX11_steps_16 : decode cX11_steps 16 = .ok (.goto 4, 3) := by decide +kernel
theorem dX11_steps_19 : decode cX11_steps 19 = .ok (.iconst (-1), 1) := by decide +kernel
theorem dX11_steps_20 : decode cX11_steps 20 = .ok (.iastore, 1) := by decide +kernel
theorem dX11_steps_21 : decode cX11_steps 21 = .ok (.iinc 3 1, 3) := by decide +kernel
theorem dX11_steps_24 : decode cX11_steps 24 = .ok (.goto (-22), 3) := by decide +kernel
theorem dX11_steps_27 : decode cX11_steps 27 = .ok (.iload_n 1, 1) := by decide +kernel
theorem dX11_steps_28 : decode cX11_steps 28 = .ok (.istore_n 3, 1) := by decide +kernel
theorem dX11_steps_29 : decode cX11_steps 29 = .ok (.iload_n 3, 1) := by decide +kernel
theorem dX11_steps_30 : decode cX11_steps 30 = .ok (.ifCond .lt 112, 3) := by decide +kernel
theorem dX11_steps_33 : decode cX11_steps 33 = .ok (.iconst 0, 1) := by decide +kernel
theorem dX11_steps_34 : decode cX11_steps 34 = .ok (.istore 4, 2) := by decide +kernel
theorem dX11_steps_36 : decode cX11_steps 36 = .ok (.iload 4, 2) := by decide +kernel
theorem dX11_steps_38 : decode cX11_steps 38 = .ok (.iconst 2, 1) := by decide +kernel
theorem dX11_steps_39 : decode cX11_steps 39 = .ok (.if_icmp .ge 97, 3) := by decide +kernel
theorem dX11_steps_42 : decode cX11_steps 42 = .ok (.aload_n 0, 1) := by decide +kernel
theorem dX11_steps_43 : decode cX11_steps 43 = .ok (.getfield 7, 3) := by decide +kernel
theorem dX11_steps_46 : decode cX11_steps 46 = .ok (.iload 4, 2) := by decide +kernel
theorem dX11_steps_48 : decode cX11_steps 48 = .ok (.ifCond .ne 8, 3) := by decide +kernel
theorem dX11_steps_51 : decode cX11_steps 51 = .ok (.bipush 45, 2) := by decide +kernel
theorem dX11_steps_53 : decode cX11_steps 53 = .ok (.goto 5, 3) := by decide +kernel
theorem dX11_steps_56 : decode cX11_steps 56 = .ok (.bipush 61, 2) := by decide +kernel
theorem dX11_steps_58 : decode cX11_steps 58 = .ok (.iload_n 3, 1) := by decide +kernel
theorem dX11_steps_59 : decode cX11_steps 59 = .ok (.iadd, 1) := by decide +kernel
theorem dX11_steps_60 : decode cX11_steps 60 = .ok (.iaload, 1) := by decide +kernel
theorem dX11_steps_61 : decode cX11_steps 61 = .ok (.istore 5, 2) := by decide +kernel
theorem dX11_steps_63 : decode cX11_steps 63 = .ok (.aload_n 2, 1) := by decide +kernel
theorem dX11_steps_64 : decode cX11_steps 64 = .ok (.iload_n 3, 1) := by decide +kernel
theorem dX11_steps_65 : decode cX11_steps 65 = .ok (.iaload, 1) := by decide +kernel
theorem dX11_steps_66 : decode cX11_steps 66 = .ok (.ifCond .lt 32, 3) := by decide +kernel
theorem dX11_steps_69 : decode cX11_steps 69 = .ok (.iload 5, 2) := by decide +kernel
theorem dX11_steps_71 : decode cX11_steps 71 = .ok (.iconst (-1), 1) := by decide +kernel
theorem dX11_steps_72 : decode cX11_steps 72 = .ok (.if_icmp .eq 26, 3) := by decide +kernel
theorem dX11_steps_75 : decode cX11_steps 75 = .ok (.aload_n 2, 1) := by decide +kernel
theorem dX11_steps_76 : decode cX11_steps 76 = .ok (.iload 5, 2) := by decide +kernel
theorem dX11_steps_78 : decode cX11_steps 78 = .ok (.iaload, 1) := by decide +kernel
theorem dX11_steps_79 : decode cX11_steps 79 = .ok (.ifCond .lt 15, 3) := by decide +kernel
theorem dX11_steps_82 : decode cX11_steps 82 = .ok (.aload_n 2, 1) := by decide +kernel
theorem dX11_steps_83 : decode cX11_steps 83 = .ok (.iload_n 3, 1) := by decide +kernel
theorem dX11_steps_84 : decode cX11_steps 84 = .ok (.iaload, 1) := by decide +kernel
theorem dX11_steps_85 : decode cX11_steps 85 = .ok (.iconst 1, 1) := by decide +kernel
theorem dX11_steps_86 : decode cX11_steps 86 = .ok (.iadd, 1) := by decide +kernel
theorem dX11_steps_87 : decode cX11_steps 87 = .ok (.aload_n 2, 1) := by decide +kernel
theorem dX11_steps_88 : decode cX11_steps 88 = .ok (.iload 5, 2) := by decide +kernel
theorem dX11_steps_90 : decode cX11_steps 90 = .ok (.iaload, 1) := by decide +kernel
theorem dX11_steps_91 : decode cX11_steps 91 = .ok (.if_icmp .ge 7, 3) := by decide +kernel
theorem dX11_steps_94 : decode cX11_steps 94 = .ok (.iconst 1, 1) := by decide +kernel
theorem dX11_steps_95 : decode cX11_steps 95 = .ok (.goto 4, 3) := by decide +kernel
theorem dX11_steps_98 : decode cX11_steps 98 = .ok (.iconst 0, 1) := by decide +kernel
theorem dX11_steps_99 : decode cX11_steps 99 = .ok (.istore 6, 2) := by decide +kernel
theorem dX11_steps_101 : decode cX11_steps 101 = .ok (.aload_n 2, 1) := by decide +kernel
theorem dX11_steps_102 : decode cX11_steps 102 = .ok (.iload 6, 2) := by decide +kernel
theorem dX11_steps_104 : decode cX11_steps 104 = .ok (.ifCond .eq 8, 3) := by decide +kernel
theorem dX11_steps_107 : decode cX11_steps 107 = .ok (.iload 5, 2) := by decide +kernel
theorem dX11_steps_109 : decode cX11_steps 109 = .ok (.goto 4, 3) := by decide +kernel
theorem dX11_steps_112 : decode cX11_steps 112 = .ok (.iload_n 3, 1) := by decide +kernel
theorem dX11_steps_113 : decode cX11_steps 113 = .ok (.iload 6, 2) := by decide +kernel
theorem dX11_steps_115 : decode cX11_steps 115 = .ok (.ifCond .eq 11, 3) := by decide +kernel
theorem dX11_steps_118 : decode cX11_steps 118 = .ok (.aload_n 2, 1) := by decide +kernel
theorem dX11_steps_119 : decode cX11_steps 119 = .ok (.iload_n 3, 1) := by decide +kernel
theorem dX11_steps_120 : decode cX11_steps 120 = .ok (.iaload, 1) := by decide +kernel
theorem dX11_steps_121 : decode cX11_steps 121 = .ok (.iconst 1, 1) := by decide +kernel
theorem dX11_steps_122 : decode cX11_steps 122 = .ok (.iadd, 1) := by decide +kernel
theorem dX11_steps_123 : decode cX11_steps 123 = .ok (.goto 6, 3) := by decide +kernel
theorem dX11_steps_126 : decode cX11_steps 126 = .ok (.aload_n 2, 1) := by decide +kernel
theorem dX11_steps_127 : decode cX11_steps 127 = .ok (.iload_n 3, 1) := by decide +kernel
theorem dX11_steps_128 : decode cX11_steps 128 = .ok (.iaload, 1) := by decide +kernel
theorem dX11_steps_129 : decode cX11_steps 129 = .ok (.iastore, 1) := by decide +kernel
theorem dX11_steps_130 : decode cX11_steps 130 = .ok (.iinc 4 1, 3) := by decide +kernel
theorem dX11_steps_133 : decode cX11_steps 133 = .ok (.goto (-97), 3) := by decide +kernel
theorem dX11_steps_136 : decode cX11_steps 136 = .ok (.iinc 3 (-1), 3) := by decide +kernel
theorem dX11_steps_139 : decode cX11_steps 139 = .ok (.goto (-110), 3) := by decide +kernel
theorem dX11_steps_142 : decode cX11_steps 142 = .ok (.return_, 1) := by decide +kernel
set_option maxRecDepth 20000 in
theorem ggX11_kin_X11_isOne : GoodIn wsX11_kin wsX11_isOne := goodIn_r _ [10, 5, 11, 12, 9, 13, 18, 19, 20, 21, 22, 23, 24, 25, 26, 27, 28, 29, 30, 31, 32, 33, 34, 35] (by decide +kernel) (by decide +kernel)
set_option maxRecDepth 20000 in
theorem gX11_kin_X11_isOne : GoodIn wsX11_kin (wsV RX11 65 RX11 yX11_isOne wsX11_isOne) := goodIn_app (goodIn_of _ (by decide +kernel)) ggX11_kin_X11_isOne
set_option maxRecDepth 20000 in
theorem ggX11_kin_X11_in : GoodIn wsX11_kin wsX11_in := goodIn_r _ [13] (by decide +kernel) (by decide +kernel)
set_option maxRecDepth 20000 in
theorem gX11_kin_X11_in : GoodIn wsX11_kin (va_wsS RX11 61 yX11_in wsX11_in) := goodIn_app (goodIn_of _ (by decide +kernel)) ggX11_kin_X11_in
set_option maxRecDepth 20000 in
theorem ggX11_kin_X11_steps : GoodIn wsX11_kin wsX11_steps := goodIn_r _ [17, 5, 18, 19, 20, 21, 22, 23, 24, 25, 26, 27, 28, 29, 30, 31, 32, 33, 34, 35] (by decide +kernel) (by decide +kernel)
set_option maxRecDepth 20000 in
theorem gX11_kin_X11_steps : GoodIn wsX11_kin (wsV RX11 160 RX11 yX11_steps wsX11_steps) := goodIn_app (goodIn_of _ (by decide +kernel)) ggX11_kin_X11_steps
