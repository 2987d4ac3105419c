theorem dX11_like_58 : decode cX11_like 58 = .ok (.iload_n 2, 1) := by decide +kernel
theorem dX11_like_59 : decode cX11_like 59 = .ok (.iadd, 1) := by decide +kernel
theorem dX11_like_60 : decode cX11_like 60 = .ok (.iaload, 1) := by decide +kernel
theorem dX11_like_61 : decode cX11_like 61 = .ok (.bipush 10, 2) := by decide +kernel
theorem dX11_like_63 : decode cX11_like 63 = .ok (.if_icmp .eq 105, 3) := by decide +kernel
theorem dX11_like_66 : decode cX11_like 66 = .ok (.aload_n 0, 1) := by decide +kernel
theorem dX11_like_67 : decode cX11_like 67 = .ok (.getfield 44, 3) := by decide +kernel
theorem dX11_like_70 : decode cX11_like 70 = .ok (.iload 4, 2) := by decide +kernel
theorem dX11_like_72 : decode cX11_like 72 = .ok (.iconst 1, 1) := by decide +kernel
theorem dX11_like_73 : decode cX11_like 73 = .ok (.iadd, 1) := by decide +kernel
theorem dX11_like_74 : decode cX11_like 74 = .ok (.iaload, 1) := by decide +kernel
theorem dX11_like_75 : decode cX11_like 75 = .ok (.istore 5, 2) := by decide +kernel
theorem dX11_like_77 : decode cX11_like 77 = .ok (.aload_n 0, 1) := by decide +kernel
theorem dX11_like_78 : decode cX11_like 78 = .ok (.getfield 32, 3) := by decide +kernel
theorem dX11_like_81 : decode cX11_like 81 = .ok (.bipush 10, 2) := by decide +kernel
theorem dX11_like_83 : decode cX11_like 83 = .ok (.iload_n 1, 1) := by decide +kernel
theorem dX11_like_84 : decode cX11_like 84 = .ok (.imul, 1) := by decide +kernel
theorem dX11_like_85 : decode cX11_like 85 = .ok (.iload 4, 2) := by decide +kernel
theorem dX11_like_87 : decode cX11_like 87 = .ok (.iadd, 1) := by decide +kernel
theorem dX11_like_88 : decode cX11_like 88 = .ok (.iaload, 1) := by decide +kernel
theorem dX11_like_89 : decode cX11_like 89 = .ok (.aload_n 0, 1) := by decide +kernel
theorem dX11_like_90 : decode cX11_like 90 = .ok (.getfield 7, 3) := by decide +kernel
theorem dX11_like_93 : decode cX11_like 93 = .ok (.iconst 3, 1) := by decide +kernel
theorem dX11_like_94 : decode cX11_like 94 = .ok (.iload_n 2, 1) := by decide +kernel
theorem dX11_like_95 : decode cX11_like 95 = .ok (.iadd, 1) := by decide +kernel
theorem dX11_like_96 : decode cX11_like 96 = .ok (.iaload, 1) := by decide +kernel
theorem dX11_like_97 : decode cX11_like 97 = .ok (.if_icmp .ne 9, 3) := by decide +kernel
theorem dX11_like_100 : decode cX11_like 100 = .ok (.iload_n 3, 1) := by decide +kernel
theorem dX11_like_101 : decode cX11_like 101 = .ok (.iconst 1, 1) := by decide +kernel
theorem dX11_like_102 : decode cX11_like 102 = .ok (.iadd, 1) := by decide +kernel
theorem dX11_like_103 : decode cX11_like 103 = .ok (.goto 5, 3) := by decide +kernel
theorem dX11_like_106 : decode cX11_like 106 = .ok (.iload 5, 2) := by decide +kernel
theorem dX11_like_108 : decode cX11_like 108 = .ok (.istore 6, 2) := by decide +kernel
theorem dX11_like_110 : decode cX11_like 110 = .ok (.iload 6, 2) := by decide +kernel
theorem dX11_like_112 : decode cX11_like 112 = .ok (.iload 5, 2) := by decide +kernel
theorem dX11_like_114 : decode cX11_like 114 = .ok (.if_icmp .ge 8, 3) := by decide +kernel
theorem dX11_like_117 : decode cX11_like 117 = .ok (.iload 5, 2) := by decide +kernel
theorem dX11_like_119 : decode cX11_like 119 = .ok (.goto 5, 3) := by decide +kernel
theorem dX11_like_122 : decode cX11_like 122 = .ok (.iload 6, 2) := by decide +kernel
theorem dX11_like_124 : decode cX11_like 124 = .ok (.istore 6, 2) := by decide +kernel
theorem dX11_like_126 : decode cX11_like 126 = .ok (.aload_n 0, 1) := by decide +kernel
theorem dX11_like_127 : decode cX11_like 127 = .ok (.getfield 44, 3) := by decide +kernel
theorem dX11_like_130 : decode cX11_like 130 = .ok (.iload 4, 2) := by decide +kernel
theorem dX11_like_132 : decode cX11_like 132 = .ok (.iconst 1, 1) := by decide +kernel
theorem dX11_like_133 : decode cX11_like 133 = .ok (.iadd, 1) := by decide +kernel
theorem dX11_like_134 : decode cX11_like 134 = .ok (.iload 6, 2) := by decide +kernel
theorem dX11_like_136 : decode cX11_like 136 = .ok (.aload_n 0, 1) := by decide +kernel
theorem dX11_like_137 : decode cX11_like 137 = .ok (.getfield 44, 3) := by decide +kernel
theorem dX11_like_140 : decode cX11_like 140 = .ok (.iload 4, 2) := by decide +kernel
theorem dX11_like_142 : decode cX11_like 142 = .ok (.iaload, 1) := by decide +kernel
theorem dX11_like_143 : decode cX11_like 143 = .ok (.if_icmp .ge 13, 3) := by decide +kernel
theorem dX11_like_146 : decode cX11_like 146 = .ok (.aload_n 0, 1) := by decide +kernel
theorem dX11_like_147 : decode cX11_like 147 = .ok (.getfield 44, 3) := by decide +kernel
theorem dX11_like_150 : decode cX11_like 150 = .ok (.iload 4, 2) := by decide +kernel
theorem dX11_like_152 : decode cX11_like 152 = .ok (.iaload, 1) := by decide +kernel
theorem dX11_like_153 : decode cX11_like 153 = .ok (.goto 5, 3) := by decide +kernel
theorem dX11_like_156 : decode cX11_like 156 = .ok (.iload 6, 2) := by decide +kernel
theorem dX11_like_158 : decode cX11_like 158 = .ok (.iastore, 1) := by decide +kernel
theorem dX11_like_159 : decode cX11_like 159 = .ok (.iload 5, 2) := by decide +kernel
theorem dX11_like_161 : decode cX11_like 161 = .ok (.istore_n 3, 1) := by decide +kernel
theorem dX11_like_162 : decode cX11_like 162 = .ok (.iinc 4 1, 3) := by decide +kernel
theorem dX11_like_165 : decode cX11_like 165 = .ok (.goto (-123), 3) := by decide +kernel
theorem dX11_like_168 : decode cX11_like 168 = .ok (.iinc 2 1, 3) := by decide +kernel
theorem dX11_like_171 : decode cX11_like 171 = .ok (.goto (-144), 3) := by decide +kernel
theorem dX11_like_174 : decode cX11_like 174 = .ok (.aload_n 0, 1) := by decide +kernel
theorem dX11_like_175 : decode cX11_like 175 = .ok (.getfield 44, 3) := by decide +kernel
theorem dX11_like_178 : decode cX11_like 178 = .ok (.aload_n 0, 1) := by decide +kernel
theorem dX11_like_179 : decode cX11_like 179 = .ok (.getfield 29, 3) := by decide +kernel
theorem dX11_like_182 : decode cX11_like 182 = .ok (.iload_n 1, 1) := by decide +kernel
theorem dX11_like_183 : decode cX11_like 183 = .ok (.iaload, 1) := by decide +kernel
theorem dX11_like_184 : decode cX11_like 184 = .ok (.iaload, 1) := by decide +kernel
theorem dX11_like_185 : decode cX11_like 185 = .ok (.ireturn, 1) := by decide +kernel
theorem dX11_likely_0 : decode cX11_likely 0 = .ok (.aload_n 0, 1) := by decide +kernel
theorem dX11_likely_1 : decode cX11_likely 1 = .ok (.invokevirtual 90, 3) := by decide +kernel
theorem dX11_likely_4 : decode cX11_likely 4 = .ok (.iconst (-1), 1) := by decide +kernel
theorem dX11_likely_5 : decode cX11_likely 5 = .ok (.istore_n 1, 1) := by decide +kernel
theorem dX11_likely_6 : decode cX11_likely 6 = .ok (.iconst 0, 1) := by decide +kernel
theorem dX11_likely_7 : decode cX11_likely 7 = .ok (.istore_n 2, 1) := by decide +kernel
theorem dX11_likely_8 : decode cX11_likely 8 = .ok (.iconst 0, 1) := by decide +kernel
theorem dX11_likely_9 : decode cX11_likely 9 = .ok (.istore_n 3, 1) := by decide +kernel
theorem dX11_likely_10 : decode cX11_likely 10 = .ok (.iload_n 3, 1) := by decide +kernel
theorem dX11_likely_11 : decode cX11_likely 11 = .ok (.aload_n 0, 1) := by decide +kernel
theorem dX11_likely_12 : decode cX11_likely 12 = .ok (.getfield 7, 3) := by decide +kernel
theorem dX11_likely_15 : decode cX11_likely 15 = .ok (.iconst 0, 1) := by decide +kernel
theorem dX11_likely_16 : decode cX11_likely 16 = .ok (.iaload, 1) := by decide +kernel
theorem dX11_likely_17 : decode cX11_likely 17 = .ok (.if_icmp .ge 53, 3) := by decide +kernel
theorem dX11_likely_20 : decode cX11_likely 20 = .ok (.aload_n 0, 1) := by decide +kernel
theorem dX11_likely_21 : decode cX11_likely 21 = .ok (.iload_n 3, 1) := by decide +kernel
theorem dX11_likely_22 : decode cX11_likely 22 = .ok (.invokevirtual 121, 3) := by decide +kernel
theorem dX11_likely_25 : decode cX11_likely 25 = .ok (.istore 4, 2) := by decide +kernel
theorem dX11_likely_27 : decode cX11_likely 27 = .ok (.iload 4, 2) := by decide +kernel
theorem dX11_likely_29 : decode cX11_likely 29 = .ok (.iload_n 2, 1) := by decide +kernel
theorem dX11_likely_30 : decode cX11_likely 30 = .ok (.if_icmp .gt 29, 3) := by decide +kernel
theorem dX11_likely_33 : decode cX11_likely 33 = .ok (.iload 4, 2) := by decide +kernel
theorem dX11_likely_35 : decode cX11_likely 35 = .ok (.iload_n 2, 1) := by decide +kernel
theorem dX11_likely_36 : decode cX11_likely 36 = .ok (.if_icmp .ne 28, 3) := by decide +kernel
theorem dX11_likely_39 : decode cX11_likely 39 = .ok (.iload_n 1, 1) := by decide +kernel
theorem dX11_likely_40 : decode cX11_likely 40 = .ok (.iconst (-1), 1) := by decide +kernel
theorem dX11_likely_41 : decode cX11_likely 41 = .ok (.if_icmp .eq 23, 3) := by decide +kernel
theorem dX11_likely_44 : decode cX11_likely 44 = .ok (.aload_n 0, 1) := by decide +kernel
theorem dX11_likely_45 : decode cX11_likely 45 = .ok (.getfield 29, 3) := by decide +kernel
theorem dX11_likely_48 : decode cX11_likely 48 = .ok (.iload_n 3, 1) := by decide +kernel
theorem dX11_likely_49 : decode cX11_likely 49 = .ok (.iaload, 1) := by decide +kernel
theorem dX11_likely_50 : decode cX11_likely 50 = .ok (.aload_n 0, 1) := by decide +kernel
theorem dX11_likely_51 : decode cX11_likely 51 = .ok (.getfield 29, 3) := by decide +kernel
theorem dX11_likely_54 : decode cX11_likely 54 = .ok (.iload_n 1, 1) := by decide +kernel
theorem dX11_likely_55 : decode cX11_likely 55 = .ok (.iaload, 1) := by decide +kernel
theorem dX11_likely_56 : decode cX11_likely 56 = .ok (.if_icmp .ge 8, 3) := by decide +kernel
theorem dX11_likely_59 : decode cX11_likely 59 = .ok (.iload_n 3, 1) := by decide +kernel
theorem dX11_likely_60 : decode cX11_likely 60 = .ok (.istore_n 1, 1) := by decide +kernel
theorem dX11_likely_61 : decode cX11_likely 61 = .ok (.iload 4, 2) := by decide +kernel
theorem dX11_likely_63 : decode cX11_likely 63 = .ok (.istore_n 2, 1) := by decide +kernel
theorem dX11_likely_64 : decode cX11_likely 64 = .ok (.iinc 3 1, 3) := by decide +kernel
theorem dX11_likely_67 : decode cX11_likely 67 = .ok (.goto (-57), 3) := by decide +kernel
theorem dX11_likely_70 : decode cX11_likely 70 = .ok (.iload_n 1, 1) := by decide +kernel
theorem dX11_likely_71 : decode cX11_likely 71 = .ok (.ireturn, 1) := by decide +kernel
theorem dX11_heirs_0 : decode cX11_heirs 0 = .ok (.iconst 0, 1) := by decide +kernel
theorem dX11_heirs_1 : decode cX11_heirs 1 = .ok (.istore_n 1, 1) := by decide +kernel
theorem dX11_heirs_2 : decode cX11_heirs 2 = .ok (.iconst 0, 1) := by decide +kernel
theorem dX11_heirs_3 : decode cX11_heirs 3 = .ok (.istore_n 2, 1) := by decide +kernel
theorem dX11_heirs_4 : decode cX11_heirs 4 = .ok (.iload_n 2, 1) := by decide +kernel
theorem dX11_heirs_5 : decode cX11_heirs 5 = .ok (.aload_n 0, 1) := by decide +kernel
theorem dX11_heirs_6 : decode cX11_heirs 6 = .ok (.getfield 7, 3) := by decide +kernel
theorem dX11_heirs_9 : decode cX11_heirs 9 = .ok (.iconst 0, 1) := by decide +kernel
theorem dX11_heirs_10 : decode cX11_heirs 10 = .ok (.iaload, 1) := by decide +kernel
theorem dX11_heirs_11 : decode cX11_heirs 11 = .ok (.if_icmp .ge 27, 3) := by decide +kernel
theorem dX11_heirs_14 : decode cX11_heirs 14 = .ok (.iload_n 1, 1) := by decide +kernel
theorem dX11_heirs_15 : decode cX11_heirs 15 = .ok (.aload_n 0, 1) := by decide +kernel
theorem dX11_heirs_16 : decode cX11_heirs 16 = .ok (.iload_n 2, 1) := by decide +kernel
theorem dX11_heirs_17 : decode cX11_heirs 17 = .ok (.invokevirtual 76, 3) := by decide +kernel
theorem dX11_heirs_20 : decode cX11_heirs 20 = .ok (.ifCond .eq 9, 3) := by decide +kernel
theorem dX11_heirs_23 : decode cX11_heirs 23 = .ok (.iconst 1, 1) := by decide +kernel
theorem dX11_heirs_24 : decode cX11_heirs 24 = .ok (.iload_n 2, 1) := by decide +kernel
theorem dX11_heirs_25 : decode cX11_heirs 25 = .ok (.ishl, 1) := by decide +kernel
theorem dX11_heirs_26 : decode cX11_heirs 26 = .ok (.goto 4, 3) := by decide +kernel
theorem dX11_heirs_29 : decode cX11_heirs 29 = .ok (.iconst 0, 1) := by decide +kernel
theorem dX11_heirs_30 : decode cX11_heirs 30 = .ok (.ior, 1) := by decide +kernel
theorem dX11_heirs_31 : decode cX11_heirs 31 = .ok (.istore_n 1, 1) := by decide +kernel
theorem dX11_heirs_32 : decode cX11_heirs 32 = .ok (.iinc 2 1, 3) := by decide +kernel
theorem dX11_heirs_35 : decode cX11_heirs 35 = .ok (.goto (-31), 3) := by decide +kernel
theorem dX11_heirs_38 : decode cX11_heirs 38 = .ok (.iload_n 1, 1) := by decide +kernel
theorem dX11_heirs_39 : decode cX11_heirs 39 = .ok (.ireturn, 1) := by decide +kernel
theorem dX11_wrong_0 : decode cX11_wrong 0 = .ok (.aload_n 0, 1) := by decide +kernel
theorem dX11_wrong_1 : decode cX11_wrong 1 = .ok (.invokevirtual 90, 3) := by decide +kernel
theorem dX11_wrong_4 : decode cX11_wrong 4 = .ok (.iconst 0, 1) := by decide +kernel
theorem dX11_wrong_5 : decode cX11_wrong 5 = .ok (.istore_n 1, 1) := by decide +kernel
theorem dX11_wrong_6 : decode cX11_wrong 6 = .ok (.iload_n 1, 1) := by decide +kernel
theorem dX11_wrong_7 : decode cX11_wrong 7 = .ok (.aload_n 0, 1) := by decide +kernel
theorem dX11_wrong_8 : decode cX11_wrong 8 = .ok (.getfield 124, 3) := by decide +kernel
theorem dX11_wrong_11 : decode cX11_wrong 11 = .ok (.if_icmp .ge 66, 3) := by decide +kernel
theorem dX11_wrong_14 : decode cX11_wrong 14 = .ok (.aload_n 0, 1) := by decide +kernel
theorem dX11_wrong_15 : decode cX11_wrong 15 = .ok (.getfield 20, 3) := by decide +kernel
theorem dX11_wrong_18 : decode cX11_wrong 18 = .ok (.iload_n 1, 1) := by decide +kernel
theorem dX11_wrong_19 : decode cX11_wrong 19 = .ok (.iaload, 1) := by decide +kernel
theorem dX11_wrong_20 : decode cX11_wrong 20 = .ok (.istore_n 2, 1) := by decide +kernel
theorem dX11_wrong_21 : decode cX11_wrong 21 = .ok (.aload_n 0, 1) := by decide +kernel
theorem dX11_wrong_22 : decode cX11_wrong 22 = .ok (.iload_n 2, 1) := by decide +kernel
theorem dX11_wrong_23 : decode cX11_wrong 23 = .ok (.invokevirtual 65, 3) := by decide +kernel
theorem dX11_wrong_26 : decode cX11_wrong 26 = .ok (.ifCond .eq 43, 3) := by decide +kernel
theorem dX11_wrong_29 : decode cX11_wrong 29 = .ok (.aload_n 0, 1) := by decide +kernel
theorem dX11_wrong_30 : decode cX11_wrong 30 = .ok (.getfield 23, 3) := by decide +kernel
theorem dX11_wrong_33 : decode cX11_wrong 33 = .ok (.iload_n 1, 1) := by decide +kernel
theorem dX11_wrong_34 : decode cX11_wrong 34 = .ok (.iaload, 1) := by decide +kernel
theorem dX11_wrong_35 : decode cX11_wrong 35 = .ok (.aload_n 0, 1) := by decide +kernel
theorem dX11_wrong_36 : decode cX11_wrong 36 = .ok (.getfield 29, 3) := by decide +kernel
theorem dX11_wrong_39 : decode cX11_wrong 39 = .ok (.iload_n 2, 1) := by decide +kernel
theorem dX11_wrong_40 : decode cX11_wrong 40 = .ok (.iaload, 1) := by decide +kernel
theorem dX11_wrong_41 : decode cX11_wrong 41 = .ok (.if_icmp .ge 28, 3) := by decide +kernel
theorem dX11_wrong_44 : decode cX11_wrong 44 = .ok (.aload_n 0, 1) := by decide +kernel
theorem dX11_wrong_45 : decode cX11_wrong 45 = .ok (.getfield 32, 3) := by decide +kernel
theorem dX11_wrong_48 : decode cX11_wrong 48 = .ok (.bipush 10, 2) := by decide +kernel
theorem dX11_wrong_50 : decode cX11_wrong 50 = .ok (.iload_n 2, 1) := by decide +kernel
theorem dX11_wrong_51 : decode cX11_wrong 51 = .ok (.imul, 1) := by decide +kernel
theorem dX11_wrong_52 : decode cX11_wrong 52 = .ok (.aload_n 0, 1) := by decide +kernel
theorem dX11_wrong_53 : decode cX11_wrong 53 = .ok (.getfield 23, 3) := by decide +kernel
theorem dX11_wrong_56 : decode cX11_wrong 56 = .ok (.iload_n 1, 1) := by decide +kernel
theorem dX11_wrong_57 : decode cX11_wrong 57 = .ok (.iaload, 1) := by decide +kernel
theorem dX11_wrong_58 : decode cX11_wrong 58 = .ok (.iadd, 1) := by decide +kernel
theorem dX11_wrong_59 : decode cX11_wrong 59 = .ok (.iaload, 1) := by decide +kernel
theorem dX11_wrong_60 : decode cX11_wrong 60 = .ok (.aload_n 0, 1) := by decide +kernel
theorem dX11_wrong_61 : decode cX11_wrong 61 = .ok (.getfield 26, 3) := by decide +kernel
theorem dX11_wrong_64 : decode cX11_wrong 64 = .ok (.iload_n 1, 1) := by decide +kernel
theorem dX11_wrong_65 : decode cX11_wrong 65 = .ok (.iaload, 1) := by decide +kernel
theorem dX11_wrong_66 : decode cX11_wrong 66 = .ok (.if_icmp .eq 5, 3) := by decide +kernel
theorem dX11_wrong_69 : decode cX11_wrong 69 = .ok (.iload_n 1, 1) := by decide +kernel
theorem dX11_wrong_70 : decode cX11_wrong 70 = .ok (.ireturn, 1) := by decide +kernel
theorem dX11_wrong_71 : decode cX11_wrong 71 = .ok (.iinc 1 1, 3) := by decide +kernel
theorem dX11_wrong_74 : decode cX11_wrong 74 = .ok (.goto (-68), 3) := by decide +kernel
theorem dX11_wrong_77 : decode cX11_wrong 77 = .ok (.iconst (-1), 1) := by decide +kernel
theorem dX11_wrong_78 : decode cX11_wrong 78 = .ok (.ireturn, 1) := by decide +kernel
theorem dX11_told_0 : decode cX11_told 0 = .ok (.iload_n 1, 1) := by decide +kernel
theorem dX11_told_1 : decode cX11_told 1 = .ok (.tableswitch 139 0 11 #[63, 70, 77, 84, 89, 94, 107, 113, 119, 124, 129, 134], 63) := by decide +kernel
theorem dX11_told_64 : decode cX11_told 64 = .ok (.aload_n 0, 1) := by decide +kernel
theorem dX11_told_65 : decode cX11_told 65 = .ok (.getfield 7, 3) := by decide +kernel
theorem dX11_told_68 : decode cX11_told 68 = .ok (.iconst 0, 1) := by decide +kernel
theorem dX11_told_69 : decode cX11_told 69 = .ok (.iaload, 1) := by decide +kernel
theorem dX11_told_70 : decode cX11_told 70 = .ok (.ireturn, 1) := by decide +kernel
theorem dX11_told_71 : decode cX11_told 71 = .ok (.aload_n 0, 1) := by decide +kernel
theorem dX11_told_72 : decode cX11_told 72 = .ok (.getfield 7, 3) := by decide +kernel
theorem dX11_told_75 : decode cX11_told 75 = .ok (.iconst 1, 1) := by decide +kernel
theorem dX11_told_76 : decode cX11_told 76 = .ok (.iaload, 1) := by decide +kernel
theorem dX11_told_77 : decode cX11_told 77 = .ok (.ireturn, 1) := by decide +kernel
theorem dX11_told_78 : decode cX11_told 78 = .ok (.aload_n 0, 1) := by decide +kernel
theorem dX11_told_79 : decode cX11_told 79 = .ok (.getfield 7, 3) := by decide +kernel
theorem dX11_told_82 : decode cX11_told 82 = .ok (.iconst 2, 1) := by decide +kernel
theorem dX11_told_83 : decode cX11_told 83 = .ok (.iaload, 1) := by decide +kernel
theorem dX11_told_84 : decode cX11_told 84 = .ok (.ireturn, 1) := by decide +kernel
theorem dX11_told_85 : decode cX11_told 85 = .ok (.aload_n 0, 1) := by decide +kernel
theorem dX11_told_86 : decode cX11_told 86 = .ok (.invokevirtual 127, 3) := by decide +kernel
theorem dX11_told_89 : decode cX11_told 89 = .ok (.ireturn, 1) := by decide +kernel
theorem dX11_told_90 : decode cX11_told 90 = .ok (.aload_n 0, 1) := by decide +kernel
theorem dX11_told_91 : decode cX11_told 91 = .ok (.invokevirtual 131, 3) := by decide +kernel
theorem dX11_told_94 : decode cX11_told 94 = .ok (.ireturn, 1) := by decide +kernel
theorem dX11_told_95 : decode cX11_told 95 = .ok (.aload_n 0, 1) := by decide +kernel
theorem dX11_told_96 : decode cX11_told 96 = .ok (.invokevirtual 134, 3) := by decide +kernel
theorem dX11_told_99 : decode cX11_told 99 = .ok (.ifCond .eq 7, 3) := by decide +kernel
theorem dX11_told_102 : decode cX11_told 102 = .ok (.iconst 0, 1) := by decide +kernel
theorem dX11_told_103 : decode cX11_told 103 = .ok (.goto 4, 3) := by decide +kernel
theorem dX11_told_106 : decode cX11_told 106 = .ok (.iconst 1, 1) := by decide +kernel
theorem dX11_told_107 : decode cX11_told 107 = .ok (.ireturn, 1) := by decide +kernel
theorem dX11_told_108 : decode cX11_told 108 = .ok (.aload_n 0, 1) := by decide +kernel
theorem dX11_told_109 : decode cX11_told 109 = .ok (.iconst 1, 1) := by decide +kernel
theorem dX11_told_110 : decode cX11_told 110 = .ok (.invokevirtual 137, 3) := by decide +kernel
theorem dX11_told_113 : decode cX11_told 113 = .ok (.ireturn, 1) := by decide +kernel
theorem dX11_told_114 : decode cX11_told 114 = .ok (.aload_n 0, 1) := by decide +kernel
theorem dX11_told_115 : decode cX11_told 115 = .ok (.iconst 0, 1) := by decide +kernel
theorem dX11_told_116 : decode cX11_told 116 = .ok (.invokevirtual 137, 3) := by decide +kernel
theorem dX11_told_119 : decode cX11_told 119 = .ok (.ireturn, 1) := by decide +kernel
theorem dX11_told_120 : decode cX11_told 120 = .ok (.aload_n 0, 1) := by decide +kernel
theorem dX11_told_121 : decode cX11_told 121 = .ok (.invokevirtual 141, 3) := by decide +kernel
theorem dX11_told_124 : decode cX11_told 124 = .ok (.ireturn, 1) := by decide +kernel
theorem dX11_told_125 : decode cX11_told 125 = .ok (.aload_n 0, 1) := by decide +kernel
theorem dX11_told_126 : decode cX11_told 126 = .ok (.getfield 124, 3) := by decide +kernel
theorem dX11_told_129 : decode cX11_told 129 = .ok (.ireturn, 1) := by decide +kernel
theorem dX11_told_130 : decode cX11_told 130 = .ok (.aload_n 0, 1) := by decide +kernel
theorem dX11_told_131 : decode cX11_told 131 = .ok (.invokevirtual 144, 3) := by decide +kernel
theorem dX11_told_134 : decode cX11_told 134 = .ok (.ireturn, 1) := by decide +kernel
theorem dX11_told_135 : decode cX11_told 135 = .ok (.aload_n 0, 1) := by decide +kernel
theorem dX11_told_136 : decode cX11_told 136 = .ok (.getfield 53, 3) := by decide +kernel
theorem dX11_told_139 : decode cX11_told 139 = .ok (.ireturn, 1) := by decide +kernel
theorem dX11_told_140 : decode cX11_told 140 = .ok (.ldc 147, 2) := by decide +kernel
theorem dX11_told_142 : decode cX11_told 142 = .ok (.ireturn, 1) := by decide +kernel
theorem dX11_children_0 : decode cX11_children 0 = .ok (.iconst 0, 1) := by decide +kernel
theorem dX11_children_1 : decode cX11_children 1 = .ok (.istore_n 2, 1) := by decide +kernel
theorem dX11_children_2 : decode cX11_children 2 = .ok (.iconst 0, 1) := by decide +kernel
theorem dX11_children_3 : decode cX11_children 3 = .ok (.istore_n 3, 1) := by decide +kernel
theorem dX11_children_4 : decode cX11_children 4 = .ok (.iload_n 3, 1) := by decide +kernel
theorem dX11_children_5 : decode cX11_children 5 = .ok (.aload_n 0, 1) := by decide +kernel
theorem dX11_children_6 : decode cX11_children 6 = .ok (.getfield 7, 3) := by decide +kernel
theorem dX11_children_9 : decode cX11_children 9 = .ok (.iconst 0, 1) := by decide +kernel
theorem dX11_children_10 : decode cX11_children 10 = .ok (.iaload, 1) := by decide +kernel
theorem dX11_children_11 : decode cX11_children 11 = .ok (.if_icmp .ge 45, 3) := by decide +kernel
theorem dX11_children_14 : decode cX11_children 14 = .ok (.iload_n 2, 1) := by decide +kernel
theorem dX11_children_15 : decode cX11_children 15 = .ok (.aload_n 0, 1) := by decide +kernel
theorem dX11_children_16 : decode cX11_children 16 = .ok (.getfield 7, 3) := by decide +kernel
theorem dX11_children_19 : decode cX11_children 19 = .ok (.bipush 45, 2) := by decide +kernel
theorem dX11_children_21 : decode cX11_children 21 = .ok (.iload_n 3, 1) := by decide +kernel
theorem dX11_children_22 : decode cX11_children 22 = .ok (.iadd, 1) := by decide +kernel
theorem dX11_children_23 : decode cX11_children 23 = .ok (.iaload, 1) := by decide +kernel
theorem dX11_children_24 : decode cX11_children 24 = .ok (.iload_n 1, 1) := by decide +kernel
theorem dX11_children_25 : decode cX11_children 25 = .ok (.if_icmp .eq 16, 3) := by decide +kernel
theorem dX11_children_28 : decode cX11_children 28 = .ok (.aload_n 0, 1) := by decide +kernel
theorem dX11_children_29 : decode cX11_children 29 = .ok (.getfield 7, 3) := by decide +kernel
theorem dX11_children_32 : decode cX11_children 32 = .ok (.bipush 61, 2) := by decide +kernel
theorem dX11_children_34 : decode cX11_children 34 = .ok (.iload_n 3, 1) := by decide +kernel
theorem dX11_children_35 : decode cX11_children 35 = .ok (.iadd, 1) := by decide +kernel
theorem dX11_children_36 : decode cX11_children 36 = .ok (.iaload, 1) := by decide +kernel
theorem dX11_children_37 : decode cX11_children 37 = .ok (.iload_n 1, 1) := by decide +kernel
theorem dX11_children_38 : decode cX11_children 38 = .ok (.if_icmp .ne 9, 3) := by decide +kernel
theorem dX11_children_41 : decode cX11_children 41 = .ok (.iconst 1, 1) := by decide +kernel
theorem dX11_children_42 : decode cX11_children 42 = .ok (.iload_n 3, 1) := by decide +kernel
theorem dX11_children_43 : decode cX11_children 43 = .ok (.ishl, 1) := by decide +kernel
theorem dX11_children_44 : decode cX11_children 44 = .ok (.goto 4, 3) := by decide +kernel
theorem dX11_children_47 : decode cX11_children 47 = .ok (.iconst 0, 1) := by decide +kernel
theorem dX11_children_48 : decode cX11_children 48 = .ok (.ior, 1) := by decide +kernel
theorem dX11_children_49 : decode cX11_children 49 = .ok (.istore_n 2, 1) := by decide +kernel
theorem dX11_children_50 : decode cX11_children 50 = .ok (.iinc 3 1, 3) := by decide +kernel
theorem dX11_children_53 : decode cX11_children 53 = .ok (.goto (-49), 3) := by decide +kernel
theorem dX11_children_56 : decode cX11_children 56 = .ok (.iload_n 2, 1) := by decide +kernel
theorem dX11_children_57 : decode cX11_children 57 = .ok (.ireturn, 1) := by decide +kernel
theorem dX11_narrowed_0 : decode cX11_narrowed 0 = .ok (.aload_n 0, 1) := by decide +kernel
theorem dX11_narrowed_1 : decode cX11_narrowed 1 = .ok (.invokevirtual 134, 3) := by decide +kernel
theorem dX11_narrowed_4 : decode cX11_narrowed 4 = .ok (.ifCond .ne 5, 3) := by decide +kernel
theorem dX11_narrowed_7 : decode cX11_narrowed 7 = .ok (.iconst (-1), 1) := by decide +kernel
theorem dX11_narrowed_8 : decode cX11_narrowed 8 = .ok (.ireturn, 1) := by decide +kernel
theorem dX11_narrowed_9 : decode cX11_narrowed 9 = .ok (.iload_n 2, 1) := by decide +kernel
theorem dX11_narrowed_10 : decode cX11_narrowed 10 = .ok (.bipush 14, 2) := by decide +kernel
theorem dX11_narrowed_12 : decode cX11_narrowed 12 = .ok (.if_icmp .ge 7, 3) := by decide +kernel
theorem dX11_narrowed_15 : decode cX11_narrowed 15 = .ok (.iload_n 1, 1) := by decide +kernel
theorem dX11_narrowed_16 : decode cX11_narrowed 16 = .ok (.goto 7, 3) := by decide +kernel
theorem dX11_narrowed_19 : decode cX11_narrowed 19 = .ok (.bipush 16, 2) := by decide +kernel
theorem dX11_narrowed_21 : decode cX11_narrowed 21 = .ok (.iload_n 1, 1) := by decide +kernel
theorem dX11_narrowed_22 : decode cX11_narrowed 22 = .ok (.iadd, 1) := by decide +kernel
theorem dX11_narrowed_23 : decode cX11_narrowed 23 = .ok (.istore_n 3, 1) := by decide +kernel
theorem dX11_narrowed_24 : decode cX11_narrowed 24 = .ok (.iload_n 2, 1) := by decide +kernel
theorem dX11_narrowed_25 : decode cX11_narrowed 25 = .ok (.iconst 2, 1) := by decide +kernel
theorem dX11_narrowed_26 : decode cX11_narrowed 26 = .ok (.irem, 1) := by decide +kernel
theorem dX11_narrowed_27 : decode cX11_narrowed 27 = .ok (.ifCond .ne 12, 3) := by decide +kernel
theorem dX11_narrowed_30 : decode cX11_narrowed 30 = .ok (.aload_n 0, 1) := by decide +kernel
theorem dX11_narrowed_31 : decode cX11_narrowed 31 = .ok (.getfield 38, 3) := by decide +kernel
theorem dX11_narrowed_34 : decode cX11_narrowed 34 = .ok (.iload_n 3, 1) := by decide +kernel
theorem dX11_narrowed_35 : decode cX11_narrowed 35 = .ok (.iaload, 1) := by decide +kernel
theorem dX11_narrowed_36 : decode cX11_narrowed 36 = .ok (.goto 9, 3) := by decide +kernel
theorem dX11_narrowed_39 : decode cX11_narrowed 39 = .ok (.aload_n 0, 1) := by decide +kernel
theorem dX11_narrowed_40 : decode cX11_narrowed 40 = .ok (.getfield 41, 3) := by decide +kernel
theorem dX11_narrowed_43 : decode cX11_narrowed 43 = .ok (.iload_n 3, 1) := by decide +kernel
theorem dX11_narrowed_44 : decode cX11_narrowed 44 = .ok (.iaload, 1) := by decide +kernel
theorem dX11_narrowed_45 : decode cX11_narrowed 45 = .ok (.ireturn, 1) := by decide +kernel
theorem dX11_person_0 : decode cX11_person 0 = .ok (.aload_n 0, 1) := by decide +kernel
theorem dX11_person_1 : decode cX11_person 1 = .ok (.iload_n 1, 1) := by decide +kernel
theorem dX11_person_2 : decode cX11_person 2 = .ok (.invokevirtual 65, 3) := by decide +kernel
theorem dX11_person_5 : decode cX11_person 5 = .ok (.ifCond .ne 6, 3) := by decide +kernel
theorem dX11_person_8 : decode cX11_person 8 = .ok (.ldc 148, 2) := by decide +kernel
theorem dX11_person_10 : decode cX11_person 10 = .ok (.ireturn, 1) := by decide +kernel
theorem dX11_person_11 : decode cX11_person 11 = .ok (.aload_n 0, 1) := by decide +kernel
theorem dX11_person_12 : decode cX11_person 12 = .ok (.invokevirtual 90, 3) := by decide +kernel
theorem dX11_person_15 : decode cX11_person 15 = .ok (.iload_n 2, 1) := by decide +kernel
theorem dX11_person_16 : decode cX11_person 16 = .ok (.tableswitch 181 0 11 #[64, 74, 84, 94, 104, 111, 117, 123, 129, 141, 155, 167], 64) := by decide +kernel
theorem dX11_person_80 : decode cX11_person 80 = .ok (.aload_n 0, 1) := by decide +kernel
theorem dX11_person_81 : decode cX11_person 81 = .ok (.getfield 7, 3) := by decide +kernel
theorem dX11_person_84 : decode cX11_person 84 = .ok (.bipush 13, 2) := by decide +kernel
theorem dX11_person_86 : decode cX11_person 86 = .ok (.iload_n 1, 1) := by decide +kernel
theorem dX11_person_87 : decode cX11_person 87 = .ok (.iadd, 1) := by decide +kernel
theorem dX11_person_88 : decode cX11_person 88 = .ok (.iaload, 1) := by decide +kernel
theorem dX11_person_89 : decode cX11_person 89 = .ok (.ireturn, 1) := by decide +kernel
theorem dX11_person_90 : decode cX11_person 90 = .ok (.aload_n 0, 1) := by decide +kernel
theorem dX11_person_91 : decode cX11_person 91 = .ok (.getfield 7, 3) := by decide +kernel
theorem dX11_person_94 : decode cX11_person 94 = .ok (.bipush 29, 2) := by decide +kernel
theorem dX11_person_96 : decode cX11_person 96 = .ok (.iload_n 1, 1) := by decide +kernel
theorem dX11_person_97 : decode cX11_person 97 = .ok (.iadd, 1) := by decide +kernel
theorem dX11_person_98 : decode cX11_person 98 = .ok (.iaload, 1) := by decide +kernel
theorem dX11_person_99 : decode cX11_person 99 = .ok (.ireturn, 1) := by decide +kernel
theorem dX11_person_100 : decode cX11_person 100 = .ok (.aload_n 0, 1) := by decide +kernel
theorem dX11_person_101 : decode cX11_person 101 = .ok (.getfield 7, 3) := by decide +kernel
theorem dX11_person_104 : decode cX11_person 104 = .ok (.bipush 45, 2) := by decide +kernel
theorem dX11_person_106 : decode cX11_person 106 = .ok (.iload_n 1, 1) := by decide +kernel
theorem dX11_person_107 : decode cX11_person 107 = .ok (.iadd, 1) := by decide +kernel
theorem dX11_person_108 : decode cX11_person 108 = .ok (.iaload, 1) := by decide +kernel
theorem dX11_person_109 : decode cX11_person 109 = .ok (.ireturn, 1) := by decide +kernel
theorem dX11_person_110 : decode cX11_person 110 = .ok (.aload_n 0, 1) := by decide +kernel
theorem dX11_person_111 : decode cX11_person 111 = .ok (.getfield 7, 3) := by decide +kernel
theorem dX11_person_114 : decode cX11_person 114 = .ok (.bipush 61, 2) := by decide +kernel
theorem dX11_person_116 : decode cX11_person 116 = .ok (.iload_n 1, 1) := by decide +kernel
theorem dX11_person_117 : decode cX11_person 117 = .ok (.iadd, 1) := by decide +kernel
theorem dX11_person_118 : decode cX11_person 118 = .ok (.iaload, 1) := by decide +kernel
theorem dX11_person_119 : decode cX11_person 119 = .ok (.ireturn, 1) := by decide +kernel
theorem dX11_person_120 : decode cX11_person 120 = .ok (.aload_n 0, 1) := by decide +kernel
theorem dX11_person_121 : decode cX11_person 121 = .ok (.getfield 29, 3) := by decide +kernel
theorem dX11_person_124 : decode cX11_person 124 = .ok (.iload_n 1, 1) := by decide +kernel
theorem dX11_person_125 : decode cX11_person 125 = .ok (.iaload, 1) := by decide +kernel
theorem dX11_person_126 : decode cX11_person 126 = .ok (.ireturn, 1) := by decide +kernel
theorem dX11_person_127 : decode cX11_person 127 = .ok (.aload_n 0, 1) := by decide +kernel
theorem dX11_person_128 : decode cX11_person 128 = .ok (.iload_n 1, 1) := by decide +kernel
theorem dX11_person_129 : decode cX11_person 129 = .ok (.invokevirtual 93, 3) := by decide +kernel
theorem dX11_person_132 : decode cX11_person 132 = .ok (.ireturn, 1) := by decide +kernel
theorem dX11_person_133 : decode cX11_person 133 = .ok (.aload_n 0, 1) := by decide +kernel
theorem dX11_person_134 : decode cX11_person 134 = .ok (.iload_n 1, 1) := by decide +kernel
theorem dX11_person_135 : decode cX11_person 135 = .ok (.invokevirtual 121, 3) := by decide +kernel
theorem dX11_person_138 : decode cX11_person 138 = .ok (.ireturn, 1) := by decide +kernel
theorem dX11_person_139 : decode cX11_person 139 = .ok (.aload_n 0, 1) := by decide +kernel
theorem dX11_person_140 : decode cX11_person 140 = .ok (.iload_n 1, 1) := by decide +kernel
theorem dX11_person_141 : decode cX11_person 141 = .ok (.invokevirtual 149, 3) := by decide +kernel
theorem dX11_person_144 : decode cX11_person 144 = .ok (.ireturn, 1) := by decide +kernel
theorem dX11_person_145 : decode cX11_person 145 = .ok (.aload_n 0, 1) := by decide +kernel
theorem dX11_person_146 : decode cX11_person 146 = .ok (.getfield 7, 3) := by decide +kernel
theorem dX11_person_149 : decode cX11_person 149 = .ok (.bipush 77, 2) := by decide +kernel
theorem dX11_person_151 : decode cX11_person 151 = .ok (.iconst 2, 1) := by decide +kernel
theorem dX11_person_152 : decode cX11_person 152 = .ok (.iload_n 1, 1) := by decide +kernel
theorem dX11_person_153 : decode cX11_person 153 = .ok (.imul, 1) := by decide +kernel
theorem dX11_person_154 : decode cX11_person 154 = .ok (.iadd, 1) := by decide +kernel
theorem dX11_person_155 : decode cX11_person 155 = .ok (.iaload, 1) := by decide +kernel
theorem dX11_person_156 : decode cX11_person 156 = .ok (.ireturn, 1) := by decide +kernel
theorem dX11_person_157 : decode cX11_person 157 = .ok (.aload_n 0, 1) := by decide +kernel
theorem dX11_person_158 : decode cX11_person 158 = .ok (.getfield 7, 3) := by decide +kernel
theorem dX11_person_161 : decode cX11_person 161 = .ok (.bipush 77, 2) := by decide +kernel
theorem dX11_person_163 : decode cX11_person 163 = .ok (.iconst 2, 1) := by decide +kernel
theorem dX11_person_164 : decode cX11_person 164 = .ok (.iload_n 1, 1) := by decide +kernel
theorem dX11_person_165 : decode cX11_person 165 = .ok (.imul, 1) := by decide +kernel
theorem dX11_person_166 : decode cX11_person 166 = .ok (.iadd, 1) := by decide +kernel
theorem dX11_person_167 : decode cX11_person 167 = .ok (.iconst 1, 1) := by decide +kernel
theorem dX11_person_168 : decode cX11_person 168 = .ok (.iadd, 1) := by decide +kernel
theorem dX11_person_169 : decode cX11_person 169 = .ok (.iaload, 1) := by decide +kernel
theorem dX11_person_170 : decode cX11_person 170 = .ok (.ireturn, 1) := by decide +kernel
theorem dX11_person_171 : decode cX11_person 171 = .ok (.aload_n 0, 1) := by decide +kernel
theorem dX11_person_172 : decode cX11_person 172 = .ok (.getfield 7, 3) := by decide +kernel
theorem dX11_person_175 : decode cX11_person 175 = .ok (.bipush 109, 2) := by decide +kernel
theorem dX11_person_177 : decode cX11_person 177 = .ok (.iconst 2, 1) := by decide +kernel
theorem dX11_person_178 : decode cX11_person 178 = .ok (.iload_n 1, 1) := by decide +kernel
theorem dX11_person_179 : decode cX11_person 179 = .ok (.imul, 1) := by decide +kernel
theorem dX11_person_180 : decode cX11_person 180 = .ok (.iadd, 1) := by decide +kernel
theorem dX11_person_181 : decode cX11_person 181 = .ok (.iaload, 1) := by decide +kernel
theorem dX11_person_182 : decode cX11_person 182 = .ok (.ireturn, 1) := by decide +kernel
theorem dX11_person_183 : decode cX11_person 183 = .ok (.aload_n 0, 1) := by decide +kernel
theorem dX11_person_184 : decode cX11_person 184 = .ok (.getfield 7, 3) := by decide +kernel
theorem dX11_person_187 : decode cX11_person 187 = .ok (.bipush 109, 2) := by decide +kernel
theorem dX11_person_189 : decode cX11_person 189 = .ok (.iconst 2, 1) := by decide +kernel
theorem dX11_person_190 : decode cX11_person 190 = .ok (.iload_n 1, 1) := by decide +kernel
theorem dX11_person_191 : decode cX11_person 191 = .ok (.imul, 1) := by decide +kernel
theorem dX11_person_192 : decode cX11_person 192 = .ok (.iadd, 1) := by decide +kernel
theorem dX11_person_193 : decode cX11_person 193 = .ok (.iconst 1, 1) := by decide +kernel
theorem dX11_person_194 : decode cX11_person 194 = .ok (.iadd, 1) := by decide +kernel
theorem dX11_person_195 : decode cX11_person 195 = .ok (.iaload, 1) := by decide +kernel
theorem dX11_person_196 : decode cX11_person 196 = .ok (.ireturn, 1) := by decide +kernel
theorem dX11_person_197 : decode cX11_person 197 = .ok (.iload_n 2, 1) := by decide +kernel
theorem dX11_person_198 : decode cX11_person 198 = .ok (.i2l, 1) := by decide +kernel
theorem dX11_person_199 : decode cX11_person 199 = .ok (.ldc2_w 152, 3) := by decide +kernel
theorem dX11_person_202 : decode cX11_person 202 = .ok (.ldc2_w 154, 3) := by decide +kernel
theorem dX11_person_205 : decode cX11_person 205 = .ok (.invokestatic 61, 3) := by decide +kernel
theorem dX11_person_208 : decode cX11_person 208 = .ok (.ifCond .eq 12, 3) := by decide +kernel
theorem dX11_person_211 : decode cX11_person 211 = .ok (.aload_n 0, 1) := by decide +kernel
theorem dX11_person_212 : decode cX11_person 212 = .ok (.iload_n 1, 1) := by decide +kernel
theorem dX11_person_213 : decode cX11_person 213 = .ok (.iload_n 2, 1) := by decide +kernel
theorem dX11_person_214 : decode cX11_person 214 = .ok (.invokevirtual 156, 3) := by decide +kernel
theorem dX11_person_217 : decode cX11_person 217 = .ok (.goto 5, 3) := by decide +kernel
theorem dX11_person_220 : decode cX11_person 220 = .ok (.ldc 147, 2) := by decide +kernel
theorem dX11_person_222 : decode cX11_person 222 = .ok (.ireturn, 1) := by decide +kernel
theorem dX11_quarter_0 : decode cX11_quarter 0 = .ok (.aload_n 0, 1) := by decide +kernel
theorem dX11_quarter_1 : decode cX11_quarter 1 = .ok (.iload_n 1, 1) := by decide +kernel
theorem dX11_quarter_2 : decode cX11_quarter 2 = .ok (.invokevirtual 65, 3) := by decide +kernel
theorem dX11_quarter_5 : decode cX11_quarter 5 = .ok (.ifCond .ne 6, 3) := by decide +kernel
theorem dX11_quarter_8 : decode cX11_quarter 8 = .ok (.ldc 148, 2) := by decide +kernel
theorem dX11_quarter_10 : decode cX11_quarter 10 = .ok (.ireturn, 1) := by decide +kernel
theorem dX11_quarter_11 : decode cX11_quarter 11 = .ok (.iload_n 3, 1) := by decide +kernel
theorem dX11_quarter_12 : decode cX11_quarter 12 = .ok (.i2l, 1) := by decide +kernel
theorem dX11_quarter_13 : decode cX11_quarter 13 = .ok (.lconst 0, 1) := by decide +kernel
theorem dX11_quarter_14 : decode cX11_quarter 14 = .ok (.lconst 1, 1) := by decide +kernel
theorem dX11_quarter_15 : decode cX11_quarter 15 = .ok (.invokestatic 61, 3) := by decide +kernel
theorem dX11_quarter_18 : decode cX11_quarter 18 = .ok (.ifCond .ne 6, 3) := by decide +kernel
theorem dX11_quarter_21 : decode cX11_quarter 21 = .ok (.ldc 147, 2) := by decide +kernel
theorem dX11_quarter_23 : decode cX11_quarter 23 = .ok (.ireturn, 1) := by decide +kernel
theorem dX11_quarter_24 : decode cX11_quarter 24 = .ok (.aload_n 0, 1) := by decide +kernel
theorem dX11_quarter_25 : decode cX11_quarter 25 = .ok (.invokevirtual 90, 3) := by decide +kernel
theorem dX11_quarter_28 : decode cX11_quarter 28 = .ok (.iload_n 2, 1) := by decide +kernel
theorem dX11_quarter_29 : decode cX11_quarter 29 = .ok (.i2l, 1) := by decide +kernel
theorem dX11_quarter_30 : decode cX11_quarter 30 = .ok (.lconst 0, 1) := by decide +kernel
theorem dX11_quarter_31 : decode cX11_quarter 31 = .ok (.aload_n 0, 1) := by decide +kernel
theorem dX11_quarter_32 : decode cX11_quarter 32 = .ok (.getfield 29, 3) := by decide +kernel
theorem dX11_quarter_35 : decode cX11_quarter 35 = .ok (.iload_n 1, 1) := by decide +kernel
theorem dX11_quarter_36 : decode cX11_quarter 36 = .ok (.iaload, 1) := by decide +kernel
theorem dX11_quarter_37 : decode cX11_quarter 37 = .ok (.iconst 1, 1) := by decide +kernel
theorem dX11_quarter_38 : decode cX11_quarter 38 = .ok (.isub, 1) := by decide +kernel
theorem dX11_quarter_39 : decode cX11_quarter 39 = .ok (.i2l, 1) := by decide +kernel
theorem dX11_quarter_40 : decode cX11_quarter 40 = .ok (.invokestatic 61, 3) := by decide +kernel
theorem dX11_quarter_43 : decode cX11_quarter 43 = .ok (.ifCond .ne 7, 3) := by decide +kernel
theorem dX11_quarter_46 : decode cX11_quarter 46 = .ok (.iconst (-1), 1) := by decide +kernel
theorem dX11_quarter_47 : decode cX11_quarter 47 = .ok (.goto 32, 3) := by decide +kernel
theorem dX11_quarter_50 : decode cX11_quarter 50 = .ok (.iload_n 3, 1) := by decide +kernel
theorem dX11_quarter_51 : decode cX11_quarter 51 = .ok (.ifCond .ne 17, 3) := by decide +kernel
theorem dX11_quarter_54 : decode cX11_quarter 54 = .ok (.aload_n 0, 1) := by decide +kernel
theorem dX11_quarter_55 : decode cX11_quarter 55 = .ok (.getfield 32, 3) := by decide +kernel
theorem dX11_quarter_58 : decode cX11_quarter 58 = .ok (.bipush 10, 2) := by decide +kernel
theorem dX11_quarter_60 : decode cX11_quarter 60 = .ok (.iload_n 1, 1) := by decide +kernel
theorem dX11_quarter_61 : decode cX11_quarter 61 = .ok (.imul, 1) := by decide +kernel
theorem dX11_quarter_62 : decode cX11_quarter 62 = .ok (.iload_n 2, 1) := by decide +kernel
theorem dX11_quarter_63 : decode cX11_quarter 63 = .ok (.iadd, 1) := by decide +kernel
theorem dX11_quarter_64 : decode cX11_quarter 64 = .ok (.iaload, 1) := by decide +kernel
theorem dX11_quarter_65 : decode cX11_quarter 65 = .ok (.goto 14, 3) := by decide +kernel
theorem dX11_quarter_68 : decode cX11_quarter 68 = .ok (.aload_n 0, 1) := by decide +kernel
theorem dX11_quarter_69 : decode cX11_quarter 69 = .ok (.getfield 35, 3) := by decide +kernel
theorem dX11_quarter_72 : decode cX11_quarter 72 = .ok (.bipush 10, 2) := by decide +kernel
theorem dX11_quarter_74 : decode cX11_quarter 74 = .ok (.iload_n 1, 1) := by decide +kernel
theorem dX11_quarter_75 : decode cX11_quarter 75 = .ok (.imul, 1) := by decide +kernel
theorem dX11_quarter_76 : decode cX11_quarter 76 = .ok (.iload_n 2, 1) := by decide +kernel
theorem dX11_quarter_77 : decode cX11_quarter 77 = .ok (.iadd, 1) := by decide +kernel
theorem dX11_quarter_78 : decode cX11_quarter 78 = .ok (.iaload, 1) := by decide +kernel
theorem dX11_quarter_79 : decode cX11_quarter 79 = .ok (.ireturn, 1) := by decide +kernel
theorem dX11_steps_0 : decode cX11_steps 0 = .ok (.iconst 0, 1) := by decide +kernel
theorem dX11_steps_1 : decode cX11_steps 1 = .ok (.istore_n 3, 1) := by decide +kernel
theorem dX11_steps_2 : decode cX11_steps 2 = .ok (.iload_n 3, 1) := by decide +kernel
theorem dX11_steps_3 : decode cX11_steps 3 = .ok (.bipush 16, 2) := by decide +kernel
theorem dX11_steps_5 : decode cX11_steps 5 = .ok (.if_icmp .ge 22, 3) := by decide +kernel
theorem dX11_steps_8 : decode cX11_steps 8 = .ok (.aload_n 2, 1) := by decide +kernel
theorem dX11_steps_9 : decode cX11_steps 9 = .ok (.iload_n 3, 1) := by decide +kernel
theorem dX11_steps_10 : decode cX11_steps 10 = .ok (.iload_n 3, 1) := by decide +kernel
theorem dX11_steps_11 : decode cX11_steps 11 = .ok (.iload_n 1, 1) := by decide +kernel
theorem dX11_steps_12 : decode cX11_steps 12 = .ok (.if_icmp .ne 7, 3) := by decide +kernel
theorem dX11_steps_15 : decode cX11_steps 15 = .ok (.iconst 0, 1) := by decide +kernel
theorem dX11_steps_16 : decode cX11_steps 16 = .ok (.goto 4, 3) := by decide +kernel
theorem dX11_steps_19 : decode cX11_steps 19 = .ok (.iconst (-1), 1) := by decide +kernel
theorem dX11_steps_20 : decode cX11_steps 20 = .ok (.iastore, 1) := by decide +kernel
theorem dX11_steps_21 : decode cX11_steps 21 = .ok (.iinc 3 1, 3) := by decide +kernel
theorem dX11_steps_24 : decode cX11_steps 24 = .ok (.goto (-22), 3) := by decide +kernel
theorem dX11_steps_27 : decode cX11_steps 27 = .ok (.iload_n 1, 1) := by decide +kernel
theorem dX11_steps_28 : decode cX11_steps 28 = .ok (.istore_n 3, 1) := by decide +kernel
theorem dX11_steps_29 : decode cX11_steps 29 = .ok (.iload_n 3, 1) := by decide +kernel
theorem dX11_steps_30 : decode cX11_steps 30 = .ok (.ifCond .lt 112, 3) := by decide +kernel
theorem dX11_steps_33 : decode cX11_steps 33 = .ok (.iconst 0, 1) := by decide +kernel
theorem dX11_steps_34 : decode cX11_steps 34 = .ok (.istore 4, 2) := by decide +kernel
theorem dX11_steps_36 : decode cX11_steps 36 = .ok (.iload 4, 2) := by decide +kernel
theorem dX11_steps_38 : decode cX11_steps 38 = .ok (.iconst 2, 1) := by decide +kernel
theorem dX11_steps_39 : decode cX11_steps 39 = .ok (.if_icmp .ge 97, 3) := by decide +kernel
theorem dX11_steps_42 : decode cX11_steps 42 = .ok (.aload_n 0, 1) := by decide +kernel
theorem dX11_steps_43 : decode cX11_steps 43 = .ok (.getfield 7, 3) := by decide +kernel
theorem dX11_steps_46 : decode cX11_steps 46 = .ok (.iload 4, 2) := by decide +kernel
theorem dX11_steps_48 : decode cX11_steps 48 = .ok (.ifCond .ne 8, 3) := by decide +kernel
theorem dX11_steps_51 : decode cX11_steps 51 = .ok (.bipush 45, 2) := by decide +kernel
theorem dX11_steps_53 : decode cX11_steps 53 = .ok (.goto 5, 3) := by decide +kernel
theorem dX11_steps_56 : decode cX11_steps 56 = .ok (.bipush 61, 2) := by decide +kernel
theorem dX11_steps_58 : decode cX11_steps 58 = .ok (.iload_n 3, 1) := by decide +kernel
theorem dX11_steps_59 : decode cX11_steps 59 = .ok (.iadd, 1) := by decide +kernel
theorem dX11_steps_60 : decode cX11_steps 60 = .ok (.iaload, 1) := by decide +kernel
theorem dX11_steps_61 : decode cX11_steps 61 = .ok (.istore 5, 2) := by decide +kernel
theorem dX11_steps_63 : decode cX11_steps 63 = .ok (.aload_n 2, 1) := by decide +kernel
theorem dX11_steps_64 : decode cX11_steps 64 = .ok (.iload_n 3, 1) := by decide +kernel
theorem dX11_steps_65 : decode cX11_steps 65 = .ok (.iaload, 1) := by decide +kernel
theorem dX11_steps_66 : decode cX11_steps 66 = .ok (.ifCond .lt 32, 3) := by decide +kernel
theorem dX11_steps_69 : decode cX11_steps 69 = .ok (.iload 5, 2) := by decide +kernel
theorem dX11_steps_71 : decode cX11_steps 71 = .ok (.iconst (-1), 1) := by decide +kernel
theorem dX11_steps_72 : decode cX11_steps 72 = .ok (.if_icmp .eq 26, 3) := by decide +kernel
theorem dX11_steps_75 : decode cX11_steps 75 = .ok (.aload_n 2, 1) := by decide +kernel
theorem dX11_steps_76 : decode cX11_steps 76 = .ok (.iload 5, 2) := by decide +kernel
theorem dX11_steps_78 : decode cX11_steps 78 = .ok (.iaload, 1) := by decide +kernel
theorem dX11_steps_79 : decode cX11_steps 79 = .ok (.ifCond .lt 15, 3) := by decide +kernel
theorem dX11_steps_82 : decode cX11_steps 82 = .ok (.aload_n 2, 1) := by decide +kernel
theorem dX11_steps_83 : decode cX11_steps 83 = .ok (.iload_n 3, 1) := by decide +kernel
theorem dX11_steps_84 : decode cX11_steps 84 = .ok (.iaload, 1) := by decide +kernel
theorem dX11_steps_85 : decode cX11_steps 85 = .ok (.iconst 1, 1) := by decide +kernel
theorem dX11_steps_86 : decode cX11_steps 86 = .ok (.iadd, 1) := by decide +kernel
theorem dX11_steps_87 : decode cX11_steps 87 = .ok (.aload_n 2, 1) := by decide +kernel
theorem dX11_steps_88 : decode cX11_steps 88 = .ok (.iload 5, 2) := by decide +kernel
theorem dX11_steps_90 : decode cX11_steps 90 = .ok (.iaload, 1) := by decide +kernel
theorem dX11_steps_91 : decode cX11_steps 91 = .ok (.if_icmp .ge 7, 3) := by decide +kernel
theorem dX11_steps_94 : decode cX11_steps 94 = .ok (.iconst 1, 1) := by decide +kernel
theorem dX11_steps_95 : decode cX11_steps 95 = .ok (.goto 4, 3) := by decide +kernel
theorem dX11_steps_98 : decode cX11_steps 98 = .ok (.iconst 0, 1) := by decide +kernel
theorem dX11_steps_99 : decode cX11_steps 99 = .ok (.istore 6, 2) := by decide +kernel
theorem dX11_steps_101 : decode cX11_steps 101 = .ok (.aload_n 2, 1) := by decide +kernel
theorem dX11_steps_102 : decode cX11_steps 102 = .ok (.iload 6, 2) := by decide +kernel
theorem dX11_steps_104 : decode cX11_steps 104 = .ok (.ifCond .eq 8, 3) := by decide +kernel
theorem dX11_steps_107 : decode cX11_steps 107 = .ok (.iload 5, 2) := by decide +kernel
theorem dX11_steps_109 : decode cX11_steps 109 = .ok (.goto 4, 3) := by decide +kernel
theorem dX11_steps_112 : decode cX11_steps 112 = .ok (.iload_n 3, 1) := by decide +kernel
theorem dX11_steps_113 : decode cX11_steps 113 = .ok (.iload 6, 2) := by decide +kernel
theorem dX11_steps_115 : decode cX11_steps 115 = .ok (.ifCond .eq 11, 3) := by decide +kernel
theorem dX11_steps_118 : decode cX11_steps 118 = .ok (.aload_n 2, 1) := by decide +kernel
theorem dX11_steps_119 : decode cX11_steps 119 = .ok (.iload_n 3, 1) := by decide +kernel
theorem dX11_steps_120 : decode cX11_steps 120 = .ok (.iaload, 1) := by decide +kernel
theorem dX11_steps_121 : decode cX11_steps 121 = .ok (.iconst 1, 1) := by decide +kernel
theorem dX11_steps_122 : decode cX11_steps 122 = .ok (.iadd, 1) := by decide +kernel
theorem dX11_steps_123 : decode cX11_steps 123 = .ok (.goto 6, 3) := by decide +kernel
theorem dX11_steps_126 : decode cX11_steps 126 = .ok (.aload_n 2, 1) := by decide +kernel
theorem dX11_steps_127 : decode cX11_steps 127 = .ok (.iload_n 3, 1) := by decide +kernel
theorem dX11_steps_128 : decode cX11_steps 128 = .ok (.iaload, 1) := by decide +kernel
theorem dX11_steps_129 : decode cX11_steps 129 = .ok (.iastore, 1) := by decide +kernel
theorem dX11_steps_130 : decode cX11_steps 130 = .ok (.iinc 4 1, 3) := by decide +kernel
theorem dX11_steps_133 : decode cX11_steps 133 = .ok (.goto (-97), 3) := by decide +kernel
theorem dX11_steps_136 : decode cX11_steps 136 = .ok (.iinc 3 (-1), 3) := by decide +kernel
theorem dX11_steps_139 : decode cX11_steps 139 = .ok (.goto (-110), 3) := by decide +kernel
theorem dX11_steps_142 : decode cX11_steps 142 = .ok (.return_, 1) := by decide +kernel
theorem dX11_kin_0 : decode cX11_kin 0 = .ok (.aload_n 0, 1) := by decide +kernel
theorem dX11_kin_1 : decode cX11_kin 1 = .ok (.iload_n 1, 1) := by decide +kernel
theorem dX11_kin_2 : decode cX11_kin 2 = .ok (.invokevirtual 65, 3) := by decide +kernel
theorem dX11_kin_5 : decode cX11_kin 5 = .ok (.ifCond .eq 11, 3) := by decide +kernel
theorem dX11_kin_8 : decode cX11_kin 8 = .ok (.aload_n 0, 1) := by decide +kernel
theorem dX11_kin_9 : decode cX11_kin 9 = .ok (.iload_n 2, 1) := by decide +kernel
theorem dX11_kin_10 : decode cX11_kin 10 = .ok (.invokevirtual 65, 3) := by decide +kernel
theorem dX11_kin_13 : decode cX11_kin 13 = .ok (.ifCond .ne 6, 3) := by decide +kernel
theorem dX11_kin_16 : decode cX11_kin 16 = .ok (.ldc 148, 2) := by decide +kernel
theorem dX11_kin_18 : decode cX11_kin 18 = .ok (.ireturn, 1) := by decide +kernel
theorem dX11_kin_19 : decode cX11_kin 19 = .ok (.iload_n 3, 1) := by decide +kernel
theorem dX11_kin_20 : decode cX11_kin 20 = .ok (.i2l, 1) := by decide +kernel
theorem dX11_kin_21 : decode cX11_kin 21 = .ok (.lconst 0, 1) := by decide +kernel
theorem dX11_kin_22 : decode cX11_kin 22 = .ok (.lconst 1, 1) := by decide +kernel
theorem dX11_kin_23 : decode cX11_kin 23 = .ok (.invokestatic 61, 3) := by decide +kernel
theorem dX11_kin_26 : decode cX11_kin 26 = .ok (.ifCond .ne 6, 3) := by decide +kernel
theorem dX11_kin_29 : decode cX11_kin 29 = .ok (.ldc 147, 2) := by decide +kernel
theorem dX11_kin_31 : decode cX11_kin 31 = .ok (.ireturn, 1) := by decide +kernel
theorem dX11_kin_32 : decode cX11_kin 32 = .ok (.aload_n 0, 1) := by decide +kernel
theorem dX11_kin_33 : decode cX11_kin 33 = .ok (.iload_n 1, 1) := by decide +kernel
theorem dX11_kin_34 : decode cX11_kin 34 = .ok (.aload_n 0, 1) := by decide +kernel
theorem dX11_kin_35 : decode cX11_kin 35 = .ok (.getfield 47, 3) := by decide +kernel
theorem dX11_kin_38 : decode cX11_kin 38 = .ok (.invokevirtual 160, 3) := by decide +kernel
theorem dX11_kin_41 : decode cX11_kin 41 = .ok (.aload_n 0, 1) := by decide +kernel
theorem dX11_kin_42 : decode cX11_kin 42 = .ok (.iload_n 2, 1) := by decide +kernel
theorem dX11_kin_43 : decode cX11_kin 43 = .ok (.aload_n 0, 1) := by decide +kernel
theorem dX11_kin_44 : decode cX11_kin 44 = .ok (.getfield 50, 3) := by decide +kernel
theorem dX11_kin_47 : decode cX11_kin 47 = .ok (.invokevirtual 160, 3) := by decide +kernel
theorem dX11_kin_50 : decode cX11_kin 50 = .ok (.iconst (-1), 1) := by decide +kernel
theorem dX11_kin_51 : decode cX11_kin 51 = .ok (.istore 4, 2) := by decide +kernel
theorem dX11_kin_53 : decode cX11_kin 53 = .ok (.iconst (-1), 1) := by decide +kernel
theorem dX11_kin_54 : decode cX11_kin 54 = .ok (.istore 5, 2) := by decide +kernel
theorem dX11_kin_56 : decode cX11_kin 56 = .ok (.iconst 0, 1) := by decide +kernel
theorem dX11_kin_57 : decode cX11_kin 57 = .ok (.istore 6, 2) := by decide +kernel
theorem dX11_kin_59 : decode cX11_kin 59 = .ok (.iload 6, 2) := by decide +kernel
theorem dX11_kin_61 : decode cX11_kin 61 = .ok (.aload_n 0, 1) := by decide +kernel
theorem dX11_kin_62 : decode cX11_kin 62 = .ok (.getfield 7, 3) := by decide +kernel
theorem dX11_kin_65 : decode cX11_kin 65 = .ok (.iconst 0, 1) := by decide +kernel
theorem dX11_kin_66 : decode cX11_kin 66 = .ok (.iaload, 1) := by decide +kernel
theorem dX11_kin_67 : decode cX11_kin 67 = .ok (.if_icmp .ge 94, 3) := by decide +kernel
theorem dX11_kin_70 : decode cX11_kin 70 = .ok (.aload_n 0, 1) := by decide +kernel
theorem dX11_kin_71 : decode cX11_kin 71 = .ok (.getfield 47, 3) := by decide +kernel
theorem dX11_kin_74 : decode cX11_kin 74 = .ok (.iload 6, 2) := by decide +kernel
theorem dX11_kin_76 : decode cX11_kin 76 = .ok (.iaload, 1) := by decide +kernel
theorem dX11_kin_77 : decode cX11_kin 77 = .ok (.aload_n 0, 1) := by decide +kernel
theorem dX11_kin_78 : decode cX11_kin 78 = .ok (.getfield 50, 3) := by decide +kernel
theorem dX11_kin_81 : decode cX11_kin 81 = .ok (.iload 6, 2) := by decide +kernel
theorem dX11_kin_83 : decode cX11_kin 83 = .ok (.iaload, 1) := by decide +kernel
theorem dX11_kin_84 : decode cX11_kin 84 = .ok (.iadd, 1) := by decide +kernel
theorem dX11_kin_85 : decode cX11_kin 85 = .ok (.istore 7, 2) := by decide +kernel
theorem dX11_kin_87 : decode cX11_kin 87 = .ok (.aload_n 0, 1) := by decide +kernel
theorem dX11_kin_88 : decode cX11_kin 88 = .ok (.getfield 47, 3) := by decide +kernel
theorem dX11_kin_91 : decode cX11_kin 91 = .ok (.iload 6, 2) := by decide +kernel
theorem dX11_kin_93 : decode cX11_kin 93 = .ok (.iaload, 1) := by decide +kernel
theorem dX11_kin_94 : decode cX11_kin 94 = .ok (.ifCond .lt 30, 3) := by decide +kernel
theorem dX11_kin_97 : decode cX11_kin 97 = .ok (.aload_n 0, 1) := by decide +kernel
theorem dX11_kin_98 : decode cX11_kin 98 = .ok (.getfield 50, 3) := by decide +kernel
theorem dX11_kin_101 : decode cX11_kin 101 = .ok (.iload 6, 2) := by decide +kernel
theorem dX11_kin_103 : decode cX11_kin 103 = .ok (.iaload, 1) := by decide +kernel
theorem dX11_kin_104 : decode cX11_kin 104 = .ok (.ifCond .lt 20, 3) := by decide +kernel
theorem dX11_kin_107 : decode cX11_kin 107 = .ok (.iload 4, 2) := by decide +kernel
theorem dX11_kin_109 : decode cX11_kin 109 = .ok (.iconst (-1), 1) := by decide +kernel
theorem dX11_kin_110 : decode cX11_kin 110 = .ok (.if_icmp .eq 10, 3) := by decide +kernel
theorem dX11_kin_113 : decode cX11_kin 113 = .ok (.iload 7, 2) := by decide +kernel
theorem dX11_kin_115 : decode cX11_kin 115 = .ok (.iload 4, 2) := by decide +kernel
theorem dX11_kin_117 : decode cX11_kin 117 = .ok (.if_icmp .gt 7, 3) := by decide +kernel
theorem dX11_kin_120 : decode cX11_kin 120 = .ok (.iconst 1, 1) := by decide +kernel
theorem dX11_kin_121 : decode cX11_kin 121 = .ok (.goto 4, 3) := by decide +kernel
theorem dX11_kin_124 : decode cX11_kin 124 = .ok (.iconst 0, 1) := by decide +kernel
theorem dX11_kin_125 : decode cX11_kin 125 = .ok (.istore 8, 2) := by decide +kernel
theorem dX11_kin_127 : decode cX11_kin 127 = .ok (.iload 8, 2) := by decide +kernel
theorem dX11_kin_129 : decode cX11_kin 129 = .ok (.ifCond .eq 8, 3) := by decide +kernel
theorem dX11_kin_132 : decode cX11_kin 132 = .ok (.iload 7, 2) := by decide +kernel
theorem dX11_kin_134 : decode cX11_kin 134 = .ok (.goto 5, 3) := by decide +kernel
theorem dX11_kin_137 : decode cX11_kin 137 = .ok (.iload 4, 2) := by decide +kernel
theorem dX11_kin_139 : decode cX11_kin 139 = .ok (.istore 4, 2) := by decide +kernel
theorem dX11_kin_141 : decode cX11_kin 141 = .ok (.iload 8, 2) := by decide +kernel
theorem dX11_kin_143 : decode cX11_kin 143 = .ok (.ifCond .eq 8, 3) := by decide +kernel
theorem dX11_kin_146 : decode cX11_kin 146 = .ok (.iload 6, 2) := by decide +kernel
theorem dX11_kin_148 : decode cX11_kin 148 = .ok (.goto 5, 3) := by decide +kernel
theorem dX11_kin_151 : decode cX11_kin 151 = .ok (.iload 5, 2) := by decide +kernel
theorem dX11_kin_153 : decode cX11_kin 153 = .ok (.istore 5, 2) := by decide +kernel
theorem dX11_kin_155 : decode cX11_kin 155 = .ok (.iinc 6 1, 3) := by decide +kernel
theorem dX11_kin_158 : decode cX11_kin 158 = .ok (.goto (-99), 3) := by decide +kernel
theorem dX11_kin_161 : decode cX11_kin 161 = .ok (.iload_n 3, 1) := by decide +kernel
theorem dX11_kin_162 : decode cX11_kin 162 = .ok (.ifCond .ne 8, 3) := by decide +kernel
theorem dX11_kin_165 : decode cX11_kin 165 = .ok (.iload 4, 2) := by decide +kernel
theorem dX11_kin_167 : decode cX11_kin 167 = .ok (.goto 5, 3) := by decide +kernel
theorem dX11_kin_170 : decode cX11_kin 170 = .ok (.iload 5, 2) := by decide +kernel
theorem dX11_kin_172 : decode cX11_kin 172 = .ok (.ireturn, 1) := by decide +kernel
theorem dX11_would_0 : decode cX11_would 0 = .ok (.aload_n 0, 1) := by decide +kernel
theorem dX11_would_1 : decode cX11_would 1 = .ok (.iload_n 1, 1) := by decide +kernel
theorem dX11_would_2 : decode cX11_would 2 = .ok (.invokevirtual 65, 3) := by decide +kernel
theorem dX11_would_5 : decode cX11_would 5 = .ok (.ifCond .eq 16, 3) := by decide +kernel
theorem dX11_would_8 : decode cX11_would 8 = .ok (.aload_n 0, 1) := by decide +kernel
theorem dX11_would_9 : decode cX11_would 9 = .ok (.iload_n 2, 1) := by decide +kernel
theorem dX11_would_10 : decode cX11_would 10 = .ok (.invokevirtual 65, 3) := by decide +kernel
theorem dX11_would_13 : decode cX11_would 13 = .ok (.ifCond .eq 8, 3) := by decide +kernel
theorem dX11_would_16 : decode cX11_would 16 = .ok (.iload_n 1, 1) := by decide +kernel
theorem dX11_would_17 : decode cX11_would 17 = .ok (.iload_n 2, 1) := by decide +kernel
theorem dX11_would_18 : decode cX11_would 18 = .ok (.if_icmp .ne 6, 3) := by decide +kernel
theorem dX11_would_21 : decode cX11_would 21 = .ok (.ldc 148, 2) := by decide +kernel
theorem dX11_would_23 : decode cX11_would 23 = .ok (.ireturn, 1) := by decide +kernel
theorem dX11_would_24 : decode cX11_would 24 = .ok (.aload_n 0, 1) := by decide +kernel
theorem dX11_would_25 : decode cX11_would 25 = .ok (.iload_n 1, 1) := by decide +kernel
theorem dX11_would_26 : decode cX11_would 26 = .ok (.invokevirtual 164, 3) := by decide +kernel
theorem dX11_would_29 : decode cX11_would 29 = .ok (.ifCond .eq 11, 3) := by decide +kernel
theorem dX11_would_32 : decode cX11_would 32 = .ok (.aload_n 0, 1) := by decide +kernel
theorem dX11_would_33 : decode cX11_would 33 = .ok (.iload_n 2, 1) := by decide +kernel
theorem dX11_would_34 : decode cX11_would 34 = .ok (.invokevirtual 69, 3) := by decide +kernel
theorem dX11_would_37 : decode cX11_would 37 = .ok (.ifCond .ne 6, 3) := by decide +kernel
theorem dX11_would_40 : decode cX11_would 40 = .ok (.ldc 167, 2) := by decide +kernel
theorem dX11_would_42 : decode cX11_would 42 = .ok (.ireturn, 1) := by decide +kernel
theorem dX11_would_43 : decode cX11_would 43 = .ok (.aload_n 0, 1) := by decide +kernel
theorem dX11_would_44 : decode cX11_would 44 = .ok (.invokevirtual 90, 3) := by decide +kernel
theorem dX11_would_47 : decode cX11_would 47 = .ok (.aload_n 0, 1) := by decide +kernel
theorem dX11_would_48 : decode cX11_would 48 = .ok (.bipush 16, 2) := by decide +kernel
theorem dX11_would_50 : decode cX11_would 50 = .ok (.aload_n 0, 1) := by decide +kernel
theorem dX11_would_51 : decode cX11_would 51 = .ok (.getfield 7, 3) := by decide +kernel
theorem dX11_would_54 : decode cX11_would 54 = .ok (.bipush 29, 2) := by decide +kernel
theorem dX11_would_56 : decode cX11_would 56 = .ok (.iload_n 1, 1) := by decide +kernel
theorem dX11_would_57 : decode cX11_would 57 = .ok (.iadd, 1) := by decide +kernel
theorem dX11_would_58 : decode cX11_would 58 = .ok (.iaload, 1) := by decide +kernel
theorem dX11_would_59 : decode cX11_would 59 = .ok (.iload_n 1, 1) := by decide +kernel
theorem dX11_would_60 : decode cX11_would 60 = .ok (.iload_n 2, 1) := by decide +kernel
theorem dX11_would_61 : decode cX11_would 61 = .ok (.invokevirtual 82, 3) := by decide +kernel
theorem dX11_would_64 : decode cX11_would 64 = .ok (.aload_n 0, 1) := by decide +kernel
theorem dX11_would_65 : decode cX11_would 65 = .ok (.getfield 29, 3) := by decide +kernel
theorem dX11_would_68 : decode cX11_would 68 = .ok (.bipush 16, 2) := by decide +kernel
theorem dX11_would_70 : decode cX11_would 70 = .ok (.iaload, 1) := by decide +kernel
theorem dX11_would_71 : decode cX11_would 71 = .ok (.ireturn, 1) := by decide +kernel
theorem dX11_dated_0 : decode cX11_dated 0 = .ok (.iload_n 1, 1) := by decide +kernel
theorem dX11_dated_1 : decode cX11_dated 1 = .ok (.i2l, 1) := by decide +kernel
theorem dX11_dated_2 : decode cX11_dated 2 = .ok (.lconst 0, 1) := by decide +kernel
theorem dX11_dated_3 : decode cX11_dated 3 = .ok (.ldc2_w 168, 3) := by decide +kernel
theorem dX11_dated_6 : decode cX11_dated 6 = .ok (.invokestatic 61, 3) := by decide +kernel
theorem dX11_dated_9 : decode cX11_dated 9 = .ok (.ifCond .eq 16, 3) := by decide +kernel
theorem dX11_dated_12 : decode cX11_dated 12 = .ok (.iload_n 2, 1) := by decide +kernel
theorem dX11_dated_13 : decode cX11_dated 13 = .ok (.i2l, 1) := by decide +kernel
theorem dX11_dated_14 : decode cX11_dated 14 = .ok (.iload_n 1, 1) := by decide +kernel
theorem dX11_dated_15 : decode cX11_dated 15 = .ok (.i2l, 1) := by decide +kernel
theorem dX11_dated_16 : decode cX11_dated 16 = .ok (.ldc2_w 168, 3) := by decide +kernel
theorem dX11_dated_19 : decode cX11_dated 19 = .ok (.invokestatic 61, 3) := by decide +kernel
theorem dX11_dated_22 : decode cX11_dated 22 = .ok (.ifCond .ne 6, 3) := by decide +kernel
theorem dX11_dated_25 : decode cX11_dated 25 = .ok (.ldc 147, 2) := by decide +kernel
theorem dX11_dated_27 : decode cX11_dated 27 = .ok (.ireturn, 1) := by decide +kernel
theorem dX11_dated_28 : decode cX11_dated 28 = .ok (.aload_n 0, 1) := by decide +kernel
theorem dX11_dated_29 : decode cX11_dated 29 = .ok (.invokevirtual 134, 3) := by decide +kernel
theorem dX11_dated_32 : decode cX11_dated 32 = .ok (.istore_n 3, 1) := by decide +kernel
theorem dX11_dated_33 : decode cX11_dated 33 = .ok (.iconst 0, 1) := by decide +kernel
theorem dX11_dated_34 : decode cX11_dated 34 = .ok (.istore 4, 2) := by decide +kernel
theorem dX11_dated_36 : decode cX11_dated 36 = .ok (.iconst 0, 1) := by decide +kernel
theorem dX11_dated_37 : decode cX11_dated 37 = .ok (.istore 5, 2) := by decide +kernel
theorem dX11_dated_39 : decode cX11_dated 39 = .ok (.iload 5, 2) := by decide +kernel
theorem dX11_dated_41 : decode cX11_dated 41 = .ok (.aload_n 0, 1) := by decide +kernel
theorem dX11_dated_42 : decode cX11_dated 42 = .ok (.getfield 7, 3) := by decide +kernel
theorem dX11_dated_45 : decode cX11_dated 45 = .ok (.iconst 0, 1) := by decide +kernel
theorem dX11_dated_46 : decode cX11_dated 46 = .ok (.iaload, 1) := by decide +kernel
theorem dX11_dated_47 : decode cX11_dated 47 = .ok (.if_icmp .ge 54, 3) := by decide +kernel
theorem dX11_dated_50 : decode cX11_dated 50 = .ok (.iload_n 3, 1) := by decide +kernel
theorem dX11_dated_51 : decode cX11_dated 51 = .ok (.ifCond .eq 50, 3) := by decide +kernel
theorem dX11_dated_54 : decode cX11_dated 54 = .ok (.iload 4, 2) := by decide +kernel
theorem dX11_dated_56 : decode cX11_dated 56 = .ok (.aload_n 0, 1) := by decide +kernel
theorem dX11_dated_57 : decode cX11_dated 57 = .ok (.getfield 38, 3) := by decide +kernel
theorem dX11_dated_60 : decode cX11_dated 60 = .ok (.bipush 16, 2) := by decide +kernel
theorem dX11_dated_62 : decode cX11_dated 62 = .ok (.iload 5, 2) := by decide +kernel
theorem dX11_dated_64 : decode cX11_dated 64 = .ok (.iadd, 1) := by decide +kernel
theorem dX11_dated_65 : decode cX11_dated 65 = .ok (.iaload, 1) := by decide +kernel
theorem dX11_dated_66 : decode cX11_dated 66 = .ok (.iload_n 2, 1) := by decide +kernel
theorem dX11_dated_67 : decode cX11_dated 67 = .ok (.if_icmp .gt 24, 3) := by decide +kernel
theorem dX11_dated_70 : decode cX11_dated 70 = .ok (.aload_n 0, 1) := by decide +kernel
theorem dX11_dated_71 : decode cX11_dated 71 = .ok (.getfield 41, 3) := by decide +kernel
theorem dX11_dated_74 : decode cX11_dated 74 = .ok (.bipush 16, 2) := by decide +kernel
theorem dX11_dated_76 : decode cX11_dated 76 = .ok (.iload 5, 2) := by decide +kernel
theorem dX11_dated_78 : decode cX11_dated 78 = .ok (.iadd, 1) := by decide +kernel
theorem dX11_dated_79 : decode cX11_dated 79 = .ok (.iaload, 1) := by decide +kernel
theorem dX11_dated_80 : decode cX11_dated 80 = .ok (.iload_n 1, 1) := by decide +kernel
theorem dX11_dated_81 : decode cX11_dated 81 = .ok (.if_icmp .lt 10, 3) := by decide +kernel
theorem dX11_dated_84 : decode cX11_dated 84 = .ok (.iconst 1, 1) := by decide +kernel
theorem dX11_dated_85 : decode cX11_dated 85 = .ok (.iload 5, 2) := by decide +kernel
theorem dX11_dated_87 : decode cX11_dated 87 = .ok (.ishl, 1) := by decide +kernel
theorem dX11_dated_88 : decode cX11_dated 88 = .ok (.goto 4, 3) := by decide +kernel
theorem dX11_dated_91 : decode cX11_dated 91 = .ok (.iconst 0, 1) := by decide +kernel
theorem dX11_dated_92 : decode cX11_dated 92 = .ok (.ior, 1) := by decide +kernel
theorem dX11_dated_93 : decode cX11_dated 93 = .ok (.istore 4, 2) := by decide +kernel
theorem dX11_dated_95 : decode cX11_dated 95 = .ok (.iinc 5 1, 3) := by decide +kernel
theorem dX11_dated_98 : decode cX11_dated 98 = .ok (.goto (-59), 3) := by decide +kernel
theorem dX11_dated_101 : decode cX11_dated 101 = .ok (.iload 4, 2) := by decide +kernel
theorem dX11_dated_103 : decode cX11_dated 103 = .ok (.ireturn, 1) := by decide +kernel
theorem dX11_signAt_0 : decode cX11_signAt 0 = .ok (.iload_n 1, 1) := by decide +kernel
theorem dX11_signAt_1 : decode cX11_signAt 1 = .ok (.i2l, 1) := by decide +kernel
theorem dX11_signAt_2 : decode cX11_signAt 2 = .ok (.lconst 0, 1) := by decide +kernel
theorem dX11_signAt_3 : decode cX11_signAt 3 = .ok (.aload_n 0, 1) := by decide +kernel
theorem dX11_signAt_4 : decode cX11_signAt 4 = .ok (.getfield 7, 3) := by decide +kernel
theorem dX11_signAt_7 : decode cX11_signAt 7 = .ok (.iconst 2, 1) := by decide +kernel
theorem dX11_signAt_8 : decode cX11_signAt 8 = .ok (.iaload, 1) := by decide +kernel
theorem dX11_signAt_9 : decode cX11_signAt 9 = .ok (.iconst 1, 1) := by decide +kernel
theorem dX11_signAt_10 : decode cX11_signAt 10 = .ok (.isub, 1) := by decide +kernel
theorem dX11_signAt_11 : decode cX11_signAt 11 = .ok (.i2l, 1) := by decide +kernel
theorem dX11_signAt_12 : decode cX11_signAt 12 = .ok (.invokestatic 61, 3) := by decide +kernel
theorem dX11_signAt_15 : decode cX11_signAt 15 = .ok (.ifCond .eq 14, 3) := by decide +kernel
theorem dX11_signAt_18 : decode cX11_signAt 18 = .ok (.aload_n 0, 1) := by decide +kernel
theorem dX11_signAt_19 : decode cX11_signAt 19 = .ok (.getfield 7, 3) := by decide +kernel
theorem dX11_signAt_22 : decode cX11_signAt 22 = .ok (.iconst 3, 1) := by decide +kernel
theorem dX11_signAt_23 : decode cX11_signAt 23 = .ok (.iload_n 1, 1) := by decide +kernel
theorem dX11_signAt_24 : decode cX11_signAt 24 = .ok (.iadd, 1) := by decide +kernel
theorem dX11_signAt_25 : decode cX11_signAt 25 = .ok (.iaload, 1) := by decide +kernel
theorem dX11_signAt_26 : decode cX11_signAt 26 = .ok (.goto 4, 3) := by decide +kernel
theorem dX11_signAt_29 : decode cX11_signAt 29 = .ok (.iconst (-1), 1) := by decide +kernel
theorem dX11_signAt_30 : decode cX11_signAt 30 = .ok (.ireturn, 1) := by decide +kernel
theorem dX11_comes_0 : decode cX11_comes 0 = .ok (.aload_n 0, 1) := by decide +kernel
theorem dX11_comes_1 : decode cX11_comes 1 = .ok (.getfield 7, 3) := by decide +kernel
theorem dX11_comes_4 : decode cX11_comes 4 = .ok (.iconst 0, 1) := by decide +kernel
theorem dX11_comes_5 : decode cX11_comes 5 = .ok (.iaload, 1) := by decide +kernel
theorem dX11_comes_6 : decode cX11_comes 6 = .ok (.istore 5, 2) := by decide +kernel
theorem dX11_comes_8 : decode cX11_comes 8 = .ok (.aload_n 0, 1) := by decide +kernel
theorem dX11_comes_9 : decode cX11_comes 9 = .ok (.getfield 7, 3) := by decide +kernel
theorem dX11_comes_12 : decode cX11_comes 12 = .ok (.bipush 13, 2) := by decide +kernel
theorem dX11_comes_14 : decode cX11_comes 14 = .ok (.iload 5, 2) := by decide +kernel
theorem dX11_comes_16 : decode cX11_comes 16 = .ok (.iadd, 1) := by decide +kernel
theorem dX11_comes_17 : decode cX11_comes 17 = .ok (.iload_n 1, 1) := by decide +kernel
theorem dX11_comes_18 : decode cX11_comes 18 = .ok (.iastore, 1) := by decide +kernel
theorem dX11_comes_19 : decode cX11_comes 19 = .ok (.aload_n 0, 1) := by decide +kernel
theorem dX11_comes_20 : decode cX11_comes 20 = .ok (.getfield 7, 3) := by decide +kernel
theorem dX11_comes_23 : decode cX11_comes 23 = .ok (.bipush 29, 2) := by decide +kernel
theorem dX11_comes_25 : decode cX11_comes 25 = .ok (.iload 5, 2) := by decide +kernel
theorem dX11_comes_27 : decode cX11_comes 27 = .ok (.iadd, 1) := by decide +kernel
theorem dX11_comes_28 : decode cX11_comes 28 = .ok (.iload_n 3, 1) := by decide +kernel
theorem dX11_comes_29 : decode cX11_comes 29 = .ok (.iconst (-1), 1) := by decide +kernel
theorem dX11_comes_30 : decode cX11_comes 30 = .ok (.if_icmp .ne 7, 3) := by decide +kernel
theorem dX11_comes_33 : decode cX11_comes 33 = .ok (.iload_n 2, 1) := by decide +kernel
theorem dX11_comes_34 : decode cX11_comes 34 = .ok (.goto 12, 3) := by decide +kernel
theorem dX11_comes_37 : decode cX11_comes 37 = .ok (.aload_n 0, 1) := by decide +kernel
theorem dX11_comes_38 : decode cX11_comes 38 = .ok (.getfield 7, 3) := by decide +kernel
theorem dX11_comes_41 : decode cX11_comes 41 = .ok (.bipush 29, 2) := by decide +kernel
theorem dX11_comes_43 : decode cX11_comes 43 = .ok (.iload_n 3, 1) := by decide +kernel
theorem dX11_comes_44 : decode cX11_comes 44 = .ok (.iadd, 1) := by decide +kernel
theorem dX11_comes_45 : decode cX11_comes 45 = .ok (.iaload, 1) := by decide +kernel
theorem dX11_comes_46 : decode cX11_comes 46 = .ok (.iastore, 1) := by decide +kernel
theorem dX11_comes_47 : decode cX11_comes 47 = .ok (.aload_n 0, 1) := by decide +kernel
theorem dX11_comes_48 : decode cX11_comes 48 = .ok (.getfield 7, 3) := by decide +kernel
theorem dX11_comes_51 : decode cX11_comes 51 = .ok (.bipush 45, 2) := by decide +kernel
theorem dX11_comes_53 : decode cX11_comes 53 = .ok (.iload 5, 2) := by decide +kernel
theorem dX11_comes_55 : decode cX11_comes 55 = .ok (.iadd, 1) := by decide +kernel
theorem dX11_comes_56 : decode cX11_comes 56 = .ok (.iload_n 3, 1) := by decide +kernel
theorem dX11_comes_57 : decode cX11_comes 57 = .ok (.iastore, 1) := by decide +kernel
theorem dX11_comes_58 : decode cX11_comes 58 = .ok (.aload_n 0, 1) := by decide +kernel
theorem dX11_comes_59 : decode cX11_comes 59 = .ok (.getfield 7, 3) := by decide +kernel
theorem dX11_comes_62 : decode cX11_comes 62 = .ok (.bipush 61, 2) := by decide +kernel
theorem dX11_comes_64 : decode cX11_comes 64 = .ok (.iload 5, 2) := by decide +kernel
theorem dX11_comes_66 : decode cX11_comes 66 = .ok (.iadd, 1) := by decide +kernel
theorem dX11_comes_67 : decode cX11_comes 67 = .ok (.iload 4, 2) := by decide +kernel
theorem dX11_comes_69 : decode cX11_comes 69 = .ok (.iastore, 1) := by decide +kernel
theorem dX11_comes_70 : decode cX11_comes 70 = .ok (.aload_n 0, 1) := by decide +kernel
theorem dX11_comes_71 : decode cX11_comes 71 = .ok (.getfield 7, 3) := by decide +kernel
theorem dX11_comes_74 : decode cX11_comes 74 = .ok (.bipush 77, 2) := by decide +kernel
theorem dX11_comes_76 : decode cX11_comes 76 = .ok (.iconst 2, 1) := by decide +kernel
theorem dX11_comes_77 : decode cX11_comes 77 = .ok (.iload 5, 2) := by decide +kernel
theorem dX11_comes_79 : decode cX11_comes 79 = .ok (.imul, 1) := by decide +kernel
theorem dX11_comes_80 : decode cX11_comes 80 = .ok (.iadd, 1) := by decide +kernel
theorem dX11_comes_81 : decode cX11_comes 81 = .ok (.iconst 0, 1) := by decide +kernel
theorem dX11_comes_82 : decode cX11_comes 82 = .ok (.iastore, 1) := by decide +kernel
theorem dX11_comes_83 : decode cX11_comes 83 = .ok (.aload_n 0, 1) := by decide +kernel
theorem dX11_comes_84 : decode cX11_comes 84 = .ok (.getfield 7, 3) := by decide +kernel
theorem dX11_comes_87 : decode cX11_comes 87 = .ok (.bipush 77, 2) := by decide +kernel
theorem dX11_comes_89 : decode cX11_comes 89 = .ok (.iconst 2, 1) := by decide +kernel
theorem dX11_comes_90 : decode cX11_comes 90 = .ok (.iload 5, 2) := by decide +kernel
theorem dX11_comes_92 : decode cX11_comes 92 = .ok (.imul, 1) := by decide +kernel
theorem dX11_comes_93 : decode cX11_comes 93 = .ok (.iadd, 1) := by decide +kernel
theorem dX11_comes_94 : decode cX11_comes 94 = .ok (.iconst 1, 1) := by decide +kernel
theorem dX11_comes_95 : decode cX11_comes 95 = .ok (.iadd, 1) := by decide +kernel
theorem dX11_comes_96 : decode cX11_comes 96 = .ok (.sipush 999, 3) := by decide +kernel
theorem dX11_comes_99 : decode cX11_comes 99 = .ok (.iastore, 1) := by decide +kernel
theorem dX11_comes_100 : decode cX11_comes 100 = .ok (.aload_n 0, 1) := by decide +kernel
theorem dX11_comes_101 : decode cX11_comes 101 = .ok (.getfield 7, 3) := by decide +kernel
theorem dX11_comes_104 : decode cX11_comes 104 = .ok (.bipush 109, 2) := by decide +kernel
theorem dX11_comes_106 : decode cX11_comes 106 = .ok (.iconst 2, 1) := by decide +kernel
theorem dX11_comes_107 : decode cX11_comes 107 = .ok (.iload 5, 2) := by decide +kernel
theorem dX11_comes_109 : decode cX11_comes 109 = .ok (.imul, 1) := by decide +kernel
theorem dX11_comes_110 : decode cX11_comes 110 = .ok (.iadd, 1) := by decide +kernel
theorem dX11_comes_111 : decode cX11_comes 111 = .ok (.iconst 0, 1) := by decide +kernel
theorem dX11_comes_112 : decode cX11_comes 112 = .ok (.iastore, 1) := by decide +kernel
theorem dX11_comes_113 : decode cX11_comes 113 = .ok (.aload_n 0, 1) := by decide +kernel
theorem dX11_comes_114 : decode cX11_comes 114 = .ok (.getfield 7, 3) := by decide +kernel
theorem dX11_comes_117 : decode cX11_comes 117 = .ok (.bipush 109, 2) := by decide +kernel
theorem dX11_comes_119 : decode cX11_comes 119 = .ok (.iconst 2, 1) := by decide +kernel
theorem dX11_comes_120 : decode cX11_comes 120 = .ok (.iload 5, 2) := by decide +kernel
theorem dX11_comes_122 : decode cX11_comes 122 = .ok (.imul, 1) := by decide +kernel
theorem dX11_comes_123 : decode cX11_comes 123 = .ok (.iadd, 1) := by decide +kernel
theorem dX11_comes_124 : decode cX11_comes 124 = .ok (.iconst 1, 1) := by decide +kernel
theorem dX11_comes_125 : decode cX11_comes 125 = .ok (.iadd, 1) := by decide +kernel
theorem dX11_comes_126 : decode cX11_comes 126 = .ok (.sipush 999, 3) := by decide +kernel
theorem dX11_comes_129 : decode cX11_comes 129 = .ok (.iastore, 1) := by decide +kernel
theorem dX11_comes_130 : decode cX11_comes 130 = .ok (.aload_n 0, 1) := by decide +kernel
theorem dX11_comes_131 : decode cX11_comes 131 = .ok (.getfield 7, 3) := by decide +kernel
theorem dX11_comes_134 : decode cX11_comes 134 = .ok (.iconst 0, 1) := by decide +kernel
theorem dX11_comes_135 : decode cX11_comes 135 = .ok (.dup2, 1) := by decide +kernel
theorem dX11_comes_136 : decode cX11_comes 136 = .ok (.iaload, 1) := by decide +kernel
theorem dX11_comes_137 : decode cX11_comes 137 = .ok (.iconst 1, 1) := by decide +kernel
theorem dX11_comes_138 : decode cX11_comes 138 = .ok (.iadd, 1) := by decide +kernel
theorem dX11_comes_139 : decode cX11_comes 139 = .ok (.iastore, 1) := by decide +kernel
theorem dX11_comes_140 : decode cX11_comes 140 = .ok (.return_, 1) := by decide +kernel
theorem dX11_put_0 : decode cX11_put 0 = .ok (.iload_n 3, 1) := by decide +kernel
theorem dX11_put_1 : decode cX11_put 1 = .ok (.iconst (-1), 1) := by decide +kernel
theorem dX11_put_2 : decode cX11_put 2 = .ok (.if_icmp .eq 11, 3) := by decide +kernel
theorem dX11_put_5 : decode cX11_put 5 = .ok (.aload_n 0, 1) := by decide +kernel
theorem dX11_put_6 : decode cX11_put 6 = .ok (.iload_n 3, 1) := by decide +kernel
theorem dX11_put_7 : decode cX11_put 7 = .ok (.invokevirtual 65, 3) := by decide +kernel
theorem dX11_put_10 : decode cX11_put 10 = .ok (.ifCond .eq 18, 3) := by decide +kernel
theorem dX11_put_13 : decode cX11_put 13 = .ok (.iload 4, 2) := by decide +kernel
theorem dX11_put_15 : decode cX11_put 15 = .ok (.iconst (-1), 1) := by decide +kernel
theorem dX11_put_16 : decode cX11_put 16 = .ok (.if_icmp .eq 15, 3) := by decide +kernel
theorem dX11_put_19 : decode cX11_put 19 = .ok (.aload_n 0, 1) := by decide +kernel
theorem dX11_put_20 : decode cX11_put 20 = .ok (.iload 4, 2) := by decide +kernel
theorem dX11_put_22 : decode cX11_put 22 = .ok (.invokevirtual 65, 3) := by decide +kernel
theorem dX11_put_25 : decode cX11_put 25 = .ok (.ifCond .ne 6, 3) := by decide +kernel
theorem dX11_put_28 : decode cX11_put 28 = .ok (.ldc 148, 2) := by decide +kernel
theorem dX11_put_30 : decode cX11_put 30 = .ok (.ireturn, 1) := by decide +kernel
theorem dX11_put_31 : decode cX11_put 31 = .ok (.iload_n 1, 1) := by decide +kernel
theorem dX11_put_32 : decode cX11_put 32 = .ok (.i2l, 1) := by decide +kernel
theorem dX11_put_33 : decode cX11_put 33 = .ok (.lconst 0, 1) := by decide +kernel
theorem dX11_put_34 : decode cX11_put 34 = .ok (.lconst 1, 1) := by decide +kernel
theorem dX11_put_35 : decode cX11_put 35 = .ok (.invokestatic 61, 3) := by decide +kernel
theorem dX11_put_38 : decode cX11_put 38 = .ok (.ifCond .eq 15, 3) := by decide +kernel
theorem dX11_put_41 : decode cX11_put 41 = .ok (.iload_n 2, 1) := by decide +kernel
theorem dX11_put_42 : decode cX11_put 42 = .ok (.i2l, 1) := by decide +kernel
theorem dX11_put_43 : decode cX11_put 43 = .ok (.lconst 0, 1) := by decide +kernel
theorem dX11_put_44 : decode cX11_put 44 = .ok (.ldc2_w 170, 3) := by decide +kernel
theorem dX11_put_47 : decode cX11_put 47 = .ok (.invokestatic 61, 3) := by decide +kernel
theorem dX11_put_50 : decode cX11_put 50 = .ok (.ifCond .ne 6, 3) := by decide +kernel
theorem dX11_put_53 : decode cX11_put 53 = .ok (.ldc 147, 2) := by decide +kernel
theorem dX11_put_55 : decode cX11_put 55 = .ok (.ireturn, 1) := by decide +kernel
theorem dX11_put_56 : decode cX11_put 56 = .ok (.iload_n 3, 1) := by decide +kernel
theorem dX11_put_57 : decode cX11_put 57 = .ok (.iconst (-1), 1) := by decide +kernel
theorem dX11_put_58 : decode cX11_put 58 = .ok (.if_icmp .eq 11, 3) := by decide +kernel
theorem dX11_put_61 : decode cX11_put 61 = .ok (.aload_n 0, 1) := by decide +kernel
theorem dX11_put_62 : decode cX11_put 62 = .ok (.iload_n 3, 1) := by decide +kernel
theorem dX11_put_63 : decode cX11_put 63 = .ok (.invokevirtual 164, 3) := by decide +kernel
theorem dX11_put_66 : decode cX11_put 66 = .ok (.ifCond .eq 18, 3) := by decide +kernel
theorem dX11_put_69 : decode cX11_put 69 = .ok (.iload 4, 2) := by decide +kernel
theorem dX11_put_71 : decode cX11_put 71 = .ok (.iconst (-1), 1) := by decide +kernel
theorem dX11_put_72 : decode cX11_put 72 = .ok (.if_icmp .eq 15, 3) := by decide +kernel
theorem dX11_put_75 : decode cX11_put 75 = .ok (.aload_n 0, 1) := by decide +kernel
theorem dX11_put_76 : decode cX11_put 76 = .ok (.iload 4, 2) := by decide +kernel
theorem dX11_put_78 : decode cX11_put 78 = .ok (.invokevirtual 69, 3) := by decide +kernel
theorem dX11_put_81 : decode cX11_put 81 = .ok (.ifCond .ne 6, 3) := by decide +kernel
theorem dX11_put_84 : decode cX11_put 84 = .ok (.ldc 167, 2) := by decide +kernel
theorem dX11_put_86 : decode cX11_put 86 = .ok (.ireturn, 1) := by decide +kernel
theorem dX11_put_87 : decode cX11_put 87 = .ok (.aload_n 0, 1) := by decide +kernel
theorem dX11_put_88 : decode cX11_put 88 = .ok (.getfield 7, 3) := by decide +kernel
theorem dX11_put_91 : decode cX11_put 91 = .ok (.iconst 0, 1) := by decide +kernel
theorem dX11_put_92 : decode cX11_put 92 = .ok (.iaload, 1) := by decide +kernel
theorem dX11_put_93 : decode cX11_put 93 = .ok (.bipush 16, 2) := by decide +kernel
theorem dX11_put_95 : decode cX11_put 95 = .ok (.if_icmp .ne 6, 3) := by decide +kernel
theorem dX11_put_98 : decode cX11_put 98 = .ok (.ldc 172, 2) := by decide +kernel
theorem dX11_put_100 : decode cX11_put 100 = .ok (.ireturn, 1) := by decide +kernel
theorem dX11_put_101 : decode cX11_put 101 = .ok (.aload_n 0, 1) := by decide +kernel
theorem dX11_put_102 : decode cX11_put 102 = .ok (.invokevirtual 173, 3) := by decide +kernel
theorem dX11_put_105 : decode cX11_put 105 = .ok (.aload_n 0, 1) := by decide +kernel
theorem dX11_put_106 : decode cX11_put 106 = .ok (.iload_n 1, 1) := by decide +kernel
theorem dX11_put_107 : decode cX11_put 107 = .ok (.iload_n 2, 1) := by decide +kernel
theorem dX11_put_108 : decode cX11_put 108 = .ok (.iload_n 3, 1) := by decide +kernel
theorem dX11_put_109 : decode cX11_put 109 = .ok (.iload 4, 2) := by decide +kernel
theorem dX11_put_111 : decode cX11_put 111 = .ok (.invokevirtual 176, 3) := by decide +kernel
theorem dX11_put_114 : decode cX11_put 114 = .ok (.aload_n 0, 1) := by decide +kernel
theorem dX11_put_115 : decode cX11_put 115 = .ok (.getfield 7, 3) := by decide +kernel
theorem dX11_put_118 : decode cX11_put 118 = .ok (.iconst 0, 1) := by decide +kernel
theorem dX11_put_119 : decode cX11_put 119 = .ok (.iaload, 1) := by decide +kernel
theorem dX11_put_120 : decode cX11_put 120 = .ok (.iconst 1, 1) := by decide +kernel
theorem dX11_put_121 : decode cX11_put 121 = .ok (.isub, 1) := by decide +kernel
theorem dX11_put_122 : decode cX11_put 122 = .ok (.ireturn, 1) := by decide +kernel
theorem dX11_bounds_0 : decode cX11_bounds 0 = .ok (.aload_n 0, 1) := by decide +kernel
theorem dX11_bounds_1 : decode cX11_bounds 1 = .ok (.iload_n 2, 1) := by decide +kernel
theorem dX11_bounds_2 : decode cX11_bounds 2 = .ok (.invokevirtual 65, 3) := by decide +kernel
theorem dX11_bounds_5 : decode cX11_bounds 5 = .ok (.ifCond .ne 6, 3) := by decide +kernel
theorem dX11_bounds_8 : decode cX11_bounds 8 = .ok (.ldc 148, 2) := by decide +kernel
theorem dX11_bounds_10 : decode cX11_bounds 10 = .ok (.ireturn, 1) := by decide +kernel
theorem dX11_bounds_11 : decode cX11_bounds 11 = .ok (.iload_n 3, 1) := by decide +kernel
theorem dX11_bounds_12 : decode cX11_bounds 12 = .ok (.i2l, 1) := by decide +kernel
theorem dX11_bounds_13 : decode cX11_bounds 13 = .ok (.lconst 0, 1) := by decide +kernel
theorem dX11_bounds_14 : decode cX11_bounds 14 = .ok (.ldc2_w 168, 3) := by decide +kernel
theorem dX11_bounds_17 : decode cX11_bounds 17 = .ok (.invokestatic 61, 3) := by decide +kernel
theorem dX11_bounds_20 : decode cX11_bounds 20 = .ok (.ifCond .eq 17, 3) := by decide +kernel
theorem dX11_bounds_23 : decode cX11_bounds 23 = .ok (.iload 4, 2) := by decide +kernel
theorem dX11_bounds_25 : decode cX11_bounds 25 = .ok (.i2l, 1) := by decide +kernel
theorem dX11_bounds_26 : decode cX11_bounds 26 = .ok (.iload_n 3, 1) := by decide +kernel
theorem dX11_bounds_27 : decode cX11_bounds 27 = .ok (.i2l, 1) := by decide +kernel
theorem dX11_bounds_28 : decode cX11_bounds 28 = .ok (.ldc2_w 168, 3) := by decide +kernel
theorem dX11_bounds_31 : decode cX11_bounds 31 = .ok (.invokestatic 61, 3) := by decide +kernel
theorem dX11_bounds_34 : decode cX11_bounds 34 = .ok (.ifCond .ne 6, 3) := by decide +kernel
theorem dX11_bounds_37 : decode cX11_bounds 37 = .ok (.ldc 147, 2) := by decide +kernel
theorem dX11_bounds_39 : decode cX11_bounds 39 = .ok (.ireturn, 1) := by decide +kernel
theorem dX11_bounds_40 : decode cX11_bounds 40 = .ok (.aload_n 0, 1) := by decide +kernel
theorem dX11_bounds_41 : decode cX11_bounds 41 = .ok (.invokevirtual 173, 3) := by decide +kernel
theorem dX11_bounds_44 : decode cX11_bounds 44 = .ok (.aload_n 0, 1) := by decide +kernel
theorem dX11_bounds_45 : decode cX11_bounds 45 = .ok (.getfield 7, 3) := by decide +kernel
theorem dX11_bounds_48 : decode cX11_bounds 48 = .ok (.iload_n 1, 1) := by decide +kernel
theorem dX11_bounds_49 : decode cX11_bounds 49 = .ok (.iconst 2, 1) := by decide +kernel
theorem dX11_bounds_50 : decode cX11_bounds 50 = .ok (.iload_n 2, 1) := by decide +kernel
theorem dX11_bounds_51 : decode cX11_bounds 51 = .ok (.imul, 1) := by decide +kernel
theorem dX11_bounds_52 : decode cX11_bounds 52 = .ok (.iadd, 1) := by decide +kernel
theorem dX11_bounds_53 : decode cX11_bounds 53 = .ok (.iload_n 3, 1) := by decide +kernel
theorem dX11_bounds_54 : decode cX11_bounds 54 = .ok (.iastore, 1) := by decide +kernel
theorem dX11_bounds_55 : decode cX11_bounds 55 = .ok (.aload_n 0, 1) := by decide +kernel
theorem dX11_bounds_56 : decode cX11_bounds 56 = .ok (.getfield 7, 3) := by decide +kernel
theorem dX11_bounds_59 : decode cX11_bounds 59 = .ok (.iload_n 1, 1) := by decide +kernel
theorem dX11_bounds_60 : decode cX11_bounds 60 = .ok (.iconst 2, 1) := by decide +kernel
theorem dX11_bounds_61 : decode cX11_bounds 61 = .ok (.iload_n 2, 1) := by decide +kernel
theorem dX11_bounds_62 : decode cX11_bounds 62 = .ok (.imul, 1) := by decide +kernel
theorem dX11_bounds_63 : decode cX11_bounds 63 = .ok (.iadd, 1) := by decide +kernel
theorem dX11_bounds_64 : decode cX11_bounds 64 = .ok (.iconst 1, 1) := by decide +kernel
theorem dX11_bounds_65 : decode cX11_bounds 65 = .ok (.iadd, 1) := by decide +kernel
theorem dX11_bounds_66 : decode cX11_bounds 66 = .ok (.iload 4, 2) := by decide +kernel
theorem dX11_bounds_68 : decode cX11_bounds 68 = .ok (.iastore, 1) := by decide +kernel
theorem dX11_bounds_69 : decode cX11_bounds 69 = .ok (.aload_n 0, 1) := by decide +kernel
theorem dX11_bounds_70 : decode cX11_bounds 70 = .ok (.invokevirtual 134, 3) := by decide +kernel
theorem dX11_bounds_73 : decode cX11_bounds 73 = .ok (.ifCond .eq 7, 3) := by decide +kernel
theorem dX11_bounds_76 : decode cX11_bounds 76 = .ok (.iconst 0, 1) := by decide +kernel
theorem dX11_bounds_77 : decode cX11_bounds 77 = .ok (.goto 4, 3) := by decide +kernel
theorem dX11_bounds_80 : decode cX11_bounds 80 = .ok (.iconst 1, 1) := by decide +kernel
theorem dX11_bounds_81 : decode cX11_bounds 81 = .ok (.ireturn, 1) := by decide +kernel
theorem dX11_born_0 : decode cX11_born 0 = .ok (.aload_n 0, 1) := by decide +kernel
theorem dX11_born_1 : decode cX11_born 1 = .ok (.bipush 77, 2) := by decide +kernel
theorem dX11_born_3 : decode cX11_born 3 = .ok (.iload_n 1, 1) := by decide +kernel
theorem dX11_born_4 : decode cX11_born 4 = .ok (.iload_n 2, 1) := by decide +kernel
theorem dX11_born_5 : decode cX11_born 5 = .ok (.iload_n 3, 1) := by decide +kernel
theorem dX11_born_6 : decode cX11_born 6 = .ok (.invokevirtual 179, 3) := by decide +kernel
theorem dX11_born_9 : decode cX11_born 9 = .ok (.ireturn, 1) := by decide +kernel
theorem dX11_died_0 : decode cX11_died 0 = .ok (.aload_n 0, 1) := by decide +kernel
theorem dX11_died_1 : decode cX11_died 1 = .ok (.bipush 109, 2) := by decide +kernel
theorem dX11_died_3 : decode cX11_died 3 = .ok (.iload_n 1, 1) := by decide +kernel
theorem dX11_died_4 : decode cX11_died 4 = .ok (.iload_n 2, 1) := by decide +kernel
theorem dX11_died_5 : decode cX11_died 5 = .ok (.iload_n 3, 1) := by decide +kernel
theorem dX11_died_6 : decode cX11_died 6 = .ok (.invokevirtual 179, 3) := by decide +kernel
theorem dX11_died_9 : decode cX11_died 9 = .ok (.ireturn, 1) := by decide +kernel
theorem dX11_rule_0 : decode cX11_rule 0 = .ok (.iload_n 1, 1) := by decide +kernel
theorem dX11_rule_1 : decode cX11_rule 1 = .ok (.i2l, 1) := by decide +kernel
theorem dX11_rule_2 : decode cX11_rule 2 = .ok (.lconst 0, 1) := by decide +kernel
theorem dX11_rule_3 : decode cX11_rule 3 = .ok (.ldc2_w 183, 3) := by decide +kernel
theorem dX11_rule_6 : decode cX11_rule 6 = .ok (.invokestatic 61, 3) := by decide +kernel
theorem dX11_rule_9 : decode cX11_rule 9 = .ok (.ifCond .ne 6, 3) := by decide +kernel
theorem dX11_rule_12 : decode cX11_rule 12 = .ok (.ldc 147, 2) := by decide +kernel
theorem dX11_rule_14 : decode cX11_rule 14 = .ok (.ireturn, 1) := by decide +kernel
theorem dX11_rule_15 : decode cX11_rule 15 = .ok (.aload_n 0, 1) := by decide +kernel
theorem dX11_rule_16 : decode cX11_rule 16 = .ok (.invokevirtual 173, 3) := by decide +kernel
theorem dX11_rule_19 : decode cX11_rule 19 = .ok (.aload_n 0, 1) := by decide +kernel
theorem dX11_rule_20 : decode cX11_rule 20 = .ok (.getfield 7, 3) := by decide +kernel
theorem dX11_rule_23 : decode cX11_rule 23 = .ok (.iconst 1, 1) := by decide +kernel
theorem dX11_rule_24 : decode cX11_rule 24 = .ok (.iload_n 1, 1) := by decide +kernel
theorem dX11_rule_25 : decode cX11_rule 25 = .ok (.iastore, 1) := by decide +kernel
theorem dX11_rule_26 : decode cX11_rule 26 = .ok (.aload_n 0, 1) := by decide +kernel
theorem dX11_rule_27 : decode cX11_rule 27 = .ok (.invokevirtual 131, 3) := by decide +kernel
theorem dX11_rule_30 : decode cX11_rule 30 = .ok (.ireturn, 1) := by decide +kernel
theorem dX11_sign_0 : decode cX11_sign 0 = .ok (.iload_n 1, 1) := by decide +kernel
theorem dX11_sign_1 : decode cX11_sign 1 = .ok (.i2l, 1) := by decide +kernel
theorem dX11_sign_2 : decode cX11_sign 2 = .ok (.lconst 0, 1) := by decide +kernel
theorem dX11_sign_3 : decode cX11_sign 3 = .ok (.ldc2_w 185, 3) := by decide +kernel
theorem dX11_sign_6 : decode cX11_sign 6 = .ok (.invokestatic 61, 3) := by decide +kernel
theorem dX11_sign_9 : decode cX11_sign 9 = .ok (.ifCond .ne 6, 3) := by decide +kernel
theorem dX11_sign_12 : decode cX11_sign 12 = .ok (.ldc 147, 2) := by decide +kernel
theorem dX11_sign_14 : decode cX11_sign 14 = .ok (.ireturn, 1) := by decide +kernel
theorem dX11_sign_15 : decode cX11_sign 15 = .ok (.aload_n 0, 1) := by decide +kernel
theorem dX11_sign_16 : decode cX11_sign 16 = .ok (.getfield 7, 3) := by decide +kernel
theorem dX11_sign_19 : decode cX11_sign 19 = .ok (.iconst 2, 1) := by decide +kernel
theorem dX11_sign_20 : decode cX11_sign 20 = .ok (.iaload, 1) := by decide +kernel
theorem dX11_sign_21 : decode cX11_sign 21 = .ok (.bipush 10, 2) := by decide +kernel
theorem dX11_sign_23 : decode cX11_sign 23 = .ok (.if_icmp .ne 6, 3) := by decide +kernel
theorem dX11_sign_26 : decode cX11_sign 26 = .ok (.ldc 172, 2) := by decide +kernel
theorem dX11_sign_28 : decode cX11_sign 28 = .ok (.ireturn, 1) := by decide +kernel
theorem dX11_sign_29 : decode cX11_sign 29 = .ok (.aload_n 0, 1) := by decide +kernel
theorem dX11_sign_30 : decode cX11_sign 30 = .ok (.invokevirtual 173, 3) := by decide +kernel
theorem dX11_sign_33 : decode cX11_sign 33 = .ok (.aload_n 0, 1) := by decide +kernel
theorem dX11_sign_34 : decode cX11_sign 34 = .ok (.getfield 7, 3) := by decide +kernel
theorem dX11_sign_37 : decode cX11_sign 37 = .ok (.iconst 3, 1) := by decide +kernel
theorem dX11_sign_38 : decode cX11_sign 38 = .ok (.aload_n 0, 1) := by decide +kernel
theorem dX11_sign_39 : decode cX11_sign 39 = .ok (.getfield 7, 3) := by decide +kernel
theorem dX11_sign_42 : decode cX11_sign 42 = .ok (.iconst 2, 1) := by decide +kernel
theorem dX11_sign_43 : decode cX11_sign 43 = .ok (.iaload, 1) := by decide +kernel
theorem dX11_sign_44 : decode cX11_sign 44 = .ok (.iadd, 1) := by decide +kernel
theorem dX11_sign_45 : decode cX11_sign 45 = .ok (.iload_n 1, 1) := by decide +kernel
theorem dX11_sign_46 : decode cX11_sign 46 = .ok (.iastore, 1) := by decide +kernel
theorem dX11_sign_47 : decode cX11_sign 47 = .ok (.aload_n 0, 1) := by decide +kernel
theorem dX11_sign_48 : decode cX11_sign 48 = .ok (.getfield 7, 3) := by decide +kernel
theorem dX11_sign_51 : decode cX11_sign 51 = .ok (.iconst 2, 1) := by decide +kernel
theorem dX11_sign_52 : decode cX11_sign 52 = .ok (.dup2, 1) := by decide +kernel
theorem dX11_sign_53 : decode cX11_sign 53 = .ok (.iaload, 1) := by decide +kernel
theorem dX11_sign_54 : decode cX11_sign 54 = .ok (.iconst 1, 1) := by decide +kernel
theorem dX11_sign_55 : decode cX11_sign 55 = .ok (.iadd, 1) := by decide +kernel
theorem dX11_sign_56 : decode cX11_sign 56 = .ok (.iastore, 1) := by decide +kernel
theorem dX11_sign_57 : decode cX11_sign 57 = .ok (.aload_n 0, 1) := by decide +kernel
theorem dX11_sign_58 : decode cX11_sign 58 = .ok (.getfield 7, 3) := by decide +kernel
theorem dX11_sign_61 : decode cX11_sign 61 = .ok (.iconst 2, 1) := by decide +kernel
theorem dX11_sign_62 : decode cX11_sign 62 = .ok (.iaload, 1) := by decide +kernel
theorem dX11_sign_63 : decode cX11_sign 63 = .ok (.ireturn, 1) := by decide +kernel
theorem dX11_wipe_0 : decode cX11_wipe 0 = .ok (.aload_n 0, 1) := by decide +kernel
theorem dX11_wipe_1 : decode cX11_wipe 1 = .ok (.invokevirtual 173, 3) := by decide +kernel
theorem dX11_wipe_4 : decode cX11_wipe 4 = .ok (.aload_n 0, 1) := by decide +kernel
theorem dX11_wipe_5 : decode cX11_wipe 5 = .ok (.getfield 7, 3) := by decide +kernel
theorem dX11_wipe_8 : decode cX11_wipe 8 = .ok (.iconst 2, 1) := by decide +kernel
theorem dX11_wipe_9 : decode cX11_wipe 9 = .ok (.iaload, 1) := by decide +kernel
theorem dX11_wipe_10 : decode cX11_wipe 10 = .ok (.istore_n 1, 1) := by decide +kernel
theorem dX11_wipe_11 : decode cX11_wipe 11 = .ok (.aload_n 0, 1) := by decide +kernel
theorem dX11_wipe_12 : decode cX11_wipe 12 = .ok (.getfield 7, 3) := by decide +kernel
theorem dX11_wipe_15 : decode cX11_wipe 15 = .ok (.iconst 2, 1) := by decide +kernel
theorem dX11_wipe_16 : decode cX11_wipe 16 = .ok (.iconst 0, 1) := by decide +kernel
theorem dX11_wipe_17 : decode cX11_wipe 17 = .ok (.iastore, 1) := by decide +kernel
theorem dX11_wipe_18 : decode cX11_wipe 18 = .ok (.iload_n 1, 1) := by decide +kernel
theorem dX11_wipe_19 : decode cX11_wipe 19 = .ok (.ireturn, 1) := by decide +kernel
theorem dX11_draw_0 : decode cX11_draw 0 = .ok (.aload_n 0, 1) := by decide +kernel
theorem dX11_draw_1 : decode cX11_draw 1 = .ok (.aload_n 0, 1) := by decide +kernel
theorem dX11_draw_2 : decode cX11_draw 2 = .ok (.getfield 187, 3) := by decide +kernel
theorem dX11_draw_5 : decode cX11_draw 5 = .ok (.i2l, 1) := by decide +kernel
theorem dX11_draw_6 : decode cX11_draw 6 = .ok (.ldc2_w 190, 3) := by decide +kernel
theorem dX11_draw_9 : decode cX11_draw 9 = .ok (.lmul, 1) := by decide +kernel
theorem dX11_draw_10 : decode cX11_draw 10 = .ok (.ldc2_w 192, 3) := by decide +kernel
theorem dX11_draw_13 : decode cX11_draw 13 = .ok (.ladd, 1) := by decide +kernel
theorem dX11_draw_14 : decode cX11_draw 14 = .ok (.ldc2_w 194, 3) := by decide +kernel
theorem dX11_draw_17 : decode cX11_draw 17 = .ok (.lrem, 1) := by decide +kernel
theorem dX11_draw_18 : decode cX11_draw 18 = .ok (.l2i, 1) := by decide +kernel
theorem dX11_draw_19 : decode cX11_draw 19 = .ok (.putfield 187, 3) := by decide +kernel
theorem dX11_draw_22 : decode cX11_draw 22 = .ok (.aload_n 0, 1) := by decide +kernel
theorem dX11_draw_23 : decode cX11_draw 23 = .ok (.getfield 187, 3) := by decide +kernel
theorem dX11_draw_26 : decode cX11_draw 26 = .ok (.ldc 196, 2) := by decide +kernel
theorem dX11_draw_28 : decode cX11_draw 28 = .ok (.idiv, 1) := by decide +kernel
theorem dX11_draw_29 : decode cX11_draw 29 = .ok (.iload_n 1, 1) := by decide +kernel
theorem dX11_draw_30 : decode cX11_draw 30 = .ok (.irem, 1) := by decide +kernel
theorem dX11_draw_31 : decode cX11_draw 31 = .ok (.ireturn, 1) := by decide +kernel
theorem dX11_drift_0 : decode cX11_drift 0 = .ok (.iload_n 1, 1) := by decide +kernel
theorem dX11_drift_1 : decode cX11_drift 1 = .ok (.i2l, 1) := by decide +kernel
theorem dX11_drift_2 : decode cX11_drift 2 = .ok (.lconst 1, 1) := by decide +kernel
theorem dX11_drift_3 : decode cX11_drift 3 = .ok (.ldc2_w 197, 3) := by decide +kernel
theorem dX11_drift_6 : decode cX11_drift 6 = .ok (.invokestatic 61, 3) := by decide +kernel
theorem dX11_drift_9 : decode cX11_drift 9 = .ok (.ifCond .ne 6, 3) := by decide +kernel
theorem dX11_drift_12 : decode cX11_drift 12 = .ok (.ldc 147, 2) := by decide +kernel
theorem dX11_drift_14 : decode cX11_drift 14 = .ok (.ireturn, 1) := by decide +kernel
theorem dX11_drift_15 : decode cX11_drift 15 = .ok (.iconst 0, 1) := by decide +kernel
theorem dX11_drift_16 : decode cX11_drift 16 = .ok (.istore_n 2, 1) := by decide +kernel
theorem dX11_drift_17 : decode cX11_drift 17 = .ok (.iload_n 2, 1) := by decide +kernel
theorem dX11_drift_18 : decode cX11_drift 18 = .ok (.iload_n 1, 1) := by decide +kernel
theorem dX11_drift_19 : decode cX11_drift 19 = .ok (.if_icmp .ge 107, 3) := by decide +kernel
theorem dX11_drift_22 : decode cX11_drift 22 = .ok (.aload_n 0, 1) := by decide +kernel
theorem dX11_drift_23 : decode cX11_drift 23 = .ok (.getfield 7, 3) := by decide +kernel
theorem dX11_drift_26 : decode cX11_drift 26 = .ok (.iconst 0, 1) := by decide +kernel
theorem dX11_drift_27 : decode cX11_drift 27 = .ok (.iaload, 1) := by decide +kernel
theorem dX11_drift_28 : decode cX11_drift 28 = .ok (.bipush 16, 2) := by decide +kernel
theorem dX11_drift_30 : decode cX11_drift 30 = .ok (.if_icmp .ge 96, 3) := by decide +kernel
theorem dX11_drift_33 : decode cX11_drift 33 = .ok (.aload_n 0, 1) := by decide +kernel
theorem dX11_drift_34 : decode cX11_drift 34 = .ok (.invokevirtual 173, 3) := by decide +kernel
theorem dX11_drift_37 : decode cX11_drift 37 = .ok (.aload_n 0, 1) := by decide +kernel
theorem dX11_drift_38 : decode cX11_drift 38 = .ok (.iconst 2, 1) := by decide +kernel
theorem dX11_drift_39 : decode cX11_drift 39 = .ok (.invokevirtual 199, 3) := by decide +kernel
theorem dX11_drift_42 : decode cX11_drift 42 = .ok (.istore_n 3, 1) := by decide +kernel
theorem dX11_drift_43 : decode cX11_drift 43 = .ok (.aload_n 0, 1) := by decide +kernel
theorem dX11_drift_44 : decode cX11_drift 44 = .ok (.bipush 10, 2) := by decide +kernel
theorem dX11_drift_46 : decode cX11_drift 46 = .ok (.invokevirtual 199, 3) := by decide +kernel
theorem dX11_drift_49 : decode cX11_drift 49 = .ok (.istore 4, 2) := by decide +kernel
theorem dX11_drift_51 : decode cX11_drift 51 = .ok (.aload_n 0, 1) := by decide +kernel
theorem dX11_drift_52 : decode cX11_drift 52 = .ok (.aload_n 0, 1) := by decide +kernel
theorem dX11_drift_53 : decode cX11_drift 53 = .ok (.getfield 7, 3) := by decide +kernel
theorem dX11_drift_56 : decode cX11_drift 56 = .ok (.iconst 0, 1) := by decide +kernel
theorem dX11_drift_57 : decode cX11_drift 57 = .ok (.iaload, 1) := by decide +kernel
theorem dX11_drift_58 : decode cX11_drift 58 = .ok (.iconst 1, 1) := by decide +kernel
theorem dX11_drift_59 : decode cX11_drift 59 = .ok (.iadd, 1) := by decide +kernel
theorem dX11_drift_60 : decode cX11_drift 60 = .ok (.invokevirtual 199, 3) := by decide +kernel
theorem dX11_drift_63 : decode cX11_drift 63 = .ok (.iconst 1, 1) := by decide +kernel
theorem dX11_drift_64 : decode cX11_drift 64 = .ok (.isub, 1) := by decide +kernel
theorem dX11_drift_65 : decode cX11_drift 65 = .ok (.istore 5, 2) := by decide +kernel
theorem dX11_drift_67 : decode cX11_drift 67 = .ok (.aload_n 0, 1) := by decide +kernel
theorem dX11_drift_68 : decode cX11_drift 68 = .ok (.aload_n 0, 1) := by decide +kernel
theorem dX11_drift_69 : decode cX11_drift 69 = .ok (.getfield 7, 3) := by decide +kernel
theorem dX11_drift_72 : decode cX11_drift 72 = .ok (.iconst 0, 1) := by decide +kernel
theorem dX11_drift_73 : decode cX11_drift 73 = .ok (.iaload, 1) := by decide +kernel
theorem dX11_drift_74 : decode cX11_drift 74 = .ok (.iconst 1, 1) := by decide +kernel
theorem dX11_drift_75 : decode cX11_drift 75 = .ok (.iadd, 1) := by decide +kernel
theorem dX11_drift_76 : decode cX11_drift 76 = .ok (.invokevirtual 199, 3) := by decide +kernel
theorem dX11_drift_79 : decode cX11_drift 79 = .ok (.iconst 1, 1) := by decide +kernel
theorem dX11_drift_80 : decode cX11_drift 80 = .ok (.isub, 1) := by decide +kernel
theorem dX11_drift_81 : decode cX11_drift 81 = .ok (.istore 6, 2) := by decide +kernel
theorem dX11_drift_83 : decode cX11_drift 83 = .ok (.aload_n 0, 1) := by decide +kernel
theorem dX11_drift_84 : decode cX11_drift 84 = .ok (.iload_n 3, 1) := by decide +kernel
theorem dX11_drift_85 : decode cX11_drift 85 = .ok (.iload 4, 2) := by decide +kernel
theorem dX11_drift_87 : decode cX11_drift 87 = .ok (.aload_n 0, 1) := by decide +kernel
theorem dX11_drift_88 : decode cX11_drift 88 = .ok (.iload 5, 2) := by decide +kernel
theorem dX11_drift_90 : decode cX11_drift 90 = .ok (.invokevirtual 164, 3) := by decide +kernel
theorem dX11_drift_93 : decode cX11_drift 93 = .ok (.ifCond .eq 8, 3) := by decide +kernel
theorem dX11_drift_96 : decode cX11_drift 96 = .ok (.iload 5, 2) := by decide +kernel
theorem dX11_drift_98 : decode cX11_drift 98 = .ok (.goto 4, 3) := by decide +kernel
theorem dX11_drift_101 : decode cX11_drift 101 = .ok (.iconst (-1), 1) := by decide +kernel
theorem dX11_drift_102 : decode cX11_drift 102 = .ok (.aload_n 0, 1) := by decide +kernel
theorem dX11_drift_103 : decode cX11_drift 103 = .ok (.iload 6, 2) := by decide +kernel
theorem dX11_drift_105 : decode cX11_drift 105 = .ok (.invokevirtual 69, 3) := by decide +kernel
theorem dX11_drift_108 : decode cX11_drift 108 = .ok (.ifCond .eq 8, 3) := by decide +kernel
theorem dX11_drift_111 : decode cX11_drift 111 = .ok (.iload 6, 2) := by decide +kernel
theorem dX11_drift_113 : decode cX11_drift 113 = .ok (.goto 4, 3) := by decide +kernel
theorem dX11_drift_116 : decode cX11_drift 116 = .ok (.iconst (-1), 1) := by decide +kernel
theorem dX11_drift_117 : decode cX11_drift 117 = .ok (.invokevirtual 176, 3) := by decide +kernel
theorem dX11_drift_120 : decode cX11_drift 120 = .ok (.iinc 2 1, 3) := by decide +kernel
theorem dX11_drift_123 : decode cX11_drift 123 = .ok (.goto (-106), 3) := by decide +kernel
theorem dX11_drift_126 : decode cX11_drift 126 = .ok (.aload_n 0, 1) := by decide +kernel
theorem dX11_drift_127 : decode cX11_drift 127 = .ok (.getfield 7, 3) := by decide +kernel
theorem dX11_drift_130 : decode cX11_drift 130 = .ok (.iconst 0, 1) := by decide +kernel
theorem dX11_drift_131 : decode cX11_drift 131 = .ok (.iaload, 1) := by decide +kernel
theorem dX11_drift_132 : decode cX11_drift 132 = .ok (.ireturn, 1) := by decide +kernel
theorem dX11_undo_0 : decode cX11_undo 0 = .ok (.iload_n 1, 1) := by decide +kernel
theorem dX11_undo_1 : decode cX11_undo 1 = .ok (.i2l, 1) := by decide +kernel
theorem dX11_undo_2 : decode cX11_undo 2 = .ok (.lconst 1, 1) := by decide +kernel
theorem dX11_undo_3 : decode cX11_undo 3 = .ok (.ldc2_w 202, 3) := by decide +kernel
theorem dX11_undo_6 : decode cX11_undo 6 = .ok (.invokestatic 61, 3) := by decide +kernel
theorem dX11_undo_9 : decode cX11_undo 9 = .ok (.ifCond .ne 6, 3) := by decide +kernel
theorem dX11_undo_12 : decode cX11_undo 12 = .ok (.ldc 147, 2) := by decide +kernel
theorem dX11_undo_14 : decode cX11_undo 14 = .ok (.ireturn, 1) := by decide +kernel
theorem dX11_undo_15 : decode cX11_undo 15 = .ok (.iload_n 1, 1) := by decide +kernel
theorem dX11_undo_16 : decode cX11_undo 16 = .ok (.aload_n 0, 1) := by decide +kernel
theorem dX11_undo_17 : decode cX11_undo 17 = .ok (.getfield 53, 3) := by decide +kernel
theorem dX11_undo_20 : decode cX11_undo 20 = .ok (.if_icmp .le 6, 3) := by decide +kernel
theorem dX11_undo_23 : decode cX11_undo 23 = .ok (.ldc 167, 2) := by decide +kernel
theorem dX11_undo_25 : decode cX11_undo 25 = .ok (.ireturn, 1) := by decide +kernel
theorem dX11_undo_26 : decode cX11_undo 26 = .ok (.aload_n 0, 1) := by decide +kernel
theorem dX11_undo_27 : decode cX11_undo 27 = .ok (.dup, 1) := by decide +kernel
theorem dX11_undo_28 : decode cX11_undo 28 = .ok (.getfield 53, 3) := by decide +kernel
theorem dX11_undo_31 : decode cX11_undo 31 = .ok (.iload_n 1, 1) := by decide +kernel
theorem dX11_undo_32 : decode cX11_undo 32 = .ok (.isub, 1) := by decide +kernel
theorem dX11_undo_33 : decode cX11_undo 33 = .ok (.putfield 53, 3) := by decide +kernel
theorem dX11_undo_36 : decode cX11_undo 36 = .ok (.aload_n 0, 1) := by decide +kernel
theorem dX11_undo_37 : decode cX11_undo 37 = .ok (.sipush 423, 3) := by decide +kernel
theorem dX11_undo_40 : decode cX11_undo 40 = .ok (.sipush 141, 3) := by decide +kernel
theorem dX11_undo_43 : decode cX11_undo 43 = .ok (.aload_n 0, 1) := by decide +kernel
theorem dX11_undo_44 : decode cX11_undo 44 = .ok (.getfield 53, 3) := by decide +kernel
theorem dX11_undo_47 : decode cX11_undo 47 = .ok (.imul, 1) := by decide +kernel
theorem dX11_undo_48 : decode cX11_undo 48 = .ok (.iadd, 1) := by decide +kernel
theorem dX11_undo_49 : decode cX11_undo 49 = .ok (.iconst 0, 1) := by decide +kernel
theorem dX11_undo_50 : decode cX11_undo 50 = .ok (.invokevirtual 57, 3) := by decide +kernel
theorem dX11_undo_53 : decode cX11_undo 53 = .ok (.aload_n 0, 1) := by decide +kernel
theorem dX11_undo_54 : decode cX11_undo 54 = .ok (.getfield 7, 3) := by decide +kernel
theorem dX11_undo_57 : decode cX11_undo 57 = .ok (.iconst 0, 1) := by decide +kernel
theorem dX11_undo_58 : decode cX11_undo 58 = .ok (.iaload, 1) := by decide +kernel
theorem dX11_undo_59 : decode cX11_undo 59 = .ok (.ireturn, 1) := by decide +kernel
theorem dX11_write_0 : decode cX11_write 0 = .ok (.aload_n 0, 1) := by decide +kernel
theorem dX11_write_1 : decode cX11_write 1 = .ok (.iload_n 1, 1) := by decide +kernel
theorem dX11_write_2 : decode cX11_write 2 = .ok (.invokevirtual 65, 3) := by decide +kernel
theorem dX11_write_5 : decode cX11_write 5 = .ok (.ifCond .ne 6, 3) := by decide +kernel
theorem dX11_write_8 : decode cX11_write 8 = .ok (.ldc 148, 2) := by decide +kernel
theorem dX11_write_10 : decode cX11_write 10 = .ok (.ireturn, 1) := by decide +kernel
theorem dX11_write_11 : decode cX11_write 11 = .ok (.iload_n 2, 1) := by decide +kernel
theorem dX11_write_12 : decode cX11_write 12 = .ok (.i2l, 1) := by decide +kernel
theorem dX11_write_13 : decode cX11_write 13 = .ok (.lconst 0, 1) := by decide +kernel
theorem dX11_write_14 : decode cX11_write 14 = .ok (.ldc2_w 170, 3) := by decide +kernel
theorem dX11_write_17 : decode cX11_write 17 = .ok (.invokestatic 61, 3) := by decide +kernel
theorem dX11_write_20 : decode cX11_write 20 = .ok (.ifCond .eq 15, 3) := by decide +kernel
theorem dX11_write_23 : decode cX11_write 23 = .ok (.iload_n 3, 1) := by decide +kernel
theorem dX11_write_24 : decode cX11_write 24 = .ok (.i2l, 1) := by decide +kernel
theorem dX11_write_25 : decode cX11_write 25 = .ok (.lconst 0, 1) := by decide +kernel
theorem dX11_write_26 : decode cX11_write 26 = .ok (.ldc2_w 170, 3) := by decide +kernel
theorem dX11_write_29 : decode cX11_write 29 = .ok (.invokestatic 61, 3) := by decide +kernel
theorem dX11_write_32 : decode cX11_write 32 = .ok (.ifCond .ne 6, 3) := by decide +kernel
theorem dX11_write_35 : decode cX11_write 35 = .ok (.ldc 147, 2) := by decide +kernel
theorem dX11_write_37 : decode cX11_write 37 = .ok (.ireturn, 1) := by decide +kernel
theorem dX11_write_38 : decode cX11_write 38 = .ok (.aload_n 0, 1) := by decide +kernel
theorem dX11_write_39 : decode cX11_write 39 = .ok (.getfield 124, 3) := by decide +kernel
theorem dX11_write_42 : decode cX11_write 42 = .ok (.bipush 20, 2) := by decide +kernel
theorem dX11_write_44 : decode cX11_write 44 = .ok (.if_icmp .ne 6, 3) := by decide +kernel
theorem dX11_write_47 : decode cX11_write 47 = .ok (.ldc 172, 2) := by decide +kernel
theorem dX11_write_49 : decode cX11_write 49 = .ok (.ireturn, 1) := by decide +kernel
theorem dX11_write_50 : decode cX11_write 50 = .ok (.aload_n 0, 1) := by decide +kernel
theorem dX11_write_51 : decode cX11_write 51 = .ok (.getfield 20, 3) := by decide +kernel
theorem dX11_write_54 : decode cX11_write 54 = .ok (.aload_n 0, 1) := by decide +kernel
theorem dX11_write_55 : decode cX11_write 55 = .ok (.getfield 124, 3) := by decide +kernel
theorem dX11_write_58 : decode cX11_write 58 = .ok (.iload_n 1, 1) := by decide +kernel
theorem dX11_write_59 : decode cX11_write 59 = .ok (.iastore, 1) := by decide +kernel
theorem dX11_write_60 : decode cX11_write 60 = .ok (.aload_n 0, 1) := by decide +kernel
theorem dX11_write_61 : decode cX11_write 61 = .ok (.getfield 23, 3) := by decide +kernel
theorem dX11_write_64 : decode cX11_write 64 = .ok (.aload_n 0, 1) := by decide +kernel
theorem dX11_write_65 : decode cX11_write 65 = .ok (.getfield 124, 3) := by decide +kernel
theorem dX11_write_68 : decode cX11_write 68 = .ok (.iload_n 2, 1) := by decide +kernel
theorem dX11_write_69 : decode cX11_write 69 = .ok (.iastore, 1) := by decide +kernel
theorem dX11_write_70 : decode cX11_write 70 = .ok (.aload_n 0, 1) := by decide +kernel
theorem dX11_write_71 : decode cX11_write 71 = .ok (.getfield 26, 3) := by decide +kernel
theorem dX11_write_74 : decode cX11_write 74 = .ok (.aload_n 0, 1) := by decide +kernel
theorem dX11_write_75 : decode cX11_write 75 = .ok (.getfield 124, 3) := by decide +kernel
theorem dX11_write_78 : decode cX11_write 78 = .ok (.iload_n 3, 1) := by decide +kernel
theorem dX11_write_79 : decode cX11_write 79 = .ok (.iastore, 1) := by decide +kernel
theorem dX11_write_80 : decode cX11_write 80 = .ok (.aload_n 0, 1) := by decide +kernel
theorem dX11_write_81 : decode cX11_write 81 = .ok (.dup, 1) := by decide +kernel
theorem dX11_write_82 : decode cX11_write 82 = .ok (.getfield 124, 3) := by decide +kernel
theorem dX11_write_85 : decode cX11_write 85 = .ok (.iconst 1, 1) := by decide +kernel
theorem dX11_write_86 : decode cX11_write 86 = .ok (.iadd, 1) := by decide +kernel
theorem dX11_write_87 : decode cX11_write 87 = .ok (.putfield 124, 3) := by decide +kernel
theorem dX11_write_90 : decode cX11_write 90 = .ok (.aload_n 0, 1) := by decide +kernel
theorem dX11_write_91 : decode cX11_write 91 = .ok (.getfield 124, 3) := by decide +kernel
theorem dX11_write_94 : decode cX11_write 94 = .ok (.ireturn, 1) := by decide +kernel
theorem dX11_tear_0 : decode cX11_tear 0 = .ok (.aload_n 0, 1) := by decide +kernel
theorem dX11_tear_1 : decode cX11_tear 1 = .ok (.getfield 124, 3) := by decide +kernel
theorem dX11_tear_4 : decode cX11_tear 4 = .ok (.istore_n 1, 1) := by decide +kernel
theorem dX11_tear_5 : decode cX11_tear 5 = .ok (.aload_n 0, 1) := by decide +kernel
theorem dX11_tear_6 : decode cX11_tear 6 = .ok (.iconst 0, 1) := by decide +kernel
theorem dX11_tear_7 : decode cX11_tear 7 = .ok (.putfield 124, 3) := by decide +kernel
theorem dX11_tear_10 : decode cX11_tear 10 = .ok (.iload_n 1, 1) := by decide +kernel
theorem dX11_tear_11 : decode cX11_tear 11 = .ok (.ireturn, 1) := by decide +kernel
theorem dX11_seed_0 : decode cX11_seed 0 = .ok (.iload_n 1, 1) := by decide +kernel
theorem dX11_seed_1 : decode cX11_seed 1 = .ok (.ifCond .ge 6, 3) := by decide +kernel
theorem dX11_seed_4 : decode cX11_seed 4 = .ok (.ldc 147, 2) := by decide +kernel
theorem dX11_seed_6 : decode cX11_seed 6 = .ok (.ireturn, 1) := by decide +kernel
theorem dX11_seed_7 : decode cX11_seed 7 = .ok (.aload_n 0, 1) := by decide +kernel
theorem dX11_seed_8 : decode cX11_seed 8 = .ok (.getfield 187, 3) := by decide +kernel
theorem dX11_seed_11 : decode cX11_seed 11 = .ok (.istore_n 2, 1) := by decide +kernel
theorem dX11_seed_12 : decode cX11_seed 12 = .ok (.aload_n 0, 1) := by decide +kernel
theorem dX11_seed_13 : decode cX11_seed 13 = .ok (.iload_n 1, 1) := by decide +kernel
theorem dX11_seed_14 : decode cX11_seed 14 = .ok (.putfield 187, 3) := by decide +kernel
theorem dX11_seed_17 : decode cX11_seed 17 = .ok (.iload_n 2, 1) := by decide +kernel
theorem dX11_seed_18 : decode cX11_seed 18 = .ok (.ireturn, 1) := by decide +kernel
theorem dX11_keep_0 : decode cX11_keep 0 = .ok (.iload_n 1, 1) := by decide +kernel
theorem dX11_keep_1 : decode cX11_keep 1 = .ok (.i2l, 1) := by decide +kernel
theorem dX11_keep_2 : decode cX11_keep 2 = .ok (.lconst 0, 1) := by decide +kernel
theorem dX11_keep_3 : decode cX11_keep 3 = .ok (.lconst 1, 1) := by decide +kernel
theorem dX11_keep_4 : decode cX11_keep 4 = .ok (.invokestatic 61, 3) := by decide +kernel
theorem dX11_keep_7 : decode cX11_keep 7 = .ok (.ifCond .ne 6, 3) := by decide +kernel
theorem dX11_keep_10 : decode cX11_keep 10 = .ok (.ldc 148, 2) := by decide +kernel
theorem dX11_keep_12 : decode cX11_keep 12 = .ok (.ireturn, 1) := by decide +kernel
theorem dX11_keep_13 : decode cX11_keep 13 = .ok (.aload_n 0, 1) := by decide +kernel
theorem dX11_keep_14 : decode cX11_keep 14 = .ok (.iconst 0, 1) := by decide +kernel
theorem dX11_keep_15 : decode cX11_keep 15 = .ok (.sipush 141, 3) := by decide +kernel
theorem dX11_keep_18 : decode cX11_keep 18 = .ok (.sipush 141, 3) := by decide +kernel
theorem dX11_keep_21 : decode cX11_keep 21 = .ok (.iload_n 1, 1) := by decide +kernel
theorem dX11_keep_22 : decode cX11_keep 22 = .ok (.imul, 1) := by decide +kernel
theorem dX11_keep_23 : decode cX11_keep 23 = .ok (.iadd, 1) := by decide +kernel
theorem dX11_keep_24 : decode cX11_keep 24 = .ok (.invokevirtual 57, 3) := by decide +kernel
theorem dX11_keep_27 : decode cX11_keep 27 = .ok (.aload_n 0, 1) := by decide +kernel
theorem dX11_keep_28 : decode cX11_keep 28 = .ok (.getfield 13, 3) := by decide +kernel
theorem dX11_keep_31 : decode cX11_keep 31 = .ok (.iload_n 1, 1) := by decide +kernel
theorem dX11_keep_32 : decode cX11_keep 32 = .ok (.aload_n 0, 1) := by decide +kernel
theorem dX11_keep_33 : decode cX11_keep 33 = .ok (.getfield 187, 3) := by decide +kernel
theorem dX11_keep_36 : decode cX11_keep 36 = .ok (.iastore, 1) := by decide +kernel
theorem dX11_keep_37 : decode cX11_keep 37 = .ok (.aload_n 0, 1) := by decide +kernel
theorem dX11_keep_38 : decode cX11_keep 38 = .ok (.getfield 16, 3) := by decide +kernel
theorem dX11_keep_41 : decode cX11_keep 41 = .ok (.iload_n 1, 1) := by decide +kernel
theorem dX11_keep_42 : decode cX11_keep 42 = .ok (.iconst 1, 1) := by decide +kernel
theorem dX11_keep_43 : decode cX11_keep 43 = .ok (.bastore, 1) := by decide +kernel
theorem dX11_keep_44 : decode cX11_keep 44 = .ok (.aload_n 0, 1) := by decide +kernel
theorem dX11_keep_45 : decode cX11_keep 45 = .ok (.iconst 0, 1) := by decide +kernel
theorem dX11_keep_46 : decode cX11_keep 46 = .ok (.putfield 53, 3) := by decide +kernel
theorem dX11_keep_49 : decode cX11_keep 49 = .ok (.iconst 1, 1) := by decide +kernel
theorem dX11_keep_50 : decode cX11_keep 50 = .ok (.ireturn, 1) := by decide +kernel
theorem dX11_goBack_0 : decode cX11_goBack 0 = .ok (.iload_n 1, 1) := by decide +kernel
theorem dX11_goBack_1 : decode cX11_goBack 1 = .ok (.i2l, 1) := by decide +kernel
theorem dX11_goBack_2 : decode cX11_goBack 2 = .ok (.lconst 0, 1) := by decide +kernel
theorem dX11_goBack_3 : decode cX11_goBack 3 = .ok (.lconst 1, 1) := by decide +kernel
theorem dX11_goBack_4 : decode cX11_goBack 4 = .ok (.invokestatic 61, 3) := by decide +kernel
theorem dX11_goBack_7 : decode cX11_goBack 7 = .ok (.ifCond .ne 6, 3) := by decide +kernel
theorem dX11_goBack_10 : decode cX11_goBack 10 = .ok (.ldc 148, 2) := by decide +kernel
theorem dX11_goBack_12 : decode cX11_goBack 12 = .ok (.ireturn, 1) := by decide +kernel
theorem dX11_goBack_13 : decode cX11_goBack 13 = .ok (.aload_n 0, 1) := by decide +kernel
theorem dX11_goBack_14 : decode cX11_goBack 14 = .ok (.getfield 16, 3) := by decide +kernel
theorem dX11_goBack_17 : decode cX11_goBack 17 = .ok (.iload_n 1, 1) := by decide +kernel
theorem dX11_goBack_18 : decode cX11_goBack 18 = .ok (.baload, 1) := by decide +kernel
theorem dX11_goBack_19 : decode cX11_goBack 19 = .ok (.ifCond .ne 6, 3) := by decide +kernel
theorem dX11_goBack_22 : decode cX11_goBack 22 = .ok (.ldc 167, 2) := by decide +kernel
theorem dX11_goBack_24 : decode cX11_goBack 24 = .ok (.ireturn, 1) := by decide +kernel
theorem dX11_goBack_25 : decode cX11_goBack 25 = .ok (.aload_n 0, 1) := by decide +kernel
theorem dX11_goBack_26 : decode cX11_goBack 26 = .ok (.sipush 141, 3) := by decide +kernel
theorem dX11_goBack_29 : decode cX11_goBack 29 = .ok (.sipush 141, 3) := by decide +kernel
theorem dX11_goBack_32 : decode cX11_goBack 32 = .ok (.iload_n 1, 1) := by decide +kernel
theorem dX11_goBack_33 : decode cX11_goBack 33 = .ok (.imul, 1) := by decide +kernel
theorem dX11_goBack_34 : decode cX11_goBack 34 = .ok (.iadd, 1) := by decide +kernel
theorem dX11_goBack_35 : decode cX11_goBack 35 = .ok (.iconst 0, 1) := by decide +kernel
theorem dX11_goBack_36 : decode cX11_goBack 36 = .ok (.invokevirtual 57, 3) := by decide +kernel
theorem dX11_goBack_39 : decode cX11_goBack 39 = .ok (.aload_n 0, 1) := by decide +kernel
theorem dX11_goBack_40 : decode cX11_goBack 40 = .ok (.aload_n 0, 1) := by decide +kernel
theorem dX11_goBack_41 : decode cX11_goBack 41 = .ok (.getfield 13, 3) := by decide +kernel
theorem dX11_goBack_44 : decode cX11_goBack 44 = .ok (.iload_n 1, 1) := by decide +kernel
theorem dX11_goBack_45 : decode cX11_goBack 45 = .ok (.iaload, 1) := by decide +kernel
theorem dX11_goBack_46 : decode cX11_goBack 46 = .ok (.putfield 187, 3) := by decide +kernel
theorem dX11_goBack_49 : decode cX11_goBack 49 = .ok (.aload_n 0, 1) := by decide +kernel
theorem dX11_goBack_50 : decode cX11_goBack 50 = .ok (.iconst 0, 1) := by decide +kernel
theorem dX11_goBack_51 : decode cX11_goBack 51 = .ok (.putfield 53, 3) := by decide +kernel
theorem dX11_goBack_54 : decode cX11_goBack 54 = .ok (.iconst 1, 1) := by decide +kernel
theorem dX11_goBack_55 : decode cX11_goBack 55 = .ok (.ireturn, 1) := by decide +kernel
theorem dL_law_0 : decode cL_law 0 = .ok (.new 7, 3) := by decide +kernel
theorem dL_law_3 : decode cL_law 3 = .ok (.dup, 1) := by decide +kernel
theorem dL_law_4 : decode cL_law 4 = .ok (.invokespecial 9, 3) := by decide +kernel
theorem dL_law_7 : decode cL_law 7 = .ok (.astore_n 1, 1) := by decide +kernel
theorem dL_law_8 : decode cL_law 8 = .ok (.new 10, 3) := by decide +kernel
theorem dL_law_11 : decode cL_law 11 = .ok (.dup, 1) := by decide +kernel
theorem dL_law_12 : decode cL_law 12 = .ok (.invokespecial 12, 3) := by decide +kernel
theorem dL_law_15 : decode cL_law 15 = .ok (.astore_n 2, 1) := by decide +kernel
theorem dL_law_16 : decode cL_law 16 = .ok (.iconst 0, 1) := by decide +kernel
theorem dL_law_17 : decode cL_law 17 = .ok (.istore_n 3, 1) := by decide +kernel
theorem dL_law_18 : decode cL_law 18 = .ok (.iload_n 3, 1) := by decide +kernel
theorem dL_law_19 : decode cL_law 19 = .ok (.aload_n 0, 1) := by decide +kernel
theorem dL_law_20 : decode cL_law 20 = .ok (.arraylength, 1) := by decide +kernel
theorem dL_law_21 : decode cL_law 21 = .ok (.iconst 5, 1) := by decide +kernel
theorem dL_law_22 : decode cL_law 22 = .ok (.isub, 1) := by decide +kernel
theorem dL_law_23 : decode cL_law 23 = .ok (.if_icmp .gt 711, 3) := by decide +kernel
theorem dL_law_26 : decode cL_law 26 = .ok (.aload_n 0, 1) := by decide +kernel
theorem dL_law_27 : decode cL_law 27 = .ok (.iload_n 3, 1) := by decide +kernel
theorem dL_law_28 : decode cL_law 28 = .ok (.iaload, 1) := by decide +kernel
theorem dL_law_29 : decode cL_law 29 = .ok (.bipush 31, 2) := by decide +kernel
theorem dL_law_31 : decode cL_law 31 = .ok (.iand, 1) := by decide +kernel
theorem dL_law_32 : decode cL_law 32 = .ok (.tableswitch 696 0 19 #[96, 119, 152, 195, 238, 271, 304, 327, 380, 423, 466, 489, 512, 525, 548, 571, 614, 627, 650, 673], 96) := by decide +kernel
theorem dL_law_128 : decode cL_law 128 = .ok (.aload_n 1, 1) := by decide +kernel
theorem dL_law_129 : decode cL_law 129 = .ok (.aload_n 0, 1) := by decide +kernel
theorem dL_law_130 : decode cL_law 130 = .ok (.iload_n 3, 1) := by decide +kernel
theorem dL_law_131 : decode cL_law 131 = .ok (.iconst 1, 1) := by decide +kernel
theorem dL_law_132 : decode cL_law 132 = .ok (.iadd, 1) := by decide +kernel
theorem dL_law_133 : decode cL_law 133 = .ok (.iaload, 1) := by decide +kernel
theorem dL_law_134 : decode cL_law 134 = .ok (.invokevirtual 13, 3) := by decide +kernel
theorem dL_law_137 : decode cL_law 137 = .ok (.aload_n 2, 1) := by decide +kernel
theorem dL_law_138 : decode cL_law 138 = .ok (.aload_n 0, 1) := by decide +kernel
theorem dL_law_139 : decode cL_law 139 = .ok (.iload_n 3, 1) := by decide +kernel
theorem dL_law_140 : decode cL_law 140 = .ok (.iconst 1, 1) := by decide +kernel
theorem dL_law_141 : decode cL_law 141 = .ok (.iadd, 1) := by decide +kernel
theorem dL_law_142 : decode cL_law 142 = .ok (.iaload, 1) := by decide +kernel
theorem dL_law_143 : decode cL_law 143 = .ok (.invokevirtual 17, 3) := by decide +kernel
theorem dL_law_146 : decode cL_law 146 = .ok (.if_icmp .eq 582, 3) := by decide +kernel
theorem dL_law_149 : decode cL_law 149 = .ok (.iconst 0, 1) := by decide +kernel
theorem dL_law_150 : decode cL_law 150 = .ok (.ireturn, 1) := by decide +kernel
theorem dL_law_151 : decode cL_law 151 = .ok (.aload_n 1, 1) := by decide +kernel
theorem dL_law_152 : decode cL_law 152 = .ok (.aload_n 0, 1) := by decide +kernel
theorem dL_law_153 : decode cL_law 153 = .ok (.iload_n 3, 1) := by decide +kernel
theorem dL_law_154 : decode cL_law 154 = .ok (.iconst 1, 1) := by decide +kernel
theorem dL_law_155 : decode cL_law 155 = .ok (.iadd, 1) := by decide +kernel
theorem dL_law_156 : decode cL_law 156 = .ok (.iaload, 1) := by decide +kernel
theorem dL_law_157 : decode cL_law 157 = .ok (.aload_n 0, 1) := by decide +kernel
theorem dL_law_158 : decode cL_law 158 = .ok (.iload_n 3, 1) := by decide +kernel
theorem dL_law_159 : decode cL_law 159 = .ok (.iconst 2, 1) := by decide +kernel
theorem dL_law_160 : decode cL_law 160 = .ok (.iadd, 1) := by decide +kernel
theorem dL_law_161 : decode cL_law 161 = .ok (.iaload, 1) := by decide +kernel
theorem dL_law_162 : decode cL_law 162 = .ok (.invokevirtual 18, 3) := by decide +kernel
theorem dL_law_165 : decode cL_law 165 = .ok (.aload_n 2, 1) := by decide +kernel
theorem dL_law_166 : decode cL_law 166 = .ok (.aload_n 0, 1) := by decide +kernel
theorem dL_law_167 : decode cL_law 167 = .ok (.iload_n 3, 1) := by decide +kernel
theorem dL_law_168 : decode cL_law 168 = .ok (.iconst 1, 1) := by decide +kernel
theorem dL_law_169 : decode cL_law 169 = .ok (.iadd, 1) := by decide +kernel
theorem dL_law_170 : decode cL_law 170 = .ok (.iaload, 1) := by decide +kernel
theorem dL_law_171 : decode cL_law 171 = .ok (.aload_n 0, 1) := by decide +kernel
theorem dL_law_172 : decode cL_law 172 = .ok (.iload_n 3, 1) := by decide +kernel
theorem dL_law_173 : decode cL_law 173 = .ok (.iconst 2, 1) := by decide +kernel
theorem dL_law_174 : decode cL_law 174 = .ok (.iadd, 1) := by decide +kernel
theorem dL_law_175 : decode cL_law 175 = .ok (.iaload, 1) := by decide +kernel
theorem dL_law_176 : decode cL_law 176 = .ok (.invokevirtual 22, 3) := by decide +kernel
theorem dL_law_179 : decode cL_law 179 = .ok (.if_icmp .eq 549, 3) := by decide +kernel
theorem dL_law_182 : decode cL_law 182 = .ok (.iconst 0, 1) := by decide +kernel
theorem dL_law_183 : decode cL_law 183 = .ok (.ireturn, 1) := by decide +kernel
theorem dL_law_184 : decode cL_law 184 = .ok (.aload_n 1, 1) := by decide +kernel
theorem dL_law_185 : decode cL_law 185 = .ok (.aload_n 0, 1) := by decide +kernel
theorem dL_law_186 : decode cL_law 186 = .ok (.iload_n 3, 1) := by decide +kernel
theorem dL_law_187 : decode cL_law 187 = .ok (.iconst 1, 1) := by decide +kernel
theorem dL_law_188 : decode cL_law 188 = .ok (.iadd, 1) := by decide +kernel
theorem dL_law_189 : decode cL_law 189 = .ok (.iaload, 1) := by decide +kernel
theorem dL_law_190 : decode cL_law 190 = .ok (.aload_n 0, 1) := by decide +kernel
theorem dL_law_191 : decode cL_law 191 = .ok (.iload_n 3, 1) := by decide +kernel
theorem dL_law_192 : decode cL_law 192 = .ok (.iconst 2, 1) := by decide +kernel
theorem dL_law_193 : decode cL_law 193 = .ok (.iadd, 1) := by decide +kernel
theorem dL_law_194 : decode cL_law 194 = .ok (.iaload, 1) := by decide +kernel
theorem dL_law_195 : decode cL_law 195 = .ok (.aload_n 0, 1) := by decide +kernel
theorem dL_law_196 : decode cL_law 196 = .ok (.iload_n 3, 1) := by decide +kernel
theorem dL_law_197 : decode cL_law 197 = .ok (.iconst 3, 1) := by decide +kernel
theorem dL_law_198 : decode cL_law 198 = .ok (.iadd, 1) := by decide +kernel
theorem dL_law_199 : decode cL_law 199 = .ok (.iaload, 1) := by decide +kernel
theorem dL_law_200 : decode cL_law 200 = .ok (.invokevirtual 23, 3) := by decide +kernel
theorem dL_law_203 : decode cL_law 203 = .ok (.aload_n 2, 1) := by decide +kernel
theorem dL_law_204 : decode cL_law 204 = .ok (.aload_n 0, 1) := by decide +kernel
theorem dL_law_205 : decode cL_law 205 = .ok (.iload_n 3, 1) := by decide +kernel
theorem dL_law_206 : decode cL_law 206 = .ok (.iconst 1, 1) := by decide +kernel
theorem dL_law_207 : decode cL_law 207 = .ok (.iadd, 1) := by decide +kernel
theorem dL_law_208 : decode cL_law 208 = .ok (.iaload, 1) := by decide +kernel
theorem dL_law_209 : decode cL_law 209 = .ok (.aload_n 0, 1) := by decide +kernel
theorem dL_law_210 : decode cL_law 210 = .ok (.iload_n 3, 1) := by decide +kernel
theorem dL_law_211 : decode cL_law 211 = .ok (.iconst 2, 1) := by decide +kernel
theorem dL_law_212 : decode cL_law 212 = .ok (.iadd, 1) := by decide +kernel
theorem dL_law_213 : decode cL_law 213 = .ok (.iaload, 1) := by decide +kernel
theorem dL_law_214 : decode cL_law 214 = .ok (.aload_n 0, 1) := by decide +kernel
theorem dL_law_215 : decode cL_law 215 = .ok (.iload_n 3, 1) := by decide +kernel
theorem dL_law_216 : decode cL_law 216 = .ok (.iconst 3, 1) := by decide +kernel
theorem dL_law_217 : decode cL_law 217 = .ok (.iadd, 1) := by decide +kernel
theorem dL_law_218 : decode cL_law 218 = .ok (.iaload, 1) := by decide +kernel
theorem dL_law_219 : decode cL_law 219 = .ok (.invokevirtual 27, 3) := by decide +kernel
theorem dL_law_222 : decode cL_law 222 = .ok (.if_icmp .eq 506, 3) := by decide +kernel
theorem dL_law_225 : decode cL_law 225 = .ok (.iconst 0, 1) := by decide +kernel
theorem dL_law_226 : decode cL_law 226 = .ok (.ireturn, 1) := by decide +kernel
theorem dL_law_227 : decode cL_law 227 = .ok (.aload_n 1, 1) := by decide +kernel
theorem dL_law_228 : decode cL_law 228 = .ok (.aload_n 0, 1) := by decide +kernel
theorem dL_law_229 : decode cL_law 229 = .ok (.iload_n 3, 1) := by decide +kernel
theorem dL_law_230 : decode cL_law 230 = .ok (.iconst 1, 1) := by decide +kernel
theorem dL_law_231 : decode cL_law 231 = .ok (.iadd, 1) := by decide +kernel
theorem dL_law_232 : decode cL_law 232 = .ok (.iaload, 1) := by decide +kernel
theorem dL_law_233 : decode cL_law 233 = .ok (.aload_n 0, 1) := by decide +kernel
theorem dL_law_234 : decode cL_law 234 = .ok (.iload_n 3, 1) := by decide +kernel
theorem dL_law_235 : decode cL_law 235 = .ok (.iconst 2, 1) := by decide +kernel
theorem dL_law_236 : decode cL_law 236 = .ok (.iadd, 1) := by decide +kernel
theorem dL_law_237 : decode cL_law 237 = .ok (.iaload, 1) := by decide +kernel
theorem dL_law_238 : decode cL_law 238 = .ok (.aload_n 0, 1) := by decide +kernel
theorem dL_law_239 : decode cL_law 239 = .ok (.iload_n 3, 1) := by decide +kernel
theorem dL_law_240 : decode cL_law 240 = .ok (.iconst 3, 1) := by decide +kernel
theorem dL_law_241 : decode cL_law 241 = .ok (.iadd, 1) := by decide +kernel
theorem dL_law_242 : decode cL_law 242 = .ok (.iaload, 1) := by decide +kernel
theorem dL_law_243 : decode cL_law 243 = .ok (.invokevirtual 28, 3) := by decide +kernel
theorem dL_law_246 : decode cL_law 246 = .ok (.aload_n 2, 1) := by decide +kernel
theorem dL_law_247 : decode cL_law 247 = .ok (.aload_n 0, 1) := by decide +kernel
theorem dL_law_248 : decode cL_law 248 = .ok (.iload_n 3, 1) := by decide +kernel
theorem dL_law_249 : decode cL_law 249 = .ok (.iconst 1, 1) := by decide +kernel
theorem dL_law_250 : decode cL_law 250 = .ok (.iadd, 1) := by decide +kernel
theorem dL_law_251 : decode cL_law 251 = .ok (.iaload, 1) := by decide +kernel
theorem dL_law_252 : decode cL_law 252 = .ok (.aload_n 0, 1) := by decide +kernel
theorem dL_law_253 : decode cL_law 253 = .ok (.iload_n 3, 1) := by decide +kernel
theorem dL_law_254 : decode cL_law 254 = .ok (.iconst 2, 1) := by decide +kernel
theorem dL_law_255 : decode cL_law 255 = .ok (.iadd, 1) := by decide +kernel
theorem dL_law_256 : decode cL_law 256 = .ok (.iaload, 1) := by decide +kernel
theorem dL_law_257 : decode cL_law 257 = .ok (.aload_n 0, 1) := by decide +kernel
theorem dL_law_258 : decode cL_law 258 = .ok (.iload_n 3, 1) := by decide +kernel
theorem dL_law_259 : decode cL_law 259 = .ok (.iconst 3, 1) := by decide +kernel
theorem dL_law_260 : decode cL_law 260 = .ok (.iadd, 1) := by decide +kernel
theorem dL_law_261 : decode cL_law 261 = .ok (.iaload, 1) := by decide +kernel
theorem dL_law_262 : decode cL_law 262 = .ok (.invokevirtual 31, 3) := by decide +kernel
theorem dL_law_265 : decode cL_law 265 = .ok (.if_icmp .eq 463, 3) := by decide +kernel
theorem dL_law_268 : decode cL_law 268 = .ok (.iconst 0, 1) := by decide +kernel
theorem dL_law_269 : decode cL_law 269 = .ok (.ireturn, 1) := by decide +kernel
theorem dL_law_270 : decode cL_law 270 = .ok (.aload_n 1, 1) := by decide +kernel
theorem dL_law_271 : decode cL_law 271 = .ok (.aload_n 0, 1) := by decide +kernel
theorem dL_law_272 : decode cL_law 272 = .ok (.iload_n 3, 1) := by decide +kernel
theorem dL_law_273 : decode cL_law 273 = .ok (.iconst 1, 1) := by decide +kernel
theorem dL_law_274 : decode cL_law 274 = .ok (.iadd, 1) := by decide +kernel
theorem dL_law_275 : decode cL_law 275 = .ok (.iaload, 1) := by decide +kernel
theorem dL_law_276 : decode cL_law 276 = .ok (.aload_n 0, 1) := by decide +kernel
theorem dL_law_277 : decode cL_law 277 = .ok (.iload_n 3, 1) := by decide +kernel
theorem dL_law_278 : decode cL_law 278 = .ok (.iconst 2, 1) := by decide +kernel
theorem dL_law_279 : decode cL_law 279 = .ok (.iadd, 1) := by decide +kernel
theorem dL_law_280 : decode cL_law 280 = .ok (.iaload, 1) := by decide +kernel
theorem dL_law_281 : decode cL_law 281 = .ok (.invokevirtual 32, 3) := by decide +kernel
theorem dL_law_284 : decode cL_law 284 = .ok (.aload_n 2, 1) := by decide +kernel
theorem dL_law_285 : decode cL_law 285 = .ok (.aload_n 0, 1) := by decide +kernel
theorem dL_law_286 : decode cL_law 286 = .ok (.iload_n 3, 1) := by decide +kernel
theorem dL_law_287 : decode cL_law 287 = .ok (.iconst 1, 1) := by decide +kernel
theorem dL_law_288 : decode cL_law 288 = .ok (.iadd, 1) := by decide +kernel
theorem dL_law_289 : decode cL_law 289 = .ok (.iaload, 1) := by decide +kernel
theorem dL_law_290 : decode cL_law 290 = .ok (.aload_n 0, 1) := by decide +kernel
theorem dL_law_291 : decode cL_law 291 = .ok (.iload_n 3, 1) := by decide +kernel
theorem dL_law_292 : decode cL_law 292 = .ok (.iconst 2, 1) := by decide +kernel
theorem dL_law_293 : decode cL_law 293 = .ok (.iadd, 1) := by decide +kernel
theorem dL_law_294 : decode cL_law 294 = .ok (.iaload, 1) := by decide +kernel
theorem dL_law_295 : decode cL_law 295 = .ok (.invokevirtual 35, 3) := by decide +kernel
theorem dL_law_298 : decode cL_law 298 = .ok (.if_icmp .eq 430, 3) := by decide +kernel
theorem dL_law_301 : decode cL_law 301 = .ok (.iconst 0, 1) := by decide +kernel
theorem dL_law_302 : decode cL_law 302 = .ok (.ireturn, 1) := by decide +kernel
theorem dL_law_303 : decode cL_law 303 = .ok (.aload_n 1, 1) := by decide +kernel
theorem dL_law_304 : decode cL_law 304 = .ok (.aload_n 0, 1) := by decide +kernel
theorem dL_law_305 : decode cL_law 305 = .ok (.iload_n 3, 1) := by decide +kernel
theorem dL_law_306 : decode cL_law 306 = .ok (.iconst 1, 1) := by decide +kernel
theorem dL_law_307 : decode cL_law 307 = .ok (.iadd, 1) := by decide +kernel
theorem dL_law_308 : decode cL_law 308 = .ok (.iaload, 1) := by decide +kernel
theorem dL_law_309 : decode cL_law 309 = .ok (.aload_n 0, 1) := by decide +kernel
theorem dL_law_310 : decode cL_law 310 = .ok (.iload_n 3, 1) := by decide +kernel
theorem dL_law_311 : decode cL_law 311 = .ok (.iconst 2, 1) := by decide +kernel
theorem dL_law_312 : decode cL_law 312 = .ok (.iadd, 1) := by decide +kernel
theorem dL_law_313 : decode cL_law 313 = .ok (.iaload, 1) := by decide +kernel
theorem dL_law_314 : decode cL_law 314 = .ok (.invokevirtual 36, 3) := by decide +kernel
theorem dL_law_317 : decode cL_law 317 = .ok (.aload_n 2, 1) := by decide +kernel
theorem dL_law_318 : decode cL_law 318 = .ok (.aload_n 0, 1) := by decide +kernel
theorem dL_law_319 : decode cL_law 319 = .ok (.iload_n 3, 1) := by decide +kernel
theorem dL_law_320 : decode cL_law 320 = .ok (.iconst 1, 1) := by decide +kernel
theorem dL_law_321 : decode cL_law 321 = .ok (.iadd, 1) := by decide +kernel
theorem dL_law_322 : decode cL_law 322 = .ok (.iaload, 1) := by decide +kernel
theorem dL_law_323 : decode cL_law 323 = .ok (.aload_n 0, 1) := by decide +kernel
theorem dL_law_324 : decode cL_law 324 = .ok (.iload_n 3, 1) := by decide +kernel
theorem dL_law_325 : decode cL_law 325 = .ok (.iconst 2, 1) := by decide +kernel
theorem dL_law_326 : decode cL_law 326 = .ok (.iadd, 1) := by decide +kernel
theorem dL_law_327 : decode cL_law 327 = .ok (.iaload, 1) := by decide +kernel
theorem dL_law_328 : decode cL_law 328 = .ok (.invokevirtual 39, 3) := by decide +kernel
theorem dL_law_331 : decode cL_law 331 = .ok (.if_icmp .eq 397, 3) := by decide +kernel
theorem dL_law_334 : decode cL_law 334 = .ok (.iconst 0, 1) := by decide +kernel
theorem dL_law_335 : decode cL_law 335 = .ok (.ireturn, 1) := by decide +kernel
theorem dL_law_336 : decode cL_law 336 = .ok (.aload_n 1, 1) := by decide +kernel
theorem dL_law_337 : decode cL_law 337 = .ok (.aload_n 0, 1) := by decide +kernel
theorem dL_law_338 : decode cL_law 338 = .ok (.iload_n 3, 1) := by decide +kernel
theorem dL_law_339 : decode cL_law 339 = .ok (.iconst 1, 1) := by decide +kernel
theorem dL_law_340 : decode cL_law 340 = .ok (.iadd, 1) := by decide +kernel
theorem dL_law_341 : decode cL_law 341 = .ok (.iaload, 1) := by decide +kernel
theorem dL_law_342 : decode cL_law 342 = .ok (.invokevirtual 40, 3) := by decide +kernel
theorem dL_law_345 : decode cL_law 345 = .ok (.aload_n 2, 1) := by decide +kernel
theorem dL_law_346 : decode cL_law 346 = .ok (.aload_n 0, 1) := by decide +kernel
theorem dL_law_347 : decode cL_law 347 = .ok (.iload_n 3, 1) := by decide +kernel
theorem dL_law_348 : decode cL_law 348 = .ok (.iconst 1, 1) := by decide +kernel
theorem dL_law_349 : decode cL_law 349 = .ok (.iadd, 1) := by decide +kernel
theorem dL_law_350 : decode cL_law 350 = .ok (.iaload, 1) := by decide +kernel
theorem dL_law_351 : decode cL_law 351 = .ok (.invokevirtual 43, 3) := by decide +kernel
theorem dL_law_354 : decode cL_law 354 = .ok (.if_icmp .eq 374, 3) := by decide +kernel
theorem dL_law_357 : decode cL_law 357 = .ok (.iconst 0, 1) := by decide +kernel
theorem dL_law_358 : decode cL_law 358 = .ok (.ireturn, 1) := by decide +kernel
theorem dL_law_359 : decode cL_law 359 = .ok (.aload_n 1, 1) := by decide +kernel
theorem dL_law_360 : decode cL_law 360 = .ok (.aload_n 0, 1) := by decide +kernel
theorem dL_law_361 : decode cL_law 361 = .ok (.iload_n 3, 1) := by decide +kernel
theorem dL_law_362 : decode cL_law 362 = .ok (.iconst 1, 1) := by decide +kernel
theorem dL_law_363 : decode cL_law 363 = .ok (.iadd, 1) := by decide +kernel
theorem dL_law_364 : decode cL_law 364 = .ok (.iaload, 1) := by decide +kernel
theorem dL_law_365 : decode cL_law 365 = .ok (.aload_n 0, 1) := by decide +kernel
theorem dL_law_366 : decode cL_law 366 = .ok (.iload_n 3, 1) := by decide +kernel
theorem dL_law_367 : decode cL_law 367 = .ok (.iconst 2, 1) := by decide +kernel
theorem dL_law_368 : decode cL_law 368 = .ok (.iadd, 1) := by decide +kernel
theorem dL_law_369 : decode cL_law 369 = .ok (.iaload, 1) := by decide +kernel
theorem dL_law_370 : decode cL_law 370 = .ok (.aload_n 0, 1) := by decide +kernel
theorem dL_law_371 : decode cL_law 371 = .ok (.iload_n 3, 1) := by decide +kernel
theorem dL_law_372 : decode cL_law 372 = .ok (.iconst 3, 1) := by decide +kernel
theorem dL_law_373 : decode cL_law 373 = .ok (.iadd, 1) := by decide +kernel
theorem dL_law_374 : decode cL_law 374 = .ok (.iaload, 1) := by decide +kernel
theorem dL_law_375 : decode cL_law 375 = .ok (.aload_n 0, 1) := by decide +kernel
theorem dL_law_376 : decode cL_law 376 = .ok (.iload_n 3, 1) := by decide +kernel
theorem dL_law_377 : decode cL_law 377 = .ok (.iconst 4, 1) := by decide +kernel
theorem dL_law_378 : decode cL_law 378 = .ok (.iadd, 1) := by decide +kernel
theorem dL_law_379 : decode cL_law 379 = .ok (.iaload, 1) := by decide +kernel
theorem dL_law_380 : decode cL_law 380 = .ok (.invokevirtual 44, 3) := by decide +kernel
theorem dL_law_383 : decode cL_law 383 = .ok (.aload_n 2, 1) := by decide +kernel
theorem dL_law_384 : decode cL_law 384 = .ok (.aload_n 0, 1) := by decide +kernel
theorem dL_law_385 : decode cL_law 385 = .ok (.iload_n 3, 1) := by decide +kernel
theorem dL_law_386 : decode cL_law 386 = .ok (.iconst 1, 1) := by decide +kernel
theorem dL_law_387 : decode cL_law 387 = .ok (.iadd, 1) := by decide +kernel
theorem dL_law_388 : decode cL_law 388 = .ok (.iaload, 1) := by decide +kernel
theorem dL_law_389 : decode cL_law 389 = .ok (.aload_n 0, 1) := by decide +kernel
theorem dL_law_390 : decode cL_law 390 = .ok (.iload_n 3, 1) := by decide +kernel
theorem dL_law_391 : decode cL_law 391 = .ok (.iconst 2, 1) := by decide +kernel
theorem dL_law_392 : decode cL_law 392 = .ok (.iadd, 1) := by decide +kernel
theorem dL_law_393 : decode cL_law 393 = .ok (.iaload, 1) := by decide +kernel
theorem dL_law_394 : decode cL_law 394 = .ok (.aload_n 0, 1) := by decide +kernel
theorem dL_law_395 : decode cL_law 395 = .ok (.iload_n 3, 1) := by decide +kernel
theorem dL_law_396 : decode cL_law 396 = .ok (.iconst 3, 1) := by decide +kernel
theorem dL_law_397 : decode cL_law 397 = .ok (.iadd, 1) := by decide +kernel
theorem dL_law_398 : decode cL_law 398 = .ok (.iaload, 1) := by decide +kernel
theorem dL_law_399 : decode cL_law 399 = .ok (.aload_n 0, 1) := by decide +kernel
theorem dL_law_400 : decode cL_law 400 = .ok (.iload_n 3, 1) := by decide +kernel
theorem dL_law_401 : decode cL_law 401 = .ok (.iconst 4, 1) := by decide +kernel
theorem dL_law_402 : decode cL_law 402 = .ok (.iadd, 1) := by decide +kernel
theorem dL_law_403 : decode cL_law 403 = .ok (.iaload, 1) := by decide +kernel
theorem dL_law_404 : decode cL_law 404 = .ok (.invokevirtual 48, 3) := by decide +kernel
theorem dL_law_407 : decode cL_law 407 = .ok (.if_icmp .eq 321, 3) := by decide +kernel
theorem dL_law_410 : decode cL_law 410 = .ok (.iconst 0, 1) := by decide +kernel
theorem dL_law_411 : decode cL_law 411 = .ok (.ireturn, 1) := by decide +kernel
theorem dL_law_412 : decode cL_law 412 = .ok (.aload_n 1, 1) := by decide +kernel
theorem dL_law_413 : decode cL_law 413 = .ok (.aload_n 0, 1) := by decide +kernel
theorem dL_law_414 : decode cL_law 414 = .ok (.iload_n 3, 1) := by decide +kernel
theorem dL_law_415 : decode cL_law 415 = .ok (.iconst 1, 1) := by decide +kernel
theorem dL_law_416 : decode cL_law 416 = .ok (.iadd, 1) := by decide +kernel
theorem dL_law_417 : decode cL_law 417 = .ok (.iaload, 1) := by decide +kernel
theorem dL_law_418 : decode cL_law 418 = .ok (.aload_n 0, 1) := by decide +kernel
theorem dL_law_419 : decode cL_law 419 = .ok (.iload_n 3, 1) := by decide +kernel
theorem dL_law_420 : decode cL_law 420 = .ok (.iconst 2, 1) := by decide +kernel
theorem dL_law_421 : decode cL_law 421 = .ok (.iadd, 1) := by decide +kernel
theorem dL_law_422 : decode cL_law 422 = .ok (.iaload, 1) := by decide +kernel
theorem dL_law_423 : decode cL_law 423 = .ok (.aload_n 0, 1) := by decide +kernel
theorem dL_law_424 : decode cL_law 424 = .ok (.iload_n 3, 1) := by decide +kernel
theorem dL_law_425 : decode cL_law 425 = .ok (.iconst 3, 1) := by decide +kernel
theorem dL_law_426 : decode cL_law 426 = .ok (.iadd, 1) := by decide +kernel
theorem dL_law_427 : decode cL_law 427 = .ok (.iaload, 1) := by decide +kernel
theorem dL_law_428 : decode cL_law 428 = .ok (.invokevirtual 49, 3) := by decide +kernel
theorem dL_law_431 : decode cL_law 431 = .ok (.aload_n 2, 1) := by decide +kernel
theorem dL_law_432 : decode cL_law 432 = .ok (.aload_n 0, 1) := by decide +kernel
theorem dL_law_433 : decode cL_law 433 = .ok (.iload_n 3, 1) := by decide +kernel
theorem dL_law_434 : decode cL_law 434 = .ok (.iconst 1, 1) := by decide +kernel
theorem dL_law_435 : decode cL_law 435 = .ok (.iadd, 1) := by decide +kernel
theorem dL_law_436 : decode cL_law 436 = .ok (.iaload, 1) := by decide +kernel
theorem dL_law_437 : decode cL_law 437 = .ok (.aload_n 0, 1) := by decide +kernel
theorem dL_law_438 : decode cL_law 438 = .ok (.iload_n 3, 1) := by decide +kernel
theorem dL_law_439 : decode cL_law 439 = .ok (.iconst 2, 1) := by decide +kernel
theorem dL_law_440 : decode cL_law 440 = .ok (.iadd, 1) := by decide +kernel
theorem dL_law_441 : decode cL_law 441 = .ok (.iaload, 1) := by decide +kernel
theorem dL_law_442 : decode cL_law 442 = .ok (.aload_n 0, 1) := by decide +kernel
theorem dL_law_443 : decode cL_law 443 = .ok (.iload_n 3, 1) := by decide +kernel
theorem dL_law_444 : decode cL_law 444 = .ok (.iconst 3, 1) := by decide +kernel
theorem dL_law_445 : decode cL_law 445 = .ok (.iadd, 1) := by decide +kernel
theorem dL_law_446 : decode cL_law 446 = .ok (.iaload, 1) := by decide +kernel
theorem dL_law_447 : decode cL_law 447 = .ok (.invokevirtual 52, 3) := by decide +kernel
theorem dL_law_450 : decode cL_law 450 = .ok (.if_icmp .eq 278, 3) := by decide +kernel
theorem dL_law_453 : decode cL_law 453 = .ok (.iconst 0, 1) := by decide +kernel
theorem dL_law_454 : decode cL_law 454 = .ok (.ireturn, 1) := by decide +kernel
theorem dL_law_455 : decode cL_law 455 = .ok (.aload_n 1, 1) := by decide +kernel
theorem dL_law_456 : decode cL_law 456 = .ok (.aload_n 0, 1) := by decide +kernel
theorem dL_law_457 : decode cL_law 457 = .ok (.iload_n 3, 1) := by decide +kernel
theorem dL_law_458 : decode cL_law 458 = .ok (.iconst 1, 1) := by decide +kernel
theorem dL_law_459 : decode cL_law 459 = .ok (.iadd, 1) := by decide +kernel
theorem dL_law_460 : decode cL_law 460 = .ok (.iaload, 1) := by decide +kernel
theorem dL_law_461 : decode cL_law 461 = .ok (.aload_n 0, 1) := by decide +kernel
theorem dL_law_462 : decode cL_law 462 = .ok (.iload_n 3, 1) := by decide +kernel
theorem dL_law_463 : decode cL_law 463 = .ok (.iconst 2, 1) := by decide +kernel
theorem dL_law_464 : decode cL_law 464 = .ok (.iadd, 1) := by decide +kernel
theorem dL_law_465 : decode cL_law 465 = .ok (.iaload, 1) := by decide +kernel
theorem dL_law_466 : decode cL_law 466 = .ok (.aload_n 0, 1) := by decide +kernel
theorem dL_law_467 : decode cL_law 467 = .ok (.iload_n 3, 1) := by decide +kernel
theorem dL_law_468 : decode cL_law 468 = .ok (.iconst 3, 1) := by decide +kernel
theorem dL_law_469 : decode cL_law 469 = .ok (.iadd, 1) := by decide +kernel
theorem dL_law_470 : decode cL_law 470 = .ok (.iaload, 1) := by decide +kernel
theorem dL_law_471 : decode cL_law 471 = .ok (.invokevirtual 53, 3) := by decide +kernel
theorem dL_law_474 : decode cL_law 474 = .ok (.aload_n 2, 1) := by decide +kernel
theorem dL_law_475 : decode cL_law 475 = .ok (.aload_n 0, 1) := by decide +kernel
theorem dL_law_476 : decode cL_law 476 = .ok (.iload_n 3, 1) := by decide +kernel
theorem dL_law_477 : decode cL_law 477 = .ok (.iconst 1, 1) := by decide +kernel
theorem dL_law_478 : decode cL_law 478 = .ok (.iadd, 1) := by decide +kernel
theorem dL_law_479 : decode cL_law 479 = .ok (.iaload, 1) := by decide +kernel
theorem dL_law_480 : decode cL_law 480 = .ok (.aload_n 0, 1) := by decide +kernel
theorem dL_law_481 : decode cL_law 481 = .ok (.iload_n 3, 1) := by decide +kernel
theorem dL_law_482 : decode cL_law 482 = .ok (.iconst 2, 1) := by decide +kernel
theorem dL_law_483 : decode cL_law 483 = .ok (.iadd, 1) := by decide +kernel
theorem dL_law_484 : decode cL_law 484 = .ok (.iaload, 1) := by decide +kernel
theorem dL_law_485 : decode cL_law 485 = .ok (.aload_n 0, 1) := by decide +kernel
theorem dL_law_486 : decode cL_law 486 = .ok (.iload_n 3, 1) := by decide +kernel
theorem dL_law_487 : decode cL_law 487 = .ok (.iconst 3, 1) := by decide +kernel
theorem dL_law_488 : decode cL_law 488 = .ok (.iadd, 1) := by decide +kernel
theorem dL_law_489 : decode cL_law 489 = .ok (.iaload, 1) := by decide +kernel
theorem dL_law_490 : decode cL_law 490 = .ok (.invokevirtual 56, 3) := by decide +kernel
theorem dL_law_493 : decode cL_law 493 = .ok (.if_icmp .eq 235, 3) := by decide +kernel
theorem dL_law_496 : decode cL_law 496 = .ok (.iconst 0, 1) := by decide +kernel
theorem dL_law_497 : decode cL_law 497 = .ok (.ireturn, 1) := by decide +kernel
theorem dL_law_498 : decode cL_law 498 = .ok (.aload_n 1, 1) := by decide +kernel
theorem dL_law_499 : decode cL_law 499 = .ok (.aload_n 0, 1) := by decide +kernel
theorem dL_law_500 : decode cL_law 500 = .ok (.iload_n 3, 1) := by decide +kernel
theorem dL_law_501 : decode cL_law 501 = .ok (.iconst 1, 1) := by decide +kernel
theorem dL_law_502 : decode cL_law 502 = .ok (.iadd, 1) := by decide +kernel
theorem dL_law_503 : decode cL_law 503 = .ok (.iaload, 1) := by decide +kernel
theorem dL_law_504 : decode cL_law 504 = .ok (.invokevirtual 57, 3) := by decide +kernel
theorem dL_law_507 : decode cL_law 507 = .ok (.aload_n 2, 1) := by decide +kernel
theorem dL_law_508 : decode cL_law 508 = .ok (.aload_n 0, 1) := by decide +kernel
theorem dL_law_509 : decode cL_law 509 = .ok (.iload_n 3, 1) := by decide +kernel
theorem dL_law_510 : decode cL_law 510 = .ok (.iconst 1, 1) := by decide +kernel
theorem dL_law_511 : decode cL_law 511 = .ok (.iadd, 1) := by decide +kernel
theorem dL_law_512 : decode cL_law 512 = .ok (.iaload, 1) := by decide +kernel
theorem dL_law_513 : decode cL_law 513 = .ok (.invokevirtual 60, 3) := by decide +kernel
theorem dL_law_516 : decode cL_law 516 = .ok (.if_icmp .eq 212, 3) := by decide +kernel
theorem dL_law_519 : decode cL_law 519 = .ok (.iconst 0, 1) := by decide +kernel
theorem dL_law_520 : decode cL_law 520 = .ok (.ireturn, 1) := by decide +kernel
theorem dL_law_521 : decode cL_law 521 = .ok (.aload_n 1, 1) := by decide +kernel
theorem dL_law_522 : decode cL_law 522 = .ok (.aload_n 0, 1) := by decide +kernel
theorem dL_law_523 : decode cL_law 523 = .ok (.iload_n 3, 1) := by decide +kernel
theorem dL_law_524 : decode cL_law 524 = .ok (.iconst 1, 1) := by decide +kernel
theorem dL_law_525 : decode cL_law 525 = .ok (.iadd, 1) := by decide +kernel
theorem dL_law_526 : decode cL_law 526 = .ok (.iaload, 1) := by decide +kernel
theorem dL_law_527 : decode cL_law 527 = .ok (.invokevirtual 61, 3) := by decide +kernel
theorem dL_law_530 : decode cL_law 530 = .ok (.aload_n 2, 1) := by decide +kernel
theorem dL_law_531 : decode cL_law 531 = .ok (.aload_n 0, 1) := by decide +kernel
theorem dL_law_532 : decode cL_law 532 = .ok (.iload_n 3, 1) := by decide +kernel
theorem dL_law_533 : decode cL_law 533 = .ok (.iconst 1, 1) := by decide +kernel
theorem dL_law_534 : decode cL_law 534 = .ok (.iadd, 1) := by decide +kernel
theorem dL_law_535 : decode cL_law 535 = .ok (.iaload, 1) := by decide +kernel
theorem dL_law_536 : decode cL_law 536 = .ok (.invokevirtual 64, 3) := by decide +kernel
theorem dL_law_539 : decode cL_law 539 = .ok (.if_icmp .eq 189, 3) := by decide +kernel
theorem dL_law_542 : decode cL_law 542 = .ok (.iconst 0, 1) := by decide +kernel
theorem dL_law_543 : decode cL_law 543 = .ok (.ireturn, 1) := by decide +kernel
theorem dL_law_544 : decode cL_law 544 = .ok (.aload_n 1, 1) := by decide +kernel
theorem dL_law_545 : decode cL_law 545 = .ok (.invokevirtual 65, 3) := by decide +kernel
theorem dL_law_548 : decode cL_law 548 = .ok (.aload_n 2, 1) := by decide +kernel
theorem dL_law_549 : decode cL_law 549 = .ok (.invokevirtual 69, 3) := by decide +kernel
theorem dL_law_552 : decode cL_law 552 = .ok (.if_icmp .eq 176, 3) := by decide +kernel
theorem dL_law_555 : decode cL_law 555 = .ok (.iconst 0, 1) := by decide +kernel
theorem dL_law_556 : decode cL_law 556 = .ok (.ireturn, 1) := by decide +kernel
theorem dL_law_557 : decode cL_law 557 = .ok (.aload_n 1, 1) := by decide +kernel
theorem dL_law_558 : decode cL_law 558 = .ok (.aload_n 0, 1) := by decide +kernel
theorem dL_law_559 : decode cL_law 559 = .ok (.iload_n 3, 1) := by decide +kernel
theorem dL_law_560 : decode cL_law 560 = .ok (.iconst 1, 1) := by decide +kernel
theorem dL_law_561 : decode cL_law 561 = .ok (.iadd, 1) := by decide +kernel
theorem dL_law_562 : decode cL_law 562 = .ok (.iaload, 1) := by decide +kernel
theorem dL_law_563 : decode cL_law 563 = .ok (.invokevirtual 70, 3) := by decide +kernel
theorem dL_law_566 : decode cL_law 566 = .ok (.aload_n 2, 1) := by decide +kernel
theorem dL_law_567 : decode cL_law 567 = .ok (.aload_n 0, 1) := by decide +kernel
theorem dL_law_568 : decode cL_law 568 = .ok (.iload_n 3, 1) := by decide +kernel
theorem dL_law_569 : decode cL_law 569 = .ok (.iconst 1, 1) := by decide +kernel
theorem dL_law_570 : decode cL_law 570 = .ok (.iadd, 1) := by decide +kernel
theorem dL_law_571 : decode cL_law 571 = .ok (.iaload, 1) := by decide +kernel
theorem dL_law_572 : decode cL_law 572 = .ok (.invokevirtual 73, 3) := by decide +kernel
theorem dL_law_575 : decode cL_law 575 = .ok (.if_icmp .eq 153, 3) := by decide +kernel
theorem dL_law_578 : decode cL_law 578 = .ok (.iconst 0, 1) := by decide +kernel
theorem dL_law_579 : decode cL_law 579 = .ok (.ireturn, 1) := by decide +kernel
theorem dL_law_580 : decode cL_law 580 = .ok (.aload_n 1, 1) := by decide +kernel
theorem dL_law_581 : decode cL_law 581 = .ok (.aload_n 0, 1) := by decide +kernel
theorem dL_law_582 : decode cL_law 582 = .ok (.iload_n 3, 1) := by decide +kernel
theorem dL_law_583 : decode cL_law 583 = .ok (.iconst 1, 1) := by decide +kernel
theorem dL_law_584 : decode cL_law 584 = .ok (.iadd, 1) := by decide +kernel
theorem dL_law_585 : decode cL_law 585 = .ok (.iaload, 1) := by decide +kernel
theorem dL_law_586 : decode cL_law 586 = .ok (.invokevirtual 74, 3) := by decide +kernel
theorem dL_law_589 : decode cL_law 589 = .ok (.aload_n 2, 1) := by decide +kernel
theorem dL_law_590 : decode cL_law 590 = .ok (.aload_n 0, 1) := by decide +kernel
theorem dL_law_591 : decode cL_law 591 = .ok (.iload_n 3, 1) := by decide +kernel
theorem dL_law_592 : decode cL_law 592 = .ok (.iconst 1, 1) := by decide +kernel
theorem dL_law_593 : decode cL_law 593 = .ok (.iadd, 1) := by decide +kernel
theorem dL_law_594 : decode cL_law 594 = .ok (.iaload, 1) := by decide +kernel
theorem dL_law_595 : decode cL_law 595 = .ok (.invokevirtual 77, 3) := by decide +kernel
theorem dL_law_598 : decode cL_law 598 = .ok (.if_icmp .eq 130, 3) := by decide +kernel
theorem dL_law_601 : decode cL_law 601 = .ok (.iconst 0, 1) := by decide +kernel
theorem dL_law_602 : decode cL_law 602 = .ok (.ireturn, 1) := by decide +kernel
theorem dL_law_603 : decode cL_law 603 = .ok (.aload_n 1, 1) := by decide +kernel
theorem dL_law_604 : decode cL_law 604 = .ok (.aload_n 0, 1) := by decide +kernel
theorem dL_law_605 : decode cL_law 605 = .ok (.iload_n 3, 1) := by decide +kernel
theorem dL_law_606 : decode cL_law 606 = .ok (.iconst 1, 1) := by decide +kernel
theorem dL_law_607 : decode cL_law 607 = .ok (.iadd, 1) := by decide +kernel
theorem dL_law_608 : decode cL_law 608 = .ok (.iaload, 1) := by decide +kernel
theorem dL_law_609 : decode cL_law 609 = .ok (.aload_n 0, 1) := by decide +kernel
theorem dL_law_610 : decode cL_law 610 = .ok (.iload_n 3, 1) := by decide +kernel
theorem dL_law_611 : decode cL_law 611 = .ok (.iconst 2, 1) := by decide +kernel
theorem dL_law_612 : decode cL_law 612 = .ok (.iadd, 1) := by decide +kernel
theorem dL_law_613 : decode cL_law 613 = .ok (.iaload, 1) := by decide +kernel
theorem dL_law_614 : decode cL_law 614 = .ok (.aload_n 0, 1) := by decide +kernel
theorem dL_law_615 : decode cL_law 615 = .ok (.iload_n 3, 1) := by decide +kernel
theorem dL_law_616 : decode cL_law 616 = .ok (.iconst 3, 1) := by decide +kernel
theorem dL_law_617 : decode cL_law 617 = .ok (.iadd, 1) := by decide +kernel
theorem dL_law_618 : decode cL_law 618 = .ok (.iaload, 1) := by decide +kernel
theorem dL_law_619 : decode cL_law 619 = .ok (.invokevirtual 78, 3) := by decide +kernel
theorem dL_law_622 : decode cL_law 622 = .ok (.aload_n 2, 1) := by decide +kernel
theorem dL_law_623 : decode cL_law 623 = .ok (.aload_n 0, 1) := by decide +kernel
theorem dL_law_624 : decode cL_law 624 = .ok (.iload_n 3, 1) := by decide +kernel
theorem dL_law_625 : decode cL_law 625 = .ok (.iconst 1, 1) := by decide +kernel
theorem dL_law_626 : decode cL_law 626 = .ok (.iadd, 1) := by decide +kernel
theorem dL_law_627 : decode cL_law 627 = .ok (.iaload, 1) := by decide +kernel
theorem dL_law_628 : decode cL_law 628 = .ok (.aload_n 0, 1) := by decide +kernel
theorem dL_law_629 : decode cL_law 629 = .ok (.iload_n 3, 1) := by decide +kernel
theorem dL_law_630 : decode cL_law 630 = .ok (.iconst 2, 1) := by decide +kernel
theorem dL_law_631 : decode cL_law 631 = .ok (.iadd, 1) := by decide +kernel
theorem dL_law_632 : decode cL_law 632 = .ok (.iaload, 1) := by decide +kernel
theorem dL_law_633 : decode cL_law 633 = .ok (.aload_n 0, 1) := by decide +kernel
theorem dL_law_634 : decode cL_law 634 = .ok (.iload_n 3, 1) := by decide +kernel
theorem dL_law_635 : decode cL_law 635 = .ok (.iconst 3, 1) := by decide +kernel
theorem dL_law_636 : decode cL_law 636 = .ok (.iadd, 1) := by decide +kernel
theorem dL_law_637 : decode cL_law 637 = .ok (.iaload, 1) := by decide +kernel
theorem dL_law_638 : decode cL_law 638 = .ok (.invokevirtual 81, 3) := by decide +kernel
theorem dL_law_641 : decode cL_law 641 = .ok (.if_icmp .eq 87, 3) := by decide +kernel
theorem dL_law_644 : decode cL_law 644 = .ok (.iconst 0, 1) := by decide +kernel
theorem dL_law_645 : decode cL_law 645 = .ok (.ireturn, 1) := by decide +kernel
theorem dL_law_646 : decode cL_law 646 = .ok (.aload_n 1, 1) := by decide +kernel
theorem dL_law_647 : decode cL_law 647 = .ok (.invokevirtual 82, 3) := by decide +kernel
theorem dL_law_650 : decode cL_law 650 = .ok (.aload_n 2, 1) := by decide +kernel
theorem dL_law_651 : decode cL_law 651 = .ok (.invokevirtual 85, 3) := by decide +kernel
theorem dL_law_654 : decode cL_law 654 = .ok (.if_icmp .eq 74, 3) := by decide +kernel
theorem dL_law_657 : decode cL_law 657 = .ok (.iconst 0, 1) := by decide +kernel
theorem dL_law_658 : decode cL_law 658 = .ok (.ireturn, 1) := by decide +kernel
theorem dL_law_659 : decode cL_law 659 = .ok (.aload_n 1, 1) := by decide +kernel
theorem dL_law_660 : decode cL_law 660 = .ok (.aload_n 0, 1) := by decide +kernel
theorem dL_law_661 : decode cL_law 661 = .ok (.iload_n 3, 1) := by decide +kernel
theorem dL_law_662 : decode cL_law 662 = .ok (.iconst 1, 1) := by decide +kernel
theorem dL_law_663 : decode cL_law 663 = .ok (.iadd, 1) := by decide +kernel
theorem dL_law_664 : decode cL_law 664 = .ok (.iaload, 1) := by decide +kernel
theorem dL_law_665 : decode cL_law 665 = .ok (.invokevirtual 86, 3) := by decide +kernel
theorem dL_law_668 : decode cL_law 668 = .ok (.aload_n 2, 1) := by decide +kernel
theorem dL_law_669 : decode cL_law 669 = .ok (.aload_n 0, 1) := by decide +kernel
theorem dL_law_670 : decode cL_law 670 = .ok (.iload_n 3, 1) := by decide +kernel
theorem dL_law_671 : decode cL_law 671 = .ok (.iconst 1, 1) := by decide +kernel
theorem dL_law_672 : decode cL_law 672 = .ok (.iadd, 1) := by decide +kernel
theorem dL_law_673 : decode cL_law 673 = .ok (.iaload, 1) := by decide +kernel
theorem dL_law_674 : decode cL_law 674 = .ok (.invokevirtual 89, 3) := by decide +kernel
theorem dL_law_677 : decode cL_law 677 = .ok (.if_icmp .eq 51, 3) := by decide +kernel
theorem dL_law_680 : decode cL_law 680 = .ok (.iconst 0, 1) := by decide +kernel
theorem dL_law_681 : decode cL_law 681 = .ok (.ireturn, 1) := by decide +kernel
theorem dL_law_682 : decode cL_law 682 = .ok (.aload_n 1, 1) := by decide +kernel
theorem dL_law_683 : decode cL_law 683 = .ok (.aload_n 0, 1) := by decide +kernel
theorem dL_law_684 : decode cL_law 684 = .ok (.iload_n 3, 1) := by decide +kernel
theorem dL_law_685 : decode cL_law 685 = .ok (.iconst 1, 1) := by decide +kernel
theorem dL_law_686 : decode cL_law 686 = .ok (.iadd, 1) := by decide +kernel
theorem dL_law_687 : decode cL_law 687 = .ok (.iaload, 1) := by decide +kernel
theorem dL_law_688 : decode cL_law 688 = .ok (.invokevirtual 90, 3) := by decide +kernel
theorem dL_law_691 : decode cL_law 691 = .ok (.aload_n 2, 1) := by decide +kernel
theorem dL_law_692 : decode cL_law 692 = .ok (.aload_n 0, 1) := by decide +kernel
theorem dL_law_693 : decode cL_law 693 = .ok (.iload_n 3, 1) := by decide +kernel
theorem dL_law_694 : decode cL_law 694 = .ok (.iconst 1, 1) := by decide +kernel
theorem dL_law_695 : decode cL_law 695 = .ok (.iadd, 1) := by decide +kernel
theorem dL_law_696 : decode cL_law 696 = .ok (.iaload, 1) := by decide +kernel
theorem dL_law_697 : decode cL_law 697 = .ok (.invokevirtual 93, 3) := by decide +kernel
theorem dL_law_700 : decode cL_law 700 = .ok (.if_icmp .eq 28, 3) := by decide +kernel
theorem dL_law_703 : decode cL_law 703 = .ok (.iconst 0, 1) := by decide +kernel
theorem dL_law_704 : decode cL_law 704 = .ok (.ireturn, 1) := by decide +kernel
theorem dL_law_705 : decode cL_law 705 = .ok (.aload_n 1, 1) := by decide +kernel
theorem dL_law_706 : decode cL_law 706 = .ok (.aload_n 0, 1) := by decide +kernel
theorem dL_law_707 : decode cL_law 707 = .ok (.iload_n 3, 1) := by decide +kernel
theorem dL_law_708 : decode cL_law 708 = .ok (.iconst 1, 1) := by decide +kernel
theorem dL_law_709 : decode cL_law 709 = .ok (.iadd, 1) := by decide +kernel
theorem dL_law_710 : decode cL_law 710 = .ok (.iaload, 1) := by decide +kernel
theorem dL_law_711 : decode cL_law 711 = .ok (.invokevirtual 94, 3) := by decide +kernel
theorem dL_law_714 : decode cL_law 714 = .ok (.aload_n 2, 1) := by decide +kernel
theorem dL_law_715 : decode cL_law 715 = .ok (.aload_n 0, 1) := by decide +kernel
theorem dL_law_716 : decode cL_law 716 = .ok (.iload_n 3, 1) := by decide +kernel
theorem dL_law_717 : decode cL_law 717 = .ok (.iconst 1, 1) := by decide +kernel
theorem dL_law_718 : decode cL_law 718 = .ok (.iadd, 1) := by decide +kernel
theorem dL_law_719 : decode cL_law 719 = .ok (.iaload, 1) := by decide +kernel
theorem dL_law_720 : decode cL_law 720 = .ok (.invokevirtual 97, 3) := by decide +kernel
theorem dL_law_723 : decode cL_law 723 = .ok (.if_icmp .eq 5, 3) := by decide +kernel
theorem dL_law_726 : decode cL_law 726 = .ok (.iconst 0, 1) := by decide +kernel
theorem dL_law_727 : decode cL_law 727 = .ok (.ireturn, 1) := by decide +kernel
theorem dL_law_728 : decode cL_law 728 = .ok (.iinc 3 5, 3) := by decide +kernel
theorem dL_law_731 : decode cL_law 731 = .ok (.goto (-713), 3) := by decide +kernel
theorem dL_law_734 : decode cL_law 734 = .ok (.iconst 1, 1) := by decide +kernel
theorem dL_law_735 : decode cL_law 735 = .ok (.ireturn, 1) := by decide +kernel
