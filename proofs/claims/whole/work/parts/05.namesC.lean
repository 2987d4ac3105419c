theorem dX10_init_0 : decode cX10_init 0 = .ok (.aload_n 0, 1) := by decide +kernel
theorem dX10_init_1 : decode cX10_init 1 = .ok (.invokespecial 1, 3) := by decide +kernel
theorem dX10_init_4 : decode cX10_init 4 = .ok (.aload_n 0, 1) := by decide +kernel
theorem dX10_init_5 : decode cX10_init 5 = .ok (.new 7, 3) := by decide +kernel
theorem dX10_init_8 : decode cX10_init 8 = .ok (.dup, 1) := by decide +kernel
theorem dX10_init_9 : decode cX10_init 9 = .ok (.invokespecial 9, 3) := by decide +kernel
theorem dX10_init_12 : decode cX10_init 12 = .ok (.putfield 10, 3) := by decide +kernel
theorem dX10_init_15 : decode cX10_init 15 = .ok (.aload_n 0, 1) := by decide +kernel
theorem dX10_init_16 : decode cX10_init 16 = .ok (.new 16, 3) := by decide +kernel
theorem dX10_init_19 : decode cX10_init 19 = .ok (.dup, 1) := by decide +kernel
theorem dX10_init_20 : decode cX10_init 20 = .ok (.invokespecial 18, 3) := by decide +kernel
theorem dX10_init_23 : decode cX10_init 23 = .ok (.putfield 19, 3) := by decide +kernel
theorem dX10_init_26 : decode cX10_init 26 = .ok (.aload_n 0, 1) := by decide +kernel
theorem dX10_init_27 : decode cX10_init 27 = .ok (.new 23, 3) := by decide +kernel
theorem dX10_init_30 : decode cX10_init 30 = .ok (.dup, 1) := by decide +kernel
theorem dX10_init_31 : decode cX10_init 31 = .ok (.invokespecial 25, 3) := by decide +kernel
theorem dX10_init_34 : decode cX10_init 34 = .ok (.putfield 26, 3) := by decide +kernel
theorem dX10_init_37 : decode cX10_init 37 = .ok (.aload_n 0, 1) := by decide +kernel
theorem dX10_init_38 : decode cX10_init 38 = .ok (.new 30, 3) := by decide +kernel
theorem dX10_init_41 : decode cX10_init 41 = .ok (.dup, 1) := by decide +kernel
theorem dX10_init_42 : decode cX10_init 42 = .ok (.invokespecial 32, 3) := by decide +kernel
theorem dX10_init_45 : decode cX10_init 45 = .ok (.putfield 33, 3) := by decide +kernel
theorem dX10_init_48 : decode cX10_init 48 = .ok (.aload_n 0, 1) := by decide +kernel
theorem dX10_init_49 : decode cX10_init 49 = .ok (.new 37, 3) := by decide +kernel
theorem dX10_init_52 : decode cX10_init 52 = .ok (.dup, 1) := by decide +kernel
theorem dX10_init_53 : decode cX10_init 53 = .ok (.invokespecial 39, 3) := by decide +kernel
theorem dX10_init_56 : decode cX10_init 56 = .ok (.putfield 40, 3) := by decide +kernel
theorem dX10_init_59 : decode cX10_init 59 = .ok (.aload_n 0, 1) := by decide +kernel
theorem dX10_init_60 : decode cX10_init 60 = .ok (.new 44, 3) := by decide +kernel
theorem dX10_init_63 : decode cX10_init 63 = .ok (.dup, 1) := by decide +kernel
theorem dX10_init_64 : decode cX10_init 64 = .ok (.invokespecial 46, 3) := by decide +kernel
theorem dX10_init_67 : decode cX10_init 67 = .ok (.putfield 47, 3) := by decide +kernel
theorem dX10_init_70 : decode cX10_init 70 = .ok (.aload_n 0, 1) := by decide +kernel
theorem dX10_init_71 : decode cX10_init 71 = .ok (.new 51, 3) := by decide +kernel
theorem dX10_init_74 : decode cX10_init 74 = .ok (.dup, 1) := by decide +kernel
theorem dX10_init_75 : decode cX10_init 75 = .ok (.invokespecial 53, 3) := by decide +kernel
theorem dX10_init_78 : decode cX10_init 78 = .ok (.putfield 54, 3) := by decide +kernel
theorem dX10_init_81 : decode cX10_init 81 = .ok (.aload_n 0, 1) := by decide +kernel
theorem dX10_init_82 : decode cX10_init 82 = .ok (.new 58, 3) := by decide +kernel
theorem dX10_init_85 : decode cX10_init 85 = .ok (.dup, 1) := by decide +kernel
theorem dX10_init_86 : decode cX10_init 86 = .ok (.invokespecial 60, 3) := by decide +kernel
theorem dX10_init_89 : decode cX10_init 89 = .ok (.putfield 61, 3) := by decide +kernel
theorem dX10_init_92 : decode cX10_init 92 = .ok (.aload_n 0, 1) := by decide +kernel
theorem dX10_init_93 : decode cX10_init 93 = .ok (.new 65, 3) := by decide +kernel
theorem dX10_init_96 : decode cX10_init 96 = .ok (.dup, 1) := by decide +kernel
theorem dX10_init_97 : decode cX10_init 97 = .ok (.invokespecial 67, 3) := by decide +kernel
theorem dX10_init_100 : decode cX10_init 100 = .ok (.putfield 68, 3) := by decide +kernel
theorem dX10_init_103 : decode cX10_init 103 = .ok (.return_, 1) := by decide +kernel
set_option maxRecDepth 20000 in
theorem ggX10_told_X7_people : GoodIn wsX10_told wsX7_people := goodIn_r _ [15, 16, 137] (by decide +kernel) (by decide +kernel)
set_option maxRecDepth 20000 in
theorem gX10_told_X7_people : GoodIn wsX10_told (wsV RX10 72 RX7 yX7_people wsX7_people) := goodIn_app (goodIn_of _ (by decide +kernel)) ggX10_told_X7_people
set_option maxRecDepth 20000 in
theorem ggX10_told_X7_ruleNow : GoodIn wsX10_told wsX7_ruleNow := goodIn_r _ [20, 16, 137] (by decide +kernel) (by decide +kernel)
set_option maxRecDepth 20000 in
theorem gX10_told_X7_ruleNow : GoodIn wsX10_told (wsV RX10 76 RX7 yX7_ruleNow wsX7_ruleNow) := goodIn_app (goodIn_of _ (by decide +kernel)) ggX10_told_X7_ruleNow
set_option maxRecDepth 20000 in
theorem ggX10_told_X7_signs : GoodIn wsX10_told wsX7_signs := goodIn_r _ [24, 16, 137] (by decide +kernel) (by decide +kernel)
set_option maxRecDepth 20000 in
theorem gX10_told_X7_signs : GoodIn wsX10_told (wsV RX10 79 RX7 yX7_signs wsX7_signs) := goodIn_app (goodIn_of _ (by decide +kernel)) ggX10_told_X7_signs
set_option maxRecDepth 20000 in
theorem ggX10_told_X1_unlikeCoats : GoodIn wsX10_told wsX1_unlikeCoats := goodIn_r _ [29, 30, 31, 32, 28, 33, 34, 35, 36, 37, 38, 39, 40, 41, 42, 43, 44, 45, 46, 47, 48, 49, 50, 51, 125, 126, 127, 128, 129] (by decide +kernel) (by decide +kernel)
set_option maxRecDepth 20000 in
theorem gX10_told_X1_unlikeCoats : GoodIn wsX10_told (wsV RX10 86 RX1 yX1_unlikeCoats wsX1_unlikeCoats) := goodIn_app (goodIn_of _ (by decide +kernel)) ggX10_told_X1_unlikeCoats
set_option maxRecDepth 20000 in
theorem ggX10_told_X9_spoiledBit : GoodIn wsX10_told wsX9_spoiledBit := goodIn_r _ [56, 57, 138, 139, 140, 141, 142, 143, 144, 145] (by decide +kernel) (by decide +kernel)
set_option maxRecDepth 20000 in
theorem gX10_told_X9_spoiledBit : GoodIn wsX10_told (wsV RX10 89 RX9 yX9_spoiledBit wsX9_spoiledBit) := goodIn_app (goodIn_of _ (by decide +kernel)) ggX10_told_X9_spoiledBit
set_option maxRecDepth 20000 in
theorem ggX10_told_X8_meantByAll : GoodIn wsX10_told wsX8_meantByAll := goodIn_r _ [62, 63, 12, 13, 14, 15, 16, 64, 22, 23, 24, 65, 43, 44, 28, 45, 46, 66, 67, 61, 68, 69, 70, 71, 72, 73, 74, 48, 49, 50, 51, 42, 75, 76, 77, 137, 125, 126, 127, 128, 129] (by decide +kernel) (by decide +kernel)
set_option maxRecDepth 20000 in
theorem gX10_told_X8_meantByAll : GoodIn wsX10_told (wsV RX10 92 RX8 yX8_meantByAll wsX8_meantByAll) := goodIn_app (goodIn_of _ (by decide +kernel)) ggX10_told_X8_meantByAll
set_option maxRecDepth 20000 in
theorem ggX10_told_X8_meantBySome : GoodIn wsX10_told wsX8_meantBySome := goodIn_r _ [81, 63, 12, 13, 14, 15, 16, 64, 22, 23, 24, 69, 70, 71, 72, 73, 74, 48, 49, 28, 50, 51, 42, 43, 44, 45, 46, 75, 76, 61, 77, 82, 83, 84, 65, 137, 125, 126, 127, 128, 129] (by decide +kernel) (by decide +kernel)
set_option maxRecDepth 20000 in
theorem gX10_told_X8_meantBySome : GoodIn wsX10_told (wsV RX10 96 RX8 yX8_meantBySome wsX8_meantBySome) := goodIn_app (goodIn_of _ (by decide +kernel)) ggX10_told_X8_meantBySome
set_option maxRecDepth 20000 in
theorem ggX10_told_X8_likely : GoodIn wsX10_told wsX8_likely := goodIn_r _ [88, 63, 12, 13, 14, 15, 16, 89, 90, 91, 61, 92, 93, 94, 95, 96, 97, 65, 43, 44, 28, 45, 46, 64, 22, 23, 24, 69, 70, 71, 72, 73, 98, 99, 100, 101, 102, 103, 104, 74, 48, 49, 50, 51, 42, 137, 146, 125, 126, 127, 128, 129] (by decide +kernel) (by decide +kernel)
set_option maxRecDepth 20000 in
theorem gX10_told_X8_likely : GoodIn wsX10_told (wsV RX10 99 RX8 yX8_likely wsX8_likely) := goodIn_app (goodIn_of _ (by decide +kernel)) ggX10_told_X8_likely
set_option maxRecDepth 20000 in
theorem ggX10_told_X0_firstWrong : GoodIn wsX10_told wsX0_firstWrong := goodIn_r _ [109, 110, 111, 112, 113, 114, 115, 48, 49, 28, 50, 51, 42, 43, 44, 45, 46, 130, 131, 132, 133, 125, 126, 127, 128, 129] (by decide +kernel) (by decide +kernel)
set_option maxRecDepth 20000 in
theorem gX10_told_X0_firstWrong : GoodIn wsX10_told (wsV RX10 105 RX0 yX0_firstWrong wsX0_firstWrong) := goodIn_app (goodIn_of _ (by decide +kernel)) ggX10_told_X0_firstWrong
theorem dX10_told_0 : decode cX10_told 0 = .ok (.iload_n 1, 1) := by decide +kernel
theorem dX10_told_1 : decode cX10_told 1 = .ok (.tableswitch 187 0 11 #[63, 71, 79, 87, 95, 103, 111, 127, 143, 159, 167, 179], 63) := by decide +kernel
theorem dX10_told_64 : decode cX10_told 64 = .ok (.aload_n 0, 1) := by decide +kernel
theorem dX10_told_65 : decode cX10_told 65 = .ok (.getfield 10, 3) := by decide +kernel
theorem dX10_told_68 : decode cX10_told 68 = .ok (.invokevirtual 72, 3) := by decide +kernel
theorem dX10_told_71 : decode cX10_told 71 = .ok (.ireturn, 1) := by decide +kernel
theorem dX10_told_72 : decode cX10_told 72 = .ok (.aload_n 0, 1) := by decide +kernel
theorem dX10_told_73 : decode cX10_told 73 = .ok (.getfield 10, 3) := by decide +kernel
theorem dX10_told_76 : decode cX10_told 76 = .ok (.invokevirtual 76, 3) := by decide +kernel
theorem dX10_told_79 : decode cX10_told 79 = .ok (.ireturn, 1) := by decide +kernel
theorem dX10_told_80 : decode cX10_told 80 = .ok (.aload_n 0, 1) := by decide +kernel
theorem dX10_told_81 : decode cX10_told 81 = .ok (.getfield 10, 3) := by decide +kernel
theorem dX10_told_84 : decode cX10_told 84 = .ok (.invokevirtual 79, 3) := by decide +kernel
theorem dX10_told_87 : decode cX10_told 87 = .ok (.ireturn, 1) := by decide +kernel
theorem dX10_told_88 : decode cX10_told 88 = .ok (.aload_n 0, 1) := by decide +kernel
theorem dX10_told_89 : decode cX10_told 89 = .ok (.getfield 19, 3) := by decide +kernel
theorem dX10_told_92 : decode cX10_told 92 = .ok (.getfield 82, 3) := by decide +kernel
theorem dX10_told_95 : decode cX10_told 95 = .ok (.ireturn, 1) := by decide +kernel
theorem dX10_told_96 : decode cX10_told 96 = .ok (.aload_n 0, 1) := by decide +kernel
theorem dX10_told_97 : decode cX10_told 97 = .ok (.getfield 19, 3) := by decide +kernel
theorem dX10_told_100 : decode cX10_told 100 = .ok (.invokevirtual 86, 3) := by decide +kernel
theorem dX10_told_103 : decode cX10_told 103 = .ok (.ireturn, 1) := by decide +kernel
theorem dX10_told_104 : decode cX10_told 104 = .ok (.aload_n 0, 1) := by decide +kernel
theorem dX10_told_105 : decode cX10_told 105 = .ok (.getfield 26, 3) := by decide +kernel
theorem dX10_told_108 : decode cX10_told 108 = .ok (.invokevirtual 89, 3) := by decide +kernel
theorem dX10_told_111 : decode cX10_told 111 = .ok (.ireturn, 1) := by decide +kernel
theorem dX10_told_112 : decode cX10_told 112 = .ok (.aload_n 0, 1) := by decide +kernel
theorem dX10_told_113 : decode cX10_told 113 = .ok (.getfield 33, 3) := by decide +kernel
theorem dX10_told_116 : decode cX10_told 116 = .ok (.aload_n 0, 1) := by decide +kernel
theorem dX10_told_117 : decode cX10_told 117 = .ok (.getfield 10, 3) := by decide +kernel
theorem dX10_told_120 : decode cX10_told 120 = .ok (.aload_n 0, 1) := by decide +kernel
theorem dX10_told_121 : decode cX10_told 121 = .ok (.getfield 19, 3) := by decide +kernel
theorem dX10_told_124 : decode cX10_told 124 = .ok (.invokevirtual 92, 3) := by decide +kernel
theorem dX10_told_127 : decode cX10_told 127 = .ok (.ireturn, 1) := by decide +kernel
theorem dX10_told_128 : decode cX10_told 128 = .ok (.aload_n 0, 1) := by decide +kernel
theorem dX10_told_129 : decode cX10_told 129 = .ok (.getfield 33, 3) := by decide +kernel
theorem dX10_told_132 : decode cX10_told 132 = .ok (.aload_n 0, 1) := by decide +kernel
theorem dX10_told_133 : decode cX10_told 133 = .ok (.getfield 10, 3) := by decide +kernel
theorem dX10_told_136 : decode cX10_told 136 = .ok (.aload_n 0, 1) := by decide +kernel
theorem dX10_told_137 : decode cX10_told 137 = .ok (.getfield 19, 3) := by decide +kernel
theorem dX10_told_140 : decode cX10_told 140 = .ok (.invokevirtual 96, 3) := by decide +kernel
theorem dX10_told_143 : decode cX10_told 143 = .ok (.ireturn, 1) := by decide +kernel
theorem dX10_told_144 : decode cX10_told 144 = .ok (.aload_n 0, 1) := by decide +kernel
theorem dX10_told_145 : decode cX10_told 145 = .ok (.getfield 33, 3) := by decide +kernel
theorem dX10_told_148 : decode cX10_told 148 = .ok (.aload_n 0, 1) := by decide +kernel
theorem dX10_told_149 : decode cX10_told 149 = .ok (.getfield 10, 3) := by decide +kernel
theorem dX10_told_152 : decode cX10_told 152 = .ok (.aload_n 0, 1) := by decide +kernel
theorem dX10_told_153 : decode cX10_told 153 = .ok (.getfield 19, 3) := by decide +kernel
theorem dX10_told_156 : decode cX10_told 156 = .ok (.invokevirtual 99, 3) := by decide +kernel
theorem dX10_told_159 : decode cX10_told 159 = .ok (.ireturn, 1) := by decide +kernel
theorem dX10_told_160 : decode cX10_told 160 = .ok (.aload_n 0, 1) := by decide +kernel
theorem dX10_told_161 : decode cX10_told 161 = .ok (.getfield 47, 3) := by decide +kernel
theorem dX10_told_164 : decode cX10_told 164 = .ok (.getfield 102, 3) := by decide +kernel
theorem dX10_told_167 : decode cX10_told 167 = .ok (.ireturn, 1) := by decide +kernel
theorem dX10_told_168 : decode cX10_told 168 = .ok (.aload_n 0, 1) := by decide +kernel
theorem dX10_told_169 : decode cX10_told 169 = .ok (.getfield 47, 3) := by decide +kernel
theorem dX10_told_172 : decode cX10_told 172 = .ok (.aload_n 0, 1) := by decide +kernel
theorem dX10_told_173 : decode cX10_told 173 = .ok (.getfield 19, 3) := by decide +kernel
theorem dX10_told_176 : decode cX10_told 176 = .ok (.invokevirtual 105, 3) := by decide +kernel
theorem dX10_told_179 : decode cX10_told 179 = .ok (.ireturn, 1) := by decide +kernel
theorem dX10_told_180 : decode cX10_told 180 = .ok (.aload_n 0, 1) := by decide +kernel
theorem dX10_told_181 : decode cX10_told 181 = .ok (.getfield 54, 3) := by decide +kernel
theorem dX10_told_184 : decode cX10_told 184 = .ok (.getfield 109, 3) := by decide +kernel
theorem dX10_told_187 : decode cX10_told 187 = .ok (.ireturn, 1) := by decide +kernel
theorem dX10_told_188 : decode cX10_told 188 = .ok (.ldc 112, 2) := by decide +kernel
theorem dX10_told_190 : decode cX10_told 190 = .ok (.ireturn, 1) := by decide +kernel
set_option maxRecDepth 20000 in
theorem ggX10_person_X7_has : GoodIn wsX10_person wsX7_has := goodIn_r _ [11, 12, 124] (by decide +kernel) (by decide +kernel)
set_option maxRecDepth 20000 in
theorem gX10_person_X7_has : GoodIn wsX10_person (wsV RX10 113 RX7 yX7_has wsX7_has) := goodIn_app (goodIn_of _ (by decide +kernel)) ggX10_person_X7_has
set_option maxRecDepth 20000 in
theorem ggX10_person_X7_fact : GoodIn wsX10_person wsX7_fact := goodIn_r _ [16, 12, 17, 8, 9, 10, 11, 124] (by decide +kernel) (by decide +kernel)
set_option maxRecDepth 20000 in
theorem gX10_person_X7_fact : GoodIn wsX10_person (wsV RX10 118 RX7 yX7_fact wsX7_fact) := goodIn_app (goodIn_of _ (by decide +kernel)) ggX10_person_X7_fact
set_option maxRecDepth 20000 in
theorem ggX10_person_X1_sizeOf : GoodIn wsX10_person wsX1_sizeOf := goodIn_r _ [22, 23, 125, 126, 127, 128, 129] (by decide +kernel) (by decide +kernel)
set_option maxRecDepth 20000 in
theorem gX10_person_X1_sizeOf : GoodIn wsX10_person (wsV RX10 122 RX1 yX1_sizeOf wsX1_sizeOf) := goodIn_app (goodIn_of _ (by decide +kernel)) ggX10_person_X1_sizeOf
set_option maxRecDepth 20000 in
theorem ggX10_person_X1_sameAs : GoodIn wsX10_person wsX1_sameAs := goodIn_r _ [27, 28, 29, 30, 31, 21, 32, 33, 19, 20, 22, 23, 34, 35, 36, 37, 38, 125, 126, 127, 128, 129] (by decide +kernel) (by decide +kernel)
set_option maxRecDepth 20000 in
theorem gX10_person_X1_sameAs : GoodIn wsX10_person (wsV RX10 126 RX1 yX1_sameAs wsX1_sameAs) := goodIn_app (goodIn_of _ (by decide +kernel)) ggX10_person_X1_sameAs
set_option maxRecDepth 20000 in
theorem ggX10_person_X8_like : GoodIn wsX10_person wsX8_like := goodIn_r _ [43, 44, 45, 46, 47, 48, 49, 19, 20, 21, 22, 23, 50, 51, 52, 10, 53, 12, 54, 55, 56, 57, 58, 59, 60, 61, 42, 62, 63, 64, 65, 66, 35, 36, 37, 38, 33, 130, 125, 126, 127, 128, 129, 124] (by decide +kernel) (by decide +kernel)
set_option maxRecDepth 20000 in
theorem gX10_person_X8_like : GoodIn wsX10_person (wsV RX10 129 RX8 yX8_like wsX8_like) := goodIn_app (goodIn_of _ (by decide +kernel)) ggX10_person_X8_like
set_option maxRecDepth 20000 in
theorem ggX10_person_X7_childrenOf : GoodIn wsX10_person wsX7_childrenOf := goodIn_r _ [70, 71, 72, 73, 10, 74, 12, 75, 14, 15, 16, 17, 8, 9, 11, 124] (by decide +kernel) (by decide +kernel)
set_option maxRecDepth 20000 in
theorem gX10_person_X7_childrenOf : GoodIn wsX10_person (wsV RX10 133 RX7 yX7_childrenOf wsX7_childrenOf) := goodIn_app (goodIn_of _ (by decide +kernel)) ggX10_person_X7_childrenOf
set_option maxRecDepth 20000 in
theorem ggX10_person_X9_leastBirth : GoodIn wsX10_person wsX9_leastBirth := goodIn_r _ [80, 81, 82, 79, 83, 84, 85, 86, 87, 88, 89, 90, 91, 92, 93, 94, 131, 132, 133, 134, 135, 136, 137, 138] (by decide +kernel) (by decide +kernel)
set_option maxRecDepth 20000 in
theorem gX10_person_X9_leastBirth : GoodIn wsX10_person (wsV RX10 136 RX9 yX9_leastBirth wsX9_leastBirth) := goodIn_app (goodIn_of _ (by decide +kernel)) ggX10_person_X9_leastBirth
set_option maxRecDepth 20000 in
theorem ggX10_person_X9_greatestBirth : GoodIn wsX10_person wsX9_greatestBirth := goodIn_r _ [98, 81, 82, 79, 83, 99, 100, 101, 102, 103, 89, 90, 91, 92, 93, 94, 131, 132, 133, 134, 135, 136, 137, 138] (by decide +kernel) (by decide +kernel)
set_option maxRecDepth 20000 in
theorem gX10_person_X9_greatestBirth : GoodIn wsX10_person (wsV RX10 139 RX9 yX9_greatestBirth wsX9_greatestBirth) := goodIn_app (goodIn_of _ (by decide +kernel)) ggX10_person_X9_greatestBirth
set_option maxRecDepth 20000 in
theorem ggX10_person_X9_leastDeath : GoodIn wsX10_person wsX9_leastDeath := goodIn_r _ [107, 108, 109, 79, 110, 84, 85, 86, 87, 88, 89, 90, 91, 92, 93, 94, 131, 132, 133, 134, 135, 136, 137, 138] (by decide +kernel) (by decide +kernel)
set_option maxRecDepth 20000 in
theorem gX10_person_X9_leastDeath : GoodIn wsX10_person (wsV RX10 142 RX9 yX9_leastDeath wsX9_leastDeath) := goodIn_app (goodIn_of _ (by decide +kernel)) ggX10_person_X9_leastDeath
set_option maxRecDepth 20000 in
theorem ggX10_person_X9_greatestDeath : GoodIn wsX10_person wsX9_greatestDeath := goodIn_r _ [114, 108, 109, 79, 110, 99, 100, 101, 102, 103, 89, 90, 91, 92, 93, 94, 131, 132, 133, 134, 135, 136, 137, 138] (by decide +kernel) (by decide +kernel)
set_option maxRecDepth 20000 in
theorem gX10_person_X9_greatestDeath : GoodIn wsX10_person (wsV RX10 145 RX9 yX9_greatestDeath wsX9_greatestDeath) := goodIn_app (goodIn_of _ (by decide +kernel)) ggX10_person_X9_greatestDeath
theorem dX10_person_0 : decode cX10_person 0 = .ok (.aload_n 0, 1) := by decide +kernel
theorem dX10_person_1 : decode cX10_person 1 = .ok (.getfield 10, 3) := by decide +kernel
theorem dX10_person_4 : decode cX10_person 4 = .ok (.iload_n 1, 1) := by decide +kernel
theorem dX10_person_5 : decode cX10_person 5 = .ok (.invokevirtual 113, 3) := by decide +kernel
theorem dX10_person_8 : decode cX10_person 8 = .ok (.ifCond .ne 6, 3) := by decide +kernel
theorem dX10_person_11 : decode cX10_person 11 = .ok (.ldc 117, 2) := by decide +kernel
theorem dX10_person_13 : decode cX10_person 13 = .ok (.ireturn, 1) := by decide +kernel
theorem dX10_person_14 : decode cX10_person 14 = .ok (.iload_n 2, 1) := by decide +kernel
theorem dX10_person_15 : decode cX10_person 15 = .ok (.tableswitch 239 0 15 #[77, 87, 97, 107, 117, 126, 135, 152, 161, 171, 181, 192, 203, 212, 221, 230], 77) := by decide +kernel
theorem dX10_person_92 : decode cX10_person 92 = .ok (.aload_n 0, 1) := by decide +kernel
theorem dX10_person_93 : decode cX10_person 93 = .ok (.getfield 10, 3) := by decide +kernel
theorem dX10_person_96 : decode cX10_person 96 = .ok (.iload_n 1, 1) := by decide +kernel
theorem dX10_person_97 : decode cX10_person 97 = .ok (.iconst 0, 1) := by decide +kernel
theorem dX10_person_98 : decode cX10_person 98 = .ok (.invokevirtual 118, 3) := by decide +kernel
theorem dX10_person_101 : decode cX10_person 101 = .ok (.ireturn, 1) := by decide +kernel
theorem dX10_person_102 : decode cX10_person 102 = .ok (.aload_n 0, 1) := by decide +kernel
theorem dX10_person_103 : decode cX10_person 103 = .ok (.getfield 10, 3) := by decide +kernel
theorem dX10_person_106 : decode cX10_person 106 = .ok (.iload_n 1, 1) := by decide +kernel
theorem dX10_person_107 : decode cX10_person 107 = .ok (.iconst 1, 1) := by decide +kernel
theorem dX10_person_108 : decode cX10_person 108 = .ok (.invokevirtual 118, 3) := by decide +kernel
theorem dX10_person_111 : decode cX10_person 111 = .ok (.ireturn, 1) := by decide +kernel
theorem dX10_person_112 : decode cX10_person 112 = .ok (.aload_n 0, 1) := by decide +kernel
theorem dX10_person_113 : decode cX10_person 113 = .ok (.getfield 10, 3) := by decide +kernel
theorem dX10_person_116 : decode cX10_person 116 = .ok (.iload_n 1, 1) := by decide +kernel
theorem dX10_person_117 : decode cX10_person 117 = .ok (.iconst 2, 1) := by decide +kernel
theorem dX10_person_118 : decode cX10_person 118 = .ok (.invokevirtual 118, 3) := by decide +kernel
theorem dX10_person_121 : decode cX10_person 121 = .ok (.ireturn, 1) := by decide +kernel
theorem dX10_person_122 : decode cX10_person 122 = .ok (.aload_n 0, 1) := by decide +kernel
theorem dX10_person_123 : decode cX10_person 123 = .ok (.getfield 10, 3) := by decide +kernel
theorem dX10_person_126 : decode cX10_person 126 = .ok (.iload_n 1, 1) := by decide +kernel
theorem dX10_person_127 : decode cX10_person 127 = .ok (.iconst 3, 1) := by decide +kernel
theorem dX10_person_128 : decode cX10_person 128 = .ok (.invokevirtual 118, 3) := by decide +kernel
theorem dX10_person_131 : decode cX10_person 131 = .ok (.ireturn, 1) := by decide +kernel
theorem dX10_person_132 : decode cX10_person 132 = .ok (.aload_n 0, 1) := by decide +kernel
theorem dX10_person_133 : decode cX10_person 133 = .ok (.getfield 19, 3) := by decide +kernel
theorem dX10_person_136 : decode cX10_person 136 = .ok (.iload_n 1, 1) := by decide +kernel
theorem dX10_person_137 : decode cX10_person 137 = .ok (.invokevirtual 122, 3) := by decide +kernel
theorem dX10_person_140 : decode cX10_person 140 = .ok (.ireturn, 1) := by decide +kernel
theorem dX10_person_141 : decode cX10_person 141 = .ok (.aload_n 0, 1) := by decide +kernel
theorem dX10_person_142 : decode cX10_person 142 = .ok (.getfield 19, 3) := by decide +kernel
theorem dX10_person_145 : decode cX10_person 145 = .ok (.iload_n 1, 1) := by decide +kernel
theorem dX10_person_146 : decode cX10_person 146 = .ok (.invokevirtual 126, 3) := by decide +kernel
theorem dX10_person_149 : decode cX10_person 149 = .ok (.ireturn, 1) := by decide +kernel
theorem dX10_person_150 : decode cX10_person 150 = .ok (.aload_n 0, 1) := by decide +kernel
theorem dX10_person_151 : decode cX10_person 151 = .ok (.getfield 33, 3) := by decide +kernel
theorem dX10_person_154 : decode cX10_person 154 = .ok (.aload_n 0, 1) := by decide +kernel
theorem dX10_person_155 : decode cX10_person 155 = .ok (.getfield 10, 3) := by decide +kernel
theorem dX10_person_158 : decode cX10_person 158 = .ok (.aload_n 0, 1) := by decide +kernel
theorem dX10_person_159 : decode cX10_person 159 = .ok (.getfield 19, 3) := by decide +kernel
theorem dX10_person_162 : decode cX10_person 162 = .ok (.iload_n 1, 1) := by decide +kernel
theorem dX10_person_163 : decode cX10_person 163 = .ok (.invokevirtual 129, 3) := by decide +kernel
theorem dX10_person_166 : decode cX10_person 166 = .ok (.ireturn, 1) := by decide +kernel
theorem dX10_person_167 : decode cX10_person 167 = .ok (.aload_n 0, 1) := by decide +kernel
theorem dX10_person_168 : decode cX10_person 168 = .ok (.getfield 10, 3) := by decide +kernel
theorem dX10_person_171 : decode cX10_person 171 = .ok (.iload_n 1, 1) := by decide +kernel
theorem dX10_person_172 : decode cX10_person 172 = .ok (.invokevirtual 133, 3) := by decide +kernel
theorem dX10_person_175 : decode cX10_person 175 = .ok (.ireturn, 1) := by decide +kernel
theorem dX10_person_176 : decode cX10_person 176 = .ok (.aload_n 0, 1) := by decide +kernel
theorem dX10_person_177 : decode cX10_person 177 = .ok (.getfield 10, 3) := by decide +kernel
theorem dX10_person_180 : decode cX10_person 180 = .ok (.iload_n 1, 1) := by decide +kernel
theorem dX10_person_181 : decode cX10_person 181 = .ok (.iconst 4, 1) := by decide +kernel
theorem dX10_person_182 : decode cX10_person 182 = .ok (.invokevirtual 118, 3) := by decide +kernel
theorem dX10_person_185 : decode cX10_person 185 = .ok (.ireturn, 1) := by decide +kernel
theorem dX10_person_186 : decode cX10_person 186 = .ok (.aload_n 0, 1) := by decide +kernel
theorem dX10_person_187 : decode cX10_person 187 = .ok (.getfield 10, 3) := by decide +kernel
theorem dX10_person_190 : decode cX10_person 190 = .ok (.iload_n 1, 1) := by decide +kernel
theorem dX10_person_191 : decode cX10_person 191 = .ok (.iconst 5, 1) := by decide +kernel
theorem dX10_person_192 : decode cX10_person 192 = .ok (.invokevirtual 118, 3) := by decide +kernel
theorem dX10_person_195 : decode cX10_person 195 = .ok (.ireturn, 1) := by decide +kernel
theorem dX10_person_196 : decode cX10_person 196 = .ok (.aload_n 0, 1) := by decide +kernel
theorem dX10_person_197 : decode cX10_person 197 = .ok (.getfield 10, 3) := by decide +kernel
theorem dX10_person_200 : decode cX10_person 200 = .ok (.iload_n 1, 1) := by decide +kernel
theorem dX10_person_201 : decode cX10_person 201 = .ok (.bipush 6, 2) := by decide +kernel
theorem dX10_person_203 : decode cX10_person 203 = .ok (.invokevirtual 118, 3) := by decide +kernel
theorem dX10_person_206 : decode cX10_person 206 = .ok (.ireturn, 1) := by decide +kernel
theorem dX10_person_207 : decode cX10_person 207 = .ok (.aload_n 0, 1) := by decide +kernel
theorem dX10_person_208 : decode cX10_person 208 = .ok (.getfield 10, 3) := by decide +kernel
theorem dX10_person_211 : decode cX10_person 211 = .ok (.iload_n 1, 1) := by decide +kernel
theorem dX10_person_212 : decode cX10_person 212 = .ok (.bipush 7, 2) := by decide +kernel
theorem dX10_person_214 : decode cX10_person 214 = .ok (.invokevirtual 118, 3) := by decide +kernel
theorem dX10_person_217 : decode cX10_person 217 = .ok (.ireturn, 1) := by decide +kernel
theorem dX10_person_218 : decode cX10_person 218 = .ok (.aload_n 0, 1) := by decide +kernel
theorem dX10_person_219 : decode cX10_person 219 = .ok (.getfield 26, 3) := by decide +kernel
theorem dX10_person_222 : decode cX10_person 222 = .ok (.iload_n 1, 1) := by decide +kernel
theorem dX10_person_223 : decode cX10_person 223 = .ok (.invokevirtual 136, 3) := by decide +kernel
theorem dX10_person_226 : decode cX10_person 226 = .ok (.ireturn, 1) := by decide +kernel
theorem dX10_person_227 : decode cX10_person 227 = .ok (.aload_n 0, 1) := by decide +kernel
theorem dX10_person_228 : decode cX10_person 228 = .ok (.getfield 26, 3) := by decide +kernel
theorem dX10_person_231 : decode cX10_person 231 = .ok (.iload_n 1, 1) := by decide +kernel
theorem dX10_person_232 : decode cX10_person 232 = .ok (.invokevirtual 139, 3) := by decide +kernel
theorem dX10_person_235 : decode cX10_person 235 = .ok (.ireturn, 1) := by decide +kernel
theorem dX10_person_236 : decode cX10_person 236 = .ok (.aload_n 0, 1) := by decide +kernel
theorem dX10_person_237 : decode cX10_person 237 = .ok (.getfield 26, 3) := by decide +kernel
theorem dX10_person_240 : decode cX10_person 240 = .ok (.iload_n 1, 1) := by decide +kernel
theorem dX10_person_241 : decode cX10_person 241 = .ok (.invokevirtual 142, 3) := by decide +kernel
theorem dX10_person_244 : decode cX10_person 244 = .ok (.ireturn, 1) := by decide +kernel
theorem dX10_person_245 : decode cX10_person 245 = .ok (.aload_n 0, 1) := by decide +kernel
theorem dX10_person_246 : decode cX10_person 246 = .ok (.getfield 26, 3) := by decide +kernel
theorem dX10_person_249 : decode cX10_person 249 = .ok (.iload_n 1, 1) := by decide +kernel
theorem dX10_person_250 : decode cX10_person 250 = .ok (.invokevirtual 145, 3) := by decide +kernel
theorem dX10_person_253 : decode cX10_person 253 = .ok (.ireturn, 1) := by decide +kernel
theorem dX10_person_254 : decode cX10_person 254 = .ok (.ldc 112, 2) := by decide +kernel
theorem dX10_person_256 : decode cX10_person 256 = .ok (.ireturn, 1) := by decide +kernel
set_option maxRecDepth 20000 in
theorem ggX10_quarter_X7_has : GoodIn wsX10_quarter wsX7_has := goodIn_r _ [9, 10, 36] (by decide +kernel) (by decide +kernel)
set_option maxRecDepth 20000 in
theorem gX10_quarter_X7_has : GoodIn wsX10_quarter (wsV RX10 113 RX7 yX7_has wsX7_has) := goodIn_app (goodIn_of _ (by decide +kernel)) ggX10_quarter_X7_has
set_option maxRecDepth 20000 in
theorem ggX10_quarter_X1_armsAt : GoodIn wsX10_quarter wsX1_armsAt := goodIn_r _ [15, 16, 17, 18, 19, 14, 20, 21, 37, 38, 39, 40, 41] (by decide +kernel) (by decide +kernel)
set_option maxRecDepth 20000 in
theorem gX10_quarter_X1_armsAt : GoodIn wsX10_quarter (wsV RX10 148 RX1 yX1_armsAt wsX1_armsAt) := goodIn_app (goodIn_of _ (by decide +kernel)) ggX10_quarter_X1_armsAt
set_option maxRecDepth 20000 in
theorem ggX10_quarter_X1_throughAt : GoodIn wsX10_quarter wsX1_throughAt := goodIn_r _ [25, 26, 17, 18, 19, 14, 20, 21, 37, 38, 39, 40, 41] (by decide +kernel) (by decide +kernel)
set_option maxRecDepth 20000 in
theorem gX10_quarter_X1_throughAt : GoodIn wsX10_quarter (wsV RX10 151 RX1 yX1_throughAt wsX1_throughAt) := goodIn_app (goodIn_of _ (by decide +kernel)) ggX10_quarter_X1_throughAt
theorem dX10_quarter_0 : decode cX10_quarter 0 = .ok (.aload_n 0, 1) := by decide +kernel
theorem dX10_quarter_1 : decode cX10_quarter 1 = .ok (.getfield 10, 3) := by decide +kernel
theorem dX10_quarter_4 : decode cX10_quarter 4 = .ok (.iload_n 1, 1) := by decide +kernel
theorem dX10_quarter_5 : decode cX10_quarter 5 = .ok (.invokevirtual 113, 3) := by decide +kernel
theorem dX10_quarter_8 : decode cX10_quarter 8 = .ok (.ifCond .ne 6, 3) := by decide +kernel
theorem dX10_quarter_11 : decode cX10_quarter 11 = .ok (.ldc 117, 2) := by decide +kernel
theorem dX10_quarter_13 : decode cX10_quarter 13 = .ok (.ireturn, 1) := by decide +kernel
theorem dX10_quarter_14 : decode cX10_quarter 14 = .ok (.iload_n 3, 1) := by decide +kernel
theorem dX10_quarter_15 : decode cX10_quarter 15 = .ok (.ifCond .ne 13, 3) := by decide +kernel
theorem dX10_quarter_18 : decode cX10_quarter 18 = .ok (.aload_n 0, 1) := by decide +kernel
theorem dX10_quarter_19 : decode cX10_quarter 19 = .ok (.getfield 19, 3) := by decide +kernel
theorem dX10_quarter_22 : decode cX10_quarter 22 = .ok (.iload_n 1, 1) := by decide +kernel
theorem dX10_quarter_23 : decode cX10_quarter 23 = .ok (.iload_n 2, 1) := by decide +kernel
theorem dX10_quarter_24 : decode cX10_quarter 24 = .ok (.invokevirtual 148, 3) := by decide +kernel
theorem dX10_quarter_27 : decode cX10_quarter 27 = .ok (.ireturn, 1) := by decide +kernel
theorem dX10_quarter_28 : decode cX10_quarter 28 = .ok (.iload_n 3, 1) := by decide +kernel
theorem dX10_quarter_29 : decode cX10_quarter 29 = .ok (.iconst 1, 1) := by decide +kernel
theorem dX10_quarter_30 : decode cX10_quarter 30 = .ok (.if_icmp .ne 13, 3) := by decide +kernel
theorem dX10_quarter_33 : decode cX10_quarter 33 = .ok (.aload_n 0, 1) := by decide +kernel
theorem dX10_quarter_34 : decode cX10_quarter 34 = .ok (.getfield 19, 3) := by decide +kernel
theorem dX10_quarter_37 : decode cX10_quarter 37 = .ok (.iload_n 1, 1) := by decide +kernel
theorem dX10_quarter_38 : decode cX10_quarter 38 = .ok (.iload_n 2, 1) := by decide +kernel
theorem dX10_quarter_39 : decode cX10_quarter 39 = .ok (.invokevirtual 151, 3) := by decide +kernel
theorem dX10_quarter_42 : decode cX10_quarter 42 = .ok (.ireturn, 1) := by decide +kernel
theorem dX10_quarter_43 : decode cX10_quarter 43 = .ok (.ldc 112, 2) := by decide +kernel
theorem dX10_quarter_45 : decode cX10_quarter 45 = .ok (.ireturn, 1) := by decide +kernel
set_option maxRecDepth 20000 in
theorem ggX10_kin_X7_has : GoodIn wsX10_kin wsX7_has := goodIn_r _ [11, 12, 54] (by decide +kernel) (by decide +kernel)
set_option maxRecDepth 20000 in
theorem gX10_kin_X7_has : GoodIn wsX10_kin (wsV RX10 113 RX7 yX7_has wsX7_has) := goodIn_app (goodIn_of _ (by decide +kernel)) ggX10_kin_X7_has
set_option maxRecDepth 20000 in
theorem ggX10_kin_X4_seek : GoodIn wsX10_kin wsX4_seek := goodIn_r _ [17, 18, 19, 20, 21, 22, 23, 16, 24, 25, 26, 27, 28, 29, 30, 31, 10, 32, 12, 33, 8, 9, 11, 34, 35, 36, 37, 38, 39, 40, 50, 51, 52, 53, 54] (by decide +kernel) (by decide +kernel)
set_option maxRecDepth 20000 in
theorem gX10_kin_X4_seek : GoodIn wsX10_kin (wsV RX10 154 RX4 yX4_seek wsX4_seek) := goodIn_app (goodIn_of _ (by decide +kernel)) ggX10_kin_X4_seek
theorem dX10_kin_0 : decode cX10_kin 0 = .ok (.aload_n 0, 1) := by decide +kernel
theorem dX10_kin_1 : decode cX10_kin 1 = .ok (.getfield 10, 3) := by decide +kernel
theorem dX10_kin_4 : decode cX10_kin 4 = .ok (.iload_n 1, 1) := by decide +kernel
theorem dX10_kin_5 : decode cX10_kin 5 = .ok (.invokevirtual 113, 3) := by decide +kernel
theorem dX10_kin_8 : decode cX10_kin 8 = .ok (.ifCond .eq 14, 3) := by decide +kernel
theorem dX10_kin_11 : decode cX10_kin 11 = .ok (.aload_n 0, 1) := by decide +kernel
theorem dX10_kin_12 : decode cX10_kin 12 = .ok (.getfield 10, 3) := by decide +kernel
theorem dX10_kin_15 : decode cX10_kin 15 = .ok (.iload_n 2, 1) := by decide +kernel
theorem dX10_kin_16 : decode cX10_kin 16 = .ok (.invokevirtual 113, 3) := by decide +kernel
theorem dX10_kin_19 : decode cX10_kin 19 = .ok (.ifCond .ne 6, 3) := by decide +kernel
theorem dX10_kin_22 : decode cX10_kin 22 = .ok (.ldc 117, 2) := by decide +kernel
theorem dX10_kin_24 : decode cX10_kin 24 = .ok (.ireturn, 1) := by decide +kernel
theorem dX10_kin_25 : decode cX10_kin 25 = .ok (.iload_n 3, 1) := by decide +kernel
theorem dX10_kin_26 : decode cX10_kin 26 = .ok (.ifCond .lt 8, 3) := by decide +kernel
theorem dX10_kin_29 : decode cX10_kin 29 = .ok (.iload_n 3, 1) := by decide +kernel
theorem dX10_kin_30 : decode cX10_kin 30 = .ok (.iconst 1, 1) := by decide +kernel
theorem dX10_kin_31 : decode cX10_kin 31 = .ok (.if_icmp .le 6, 3) := by decide +kernel
theorem dX10_kin_34 : decode cX10_kin 34 = .ok (.ldc 112, 2) := by decide +kernel
theorem dX10_kin_36 : decode cX10_kin 36 = .ok (.ireturn, 1) := by decide +kernel
theorem dX10_kin_37 : decode cX10_kin 37 = .ok (.aload_n 0, 1) := by decide +kernel
theorem dX10_kin_38 : decode cX10_kin 38 = .ok (.getfield 40, 3) := by decide +kernel
theorem dX10_kin_41 : decode cX10_kin 41 = .ok (.aload_n 0, 1) := by decide +kernel
theorem dX10_kin_42 : decode cX10_kin 42 = .ok (.getfield 10, 3) := by decide +kernel
theorem dX10_kin_45 : decode cX10_kin 45 = .ok (.iload_n 1, 1) := by decide +kernel
theorem dX10_kin_46 : decode cX10_kin 46 = .ok (.iload_n 2, 1) := by decide +kernel
theorem dX10_kin_47 : decode cX10_kin 47 = .ok (.invokevirtual 154, 3) := by decide +kernel
theorem dX10_kin_50 : decode cX10_kin 50 = .ok (.iload_n 3, 1) := by decide +kernel
theorem dX10_kin_51 : decode cX10_kin 51 = .ok (.ifCond .ne 13, 3) := by decide +kernel
theorem dX10_kin_54 : decode cX10_kin 54 = .ok (.aload_n 0, 1) := by decide +kernel
theorem dX10_kin_55 : decode cX10_kin 55 = .ok (.getfield 40, 3) := by decide +kernel
theorem dX10_kin_58 : decode cX10_kin 58 = .ok (.getfield 158, 3) := by decide +kernel
theorem dX10_kin_61 : decode cX10_kin 61 = .ok (.goto 10, 3) := by decide +kernel
theorem dX10_kin_64 : decode cX10_kin 64 = .ok (.aload_n 0, 1) := by decide +kernel
theorem dX10_kin_65 : decode cX10_kin 65 = .ok (.getfield 40, 3) := by decide +kernel
theorem dX10_kin_68 : decode cX10_kin 68 = .ok (.getfield 161, 3) := by decide +kernel
theorem dX10_kin_71 : decode cX10_kin 71 = .ok (.ireturn, 1) := by decide +kernel
set_option maxRecDepth 20000 in
theorem ggX10_would_X7_has : GoodIn wsX10_would wsX7_has := goodIn_r _ [9, 10, 74] (by decide +kernel) (by decide +kernel)
set_option maxRecDepth 20000 in
theorem gX10_would_X7_has : GoodIn wsX10_would (wsV RX10 113 RX7 yX7_has wsX7_has) := goodIn_app (goodIn_of _ (by decide +kernel)) ggX10_would_X7_has
set_option maxRecDepth 20000 in
theorem ggX10_would_X7_isMan : GoodIn wsX10_would wsX7_isMan := goodIn_r _ [14, 15, 16, 17, 8, 18, 10, 19, 6, 7, 9, 74] (by decide +kernel) (by decide +kernel)
set_option maxRecDepth 20000 in
theorem gX10_would_X7_isMan : GoodIn wsX10_would (wsV RX10 164 RX7 yX7_isMan wsX7_isMan) := goodIn_app (goodIn_of _ (by decide +kernel)) ggX10_would_X7_isMan
set_option maxRecDepth 20000 in
theorem ggX10_would_X7_isWoman : GoodIn wsX10_would wsX7_isWoman := goodIn_r _ [23, 15, 16, 17, 8, 18, 10, 19, 6, 7, 9, 74] (by decide +kernel) (by decide +kernel)
set_option maxRecDepth 20000 in
theorem gX10_would_X7_isWoman : GoodIn wsX10_would (wsV RX10 167 RX7 yX7_isWoman wsX7_isWoman) := goodIn_app (goodIn_of _ (by decide +kernel)) ggX10_would_X7_isWoman
set_option maxRecDepth 20000 in
theorem ggX10_would_X1_sizeForChild : GoodIn wsX10_would wsX1_sizeForChild := goodIn_r _ [28, 29, 30, 31, 27, 32, 33, 34, 35, 36, 37, 8, 38, 10, 39, 40, 41, 42, 16, 17, 18, 19, 6, 7, 9, 43, 44, 45, 46, 47, 48, 49, 50, 51, 52, 53, 54, 55, 56, 57, 58, 59, 60, 61, 62, 63, 64, 75, 76, 77, 78, 79, 74] (by decide +kernel) (by decide +kernel)
set_option maxRecDepth 20000 in
theorem gX10_would_X1_sizeForChild : GoodIn wsX10_would (wsV RX10 171 RX1 yX1_sizeForChild wsX1_sizeForChild) := goodIn_app (goodIn_of _ (by decide +kernel)) ggX10_would_X1_sizeForChild
theorem dX10_would_0 : decode cX10_would 0 = .ok (.aload_n 0, 1) := by decide +kernel
theorem dX10_would_1 : decode cX10_would 1 = .ok (.getfield 10, 3) := by decide +kernel
theorem dX10_would_4 : decode cX10_would 4 = .ok (.iload_n 1, 1) := by decide +kernel
theorem dX10_would_5 : decode cX10_would 5 = .ok (.invokevirtual 113, 3) := by decide +kernel
theorem dX10_would_8 : decode cX10_would 8 = .ok (.ifCond .eq 19, 3) := by decide +kernel
theorem dX10_would_11 : decode cX10_would 11 = .ok (.aload_n 0, 1) := by decide +kernel
theorem dX10_would_12 : decode cX10_would 12 = .ok (.getfield 10, 3) := by decide +kernel
theorem dX10_would_15 : decode cX10_would 15 = .ok (.iload_n 2, 1) := by decide +kernel
theorem dX10_would_16 : decode cX10_would 16 = .ok (.invokevirtual 113, 3) := by decide +kernel
theorem dX10_would_19 : decode cX10_would 19 = .ok (.ifCond .eq 8, 3) := by decide +kernel
theorem dX10_would_22 : decode cX10_would 22 = .ok (.iload_n 1, 1) := by decide +kernel
theorem dX10_would_23 : decode cX10_would 23 = .ok (.iload_n 2, 1) := by decide +kernel
theorem dX10_would_24 : decode cX10_would 24 = .ok (.if_icmp .ne 6, 3) := by decide +kernel
theorem dX10_would_27 : decode cX10_would 27 = .ok (.ldc 117, 2) := by decide +kernel
theorem dX10_would_29 : decode cX10_would 29 = .ok (.ireturn, 1) := by decide +kernel
theorem dX10_would_30 : decode cX10_would 30 = .ok (.aload_n 0, 1) := by decide +kernel
theorem dX10_would_31 : decode cX10_would 31 = .ok (.getfield 10, 3) := by decide +kernel
theorem dX10_would_34 : decode cX10_would 34 = .ok (.iload_n 1, 1) := by decide +kernel
theorem dX10_would_35 : decode cX10_would 35 = .ok (.invokevirtual 164, 3) := by decide +kernel
theorem dX10_would_38 : decode cX10_would 38 = .ok (.ifCond .eq 14, 3) := by decide +kernel
theorem dX10_would_41 : decode cX10_would 41 = .ok (.aload_n 0, 1) := by decide +kernel
theorem dX10_would_42 : decode cX10_would 42 = .ok (.getfield 10, 3) := by decide +kernel
theorem dX10_would_45 : decode cX10_would 45 = .ok (.iload_n 2, 1) := by decide +kernel
theorem dX10_would_46 : decode cX10_would 46 = .ok (.invokevirtual 167, 3) := by decide +kernel
theorem dX10_would_49 : decode cX10_would 49 = .ok (.ifCond .ne 6, 3) := by decide +kernel
theorem dX10_would_52 : decode cX10_would 52 = .ok (.ldc 170, 2) := by decide +kernel
theorem dX10_would_54 : decode cX10_would 54 = .ok (.ireturn, 1) := by decide +kernel
theorem dX10_would_55 : decode cX10_would 55 = .ok (.aload_n 0, 1) := by decide +kernel
theorem dX10_would_56 : decode cX10_would 56 = .ok (.getfield 19, 3) := by decide +kernel
theorem dX10_would_59 : decode cX10_would 59 = .ok (.aload_n 0, 1) := by decide +kernel
theorem dX10_would_60 : decode cX10_would 60 = .ok (.getfield 10, 3) := by decide +kernel
theorem dX10_would_63 : decode cX10_would 63 = .ok (.iload_n 1, 1) := by decide +kernel
theorem dX10_would_64 : decode cX10_would 64 = .ok (.iload_n 2, 1) := by decide +kernel
theorem dX10_would_65 : decode cX10_would 65 = .ok (.invokevirtual 171, 3) := by decide +kernel
theorem dX10_would_68 : decode cX10_would 68 = .ok (.ireturn, 1) := by decide +kernel
set_option maxRecDepth 20000 in
theorem ggX10_dated_X10_areYears : GoodIn wsX10_dated wsX10_areYears := goodIn_r _ [7] (by decide +kernel) (by decide +kernel)
set_option maxRecDepth 20000 in
theorem gX10_dated_X10_areYears : GoodIn wsX10_dated (va_wsS RX10 175 yX10_areYears wsX10_areYears) := goodIn_app (goodIn_of _ (by decide +kernel)) ggX10_dated_X10_areYears
set_option maxRecDepth 20000 in
theorem ggX10_dated_X7_people : GoodIn wsX10_dated wsX7_people := goodIn_r _ [12, 13, 55] (by decide +kernel) (by decide +kernel)
set_option maxRecDepth 20000 in
theorem gX10_dated_X7_people : GoodIn wsX10_dated (wsV RX10 72 RX7 yX7_people wsX7_people) := goodIn_app (goodIn_of _ (by decide +kernel)) ggX10_dated_X7_people
set_option maxRecDepth 20000 in
theorem ggX10_dated_X9_diedBetween : GoodIn wsX10_dated wsX9_diedBetween := goodIn_r _ [18, 19, 20, 21, 22, 17, 23, 24, 25, 26, 27, 28, 29, 30, 31, 32, 33, 34, 35, 36, 37, 38, 39, 40, 41, 42, 43, 44, 45, 56, 57, 58, 59, 60, 61, 62, 63] (by decide +kernel) (by decide +kernel)
set_option maxRecDepth 20000 in
theorem gX10_dated_X9_diedBetween : GoodIn wsX10_dated (wsV RX10 179 RX9 yX9_diedBetween wsX9_diedBetween) := goodIn_app (goodIn_of _ (by decide +kernel)) ggX10_dated_X9_diedBetween
theorem dX10_dated_0 : decode cX10_dated 0 = .ok (.iload_n 1, 1) := by decide +kernel
theorem dX10_dated_1 : decode cX10_dated 1 = .ok (.iload_n 2, 1) := by decide +kernel
theorem dX10_dated_2 : decode cX10_dated 2 = .ok (.invokestatic 175, 3) := by decide +kernel
theorem dX10_dated_5 : decode cX10_dated 5 = .ok (.ifCond .ne 6, 3) := by decide +kernel
theorem dX10_dated_8 : decode cX10_dated 8 = .ok (.ldc 112, 2) := by decide +kernel
theorem dX10_dated_10 : decode cX10_dated 10 = .ok (.ireturn, 1) := by decide +kernel
theorem dX10_dated_11 : decode cX10_dated 11 = .ok (.aload_n 0, 1) := by decide +kernel
theorem dX10_dated_12 : decode cX10_dated 12 = .ok (.getfield 26, 3) := by decide +kernel
theorem dX10_dated_15 : decode cX10_dated 15 = .ok (.aload_n 0, 1) := by decide +kernel
theorem dX10_dated_16 : decode cX10_dated 16 = .ok (.getfield 10, 3) := by decide +kernel
theorem dX10_dated_19 : decode cX10_dated 19 = .ok (.invokevirtual 72, 3) := by decide +kernel
theorem dX10_dated_22 : decode cX10_dated 22 = .ok (.iload_n 1, 1) := by decide +kernel
theorem dX10_dated_23 : decode cX10_dated 23 = .ok (.iload_n 2, 1) := by decide +kernel
theorem dX10_dated_24 : decode cX10_dated 24 = .ok (.invokevirtual 179, 3) := by decide +kernel
theorem dX10_dated_27 : decode cX10_dated 27 = .ok (.ireturn, 1) := by decide +kernel
set_option maxRecDepth 20000 in
theorem ggX10_signAt_X7_signNumber : GoodIn wsX10_signAt wsX7_signNumber := goodIn_r _ [6, 7, 8, 9, 10, 5, 11, 21] (by decide +kernel) (by decide +kernel)
set_option maxRecDepth 20000 in
theorem gX10_signAt_X7_signNumber : GoodIn wsX10_signAt (wsV RX10 183 RX7 yX7_signNumber wsX7_signNumber) := goodIn_app (goodIn_of _ (by decide +kernel)) ggX10_signAt_X7_signNumber
theorem dX10_signAt_0 : decode cX10_signAt 0 = .ok (.aload_n 0, 1) := by decide +kernel
theorem dX10_signAt_1 : decode cX10_signAt 1 = .ok (.getfield 10, 3) := by decide +kernel
theorem dX10_signAt_4 : decode cX10_signAt 4 = .ok (.iload_n 1, 1) := by decide +kernel
theorem dX10_signAt_5 : decode cX10_signAt 5 = .ok (.invokevirtual 183, 3) := by decide +kernel
theorem dX10_signAt_8 : decode cX10_signAt 8 = .ok (.ireturn, 1) := by decide +kernel
set_option maxRecDepth 20000 in
theorem ggX10_put_X7_hasOrNone : GoodIn wsX10_put wsX7_hasOrNone := goodIn_r _ [11, 12, 13, 14, 10, 15, 16, 179] (by decide +kernel) (by decide +kernel)
set_option maxRecDepth 20000 in
theorem gX10_put_X7_hasOrNone : GoodIn wsX10_put (wsV RX10 186 RX7 yX7_hasOrNone wsX7_hasOrNone) := goodIn_app (goodIn_of _ (by decide +kernel)) ggX10_put_X7_hasOrNone
set_option maxRecDepth 20000 in
theorem ggX10_put_X10_isArms : GoodIn wsX10_put wsX10_isArms := goodIn_r _ [20] (by decide +kernel) (by decide +kernel)
set_option maxRecDepth 20000 in
theorem gX10_put_X10_isArms : GoodIn wsX10_put (va_wsS RX10 189 yX10_isArms wsX10_isArms) := goodIn_app (goodIn_of _ (by decide +kernel)) ggX10_put_X10_isArms
set_option maxRecDepth 20000 in
theorem ggX10_put_X7_isMan : GoodIn wsX10_put wsX7_isMan := goodIn_r _ [24, 25, 26, 27, 10, 28, 16, 12, 13, 14, 15, 179] (by decide +kernel) (by decide +kernel)
set_option maxRecDepth 20000 in
theorem gX10_put_X7_isMan : GoodIn wsX10_put (wsV RX10 164 RX7 yX7_isMan wsX7_isMan) := goodIn_app (goodIn_of _ (by decide +kernel)) ggX10_put_X7_isMan
set_option maxRecDepth 20000 in
theorem ggX10_put_X7_isWoman : GoodIn wsX10_put wsX7_isWoman := goodIn_r _ [32, 25, 26, 27, 10, 28, 16, 12, 13, 14, 15, 179] (by decide +kernel) (by decide +kernel)
set_option maxRecDepth 20000 in
theorem gX10_put_X7_isWoman : GoodIn wsX10_put (wsV RX10 167 RX7 yX7_isWoman wsX7_isWoman) := goodIn_app (goodIn_of _ (by decide +kernel)) ggX10_put_X7_isWoman
set_option maxRecDepth 20000 in
theorem ggX10_put_X7_hasRoom : GoodIn wsX10_put wsX7_hasRoom := goodIn_r _ [36, 37, 38, 39, 10, 40, 16, 179] (by decide +kernel) (by decide +kernel)
set_option maxRecDepth 20000 in
theorem gX10_put_X7_hasRoom : GoodIn wsX10_put (wsV RX10 192 RX7 yX7_hasRoom wsX7_hasRoom) := goodIn_app (goodIn_of _ (by decide +kernel)) ggX10_put_X7_hasRoom
set_option maxRecDepth 20000 in
theorem ggX10_put_X5_remember : GoodIn wsX10_put wsX5_remember := goodIn_r _ [45, 46, 47, 48, 49, 50, 51, 52, 53, 54, 55, 56, 57, 58, 59, 60, 61, 62, 63, 64, 180, 181, 182, 183, 184, 179] (by decide +kernel) (by decide +kernel)
set_option maxRecDepth 20000 in
theorem gX10_put_X5_remember : GoodIn wsX10_put (wsV RX10 197 RX5 yX5_remember wsX5_remember) := goodIn_app (goodIn_of _ (by decide +kernel)) ggX10_put_X5_remember
set_option maxRecDepth 20000 in
theorem ggX10_put_X7_addPerson : GoodIn wsX10_put wsX7_addPerson := goodIn_r _ [68, 16, 69, 34, 35, 10, 36, 37, 38, 39, 40, 25, 26, 27, 28, 12, 13, 14, 15, 179] (by decide +kernel) (by decide +kernel)
set_option maxRecDepth 20000 in
theorem gX10_put_X7_addPerson : GoodIn wsX10_put (wsV RX10 201 RX7 yX7_addPerson wsX7_addPerson) := goodIn_app (goodIn_of _ (by decide +kernel)) ggX10_put_X7_addPerson
set_option maxRecDepth 20000 in
theorem ggX10_put_X10_reckonAll : GoodIn wsX10_put wsX10_reckonAll := goodIn_r _ [73, 74, 1, 75, 76, 77, 78, 79, 80, 81, 82, 83, 38, 39, 10, 40, 16, 84, 85, 86, 87, 26, 27, 28, 12, 13, 14, 15, 88, 22, 23, 24, 25, 89, 30, 31, 32, 90, 91, 92, 93, 94, 95, 96, 97, 98, 99, 100, 101, 102, 103, 104, 105, 106, 107, 108, 109, 110, 111, 112, 113, 114, 115, 116, 117, 118, 119, 120, 121, 122, 123, 124, 125, 126, 127, 128, 129, 130, 131, 132, 133, 134, 135, 136, 137, 138, 139, 140, 141, 142, 143, 144, 145, 146, 147, 148, 149, 150, 151, 152, 153, 154, 155, 156, 157, 158, 159, 160, 161, 162, 163, 164, 165, 166, 167, 168, 170, 171, 172, 173, 174, 175, 176, 177, 178, 185, 186, 187, 188, 189, 179, 190, 191, 192, 193, 194, 195, 196, 197] (by decide +kernel) (by decide +kernel)
set_option maxRecDepth 20000 in
theorem gX10_put_X10_reckonAll : GoodIn wsX10_put (wsV RX10 205 RX10 yX10_reckonAll wsX10_reckonAll) := goodIn_app (goodIn_of _ (by decide +kernel)) ggX10_put_X10_reckonAll
set_option maxRecDepth 20000 in
theorem ggX10_put_X7_people : GoodIn wsX10_put wsX7_people := goodIn_r _ [40, 16, 179] (by decide +kernel) (by decide +kernel)
set_option maxRecDepth 20000 in
theorem gX10_put_X7_people : GoodIn wsX10_put (wsV RX10 72 RX7 yX7_people wsX7_people) := goodIn_app (goodIn_of _ (by decide +kernel)) ggX10_put_X7_people
theorem dX10_put_0 : decode cX10_put 0 = .ok (.aload_n 0, 1) := by decide +kernel
theorem dX10_put_1 : decode cX10_put 1 = .ok (.getfield 10, 3) := by decide +kernel
theorem dX10_put_4 : decode cX10_put 4 = .ok (.iload_n 3, 1) := by decide +kernel
theorem dX10_put_5 : decode cX10_put 5 = .ok (.invokevirtual 186, 3) := by decide +kernel
theorem dX10_put_8 : decode cX10_put 8 = .ok (.ifCond .eq 15, 3) := by decide +kernel
theorem dX10_put_11 : decode cX10_put 11 = .ok (.aload_n 0, 1) := by decide +kernel
theorem dX10_put_12 : decode cX10_put 12 = .ok (.getfield 10, 3) := by decide +kernel
theorem dX10_put_15 : decode cX10_put 15 = .ok (.iload 4, 2) := by decide +kernel
theorem dX10_put_17 : decode cX10_put 17 = .ok (.invokevirtual 186, 3) := by decide +kernel
theorem dX10_put_20 : decode cX10_put 20 = .ok (.ifCond .ne 6, 3) := by decide +kernel
theorem dX10_put_23 : decode cX10_put 23 = .ok (.ldc 117, 2) := by decide +kernel
theorem dX10_put_25 : decode cX10_put 25 = .ok (.ireturn, 1) := by decide +kernel
theorem dX10_put_26 : decode cX10_put 26 = .ok (.iload_n 1, 1) := by decide +kernel
theorem dX10_put_27 : decode cX10_put 27 = .ok (.ifCond .lt 15, 3) := by decide +kernel
theorem dX10_put_30 : decode cX10_put 30 = .ok (.iload_n 1, 1) := by decide +kernel
theorem dX10_put_31 : decode cX10_put 31 = .ok (.iconst 1, 1) := by decide +kernel
theorem dX10_put_32 : decode cX10_put 32 = .ok (.if_icmp .gt 10, 3) := by decide +kernel
theorem dX10_put_35 : decode cX10_put 35 = .ok (.iload_n 2, 1) := by decide +kernel
theorem dX10_put_36 : decode cX10_put 36 = .ok (.invokestatic 189, 3) := by decide +kernel
theorem dX10_put_39 : decode cX10_put 39 = .ok (.ifCond .ne 6, 3) := by decide +kernel
theorem dX10_put_42 : decode cX10_put 42 = .ok (.ldc 112, 2) := by decide +kernel
theorem dX10_put_44 : decode cX10_put 44 = .ok (.ireturn, 1) := by decide +kernel
theorem dX10_put_45 : decode cX10_put 45 = .ok (.iload_n 3, 1) := by decide +kernel
theorem dX10_put_46 : decode cX10_put 46 = .ok (.iconst (-1), 1) := by decide +kernel
theorem dX10_put_47 : decode cX10_put 47 = .ok (.if_icmp .eq 14, 3) := by decide +kernel
theorem dX10_put_50 : decode cX10_put 50 = .ok (.aload_n 0, 1) := by decide +kernel
theorem dX10_put_51 : decode cX10_put 51 = .ok (.getfield 10, 3) := by decide +kernel
theorem dX10_put_54 : decode cX10_put 54 = .ok (.iload_n 3, 1) := by decide +kernel
theorem dX10_put_55 : decode cX10_put 55 = .ok (.invokevirtual 164, 3) := by decide +kernel
theorem dX10_put_58 : decode cX10_put 58 = .ok (.ifCond .eq 21, 3) := by decide +kernel
theorem dX10_put_61 : decode cX10_put 61 = .ok (.iload 4, 2) := by decide +kernel
theorem dX10_put_63 : decode cX10_put 63 = .ok (.iconst (-1), 1) := by decide +kernel
theorem dX10_put_64 : decode cX10_put 64 = .ok (.if_icmp .eq 18, 3) := by decide +kernel
theorem dX10_put_67 : decode cX10_put 67 = .ok (.aload_n 0, 1) := by decide +kernel
theorem dX10_put_68 : decode cX10_put 68 = .ok (.getfield 10, 3) := by decide +kernel
theorem dX10_put_71 : decode cX10_put 71 = .ok (.iload 4, 2) := by decide +kernel
theorem dX10_put_73 : decode cX10_put 73 = .ok (.invokevirtual 167, 3) := by decide +kernel
theorem dX10_put_76 : decode cX10_put 76 = .ok (.ifCond .ne 6, 3) := by decide +kernel
theorem dX10_put_79 : decode cX10_put 79 = .ok (.ldc 170, 2) := by decide +kernel
theorem dX10_put_81 : decode cX10_put 81 = .ok (.ireturn, 1) := by decide +kernel
theorem dX10_put_82 : decode cX10_put 82 = .ok (.aload_n 0, 1) := by decide +kernel
theorem dX10_put_83 : decode cX10_put 83 = .ok (.getfield 10, 3) := by decide +kernel
theorem dX10_put_86 : decode cX10_put 86 = .ok (.invokevirtual 192, 3) := by decide +kernel
theorem dX10_put_89 : decode cX10_put 89 = .ok (.ifCond .ne 6, 3) := by decide +kernel
theorem dX10_put_92 : decode cX10_put 92 = .ok (.ldc 196, 2) := by decide +kernel
theorem dX10_put_94 : decode cX10_put 94 = .ok (.ireturn, 1) := by decide +kernel
theorem dX10_put_95 : decode cX10_put 95 = .ok (.aload_n 0, 1) := by decide +kernel
theorem dX10_put_96 : decode cX10_put 96 = .ok (.getfield 54, 3) := by decide +kernel
theorem dX10_put_99 : decode cX10_put 99 = .ok (.aload_n 0, 1) := by decide +kernel
theorem dX10_put_100 : decode cX10_put 100 = .ok (.getfield 10, 3) := by decide +kernel
theorem dX10_put_103 : decode cX10_put 103 = .ok (.invokevirtual 197, 3) := by decide +kernel
theorem dX10_put_106 : decode cX10_put 106 = .ok (.aload_n 0, 1) := by decide +kernel
theorem dX10_put_107 : decode cX10_put 107 = .ok (.getfield 10, 3) := by decide +kernel
theorem dX10_put_110 : decode cX10_put 110 = .ok (.iload_n 1, 1) := by decide +kernel
theorem dX10_put_111 : decode cX10_put 111 = .ok (.iload_n 2, 1) := by decide +kernel
theorem dX10_put_112 : decode cX10_put 112 = .ok (.iload_n 3, 1) := by decide +kernel
theorem dX10_put_113 : decode cX10_put 113 = .ok (.iload 4, 2) := by decide +kernel
theorem dX10_put_115 : decode cX10_put 115 = .ok (.invokevirtual 201, 3) := by decide +kernel
theorem dX10_put_118 : decode cX10_put 118 = .ok (.aload_n 0, 1) := by decide +kernel
theorem dX10_put_119 : decode cX10_put 119 = .ok (.invokevirtual 205, 3) := by decide +kernel
theorem dX10_put_122 : decode cX10_put 122 = .ok (.aload_n 0, 1) := by decide +kernel
theorem dX10_put_123 : decode cX10_put 123 = .ok (.getfield 10, 3) := by decide +kernel
theorem dX10_put_126 : decode cX10_put 126 = .ok (.invokevirtual 72, 3) := by decide +kernel
theorem dX10_put_129 : decode cX10_put 129 = .ok (.iconst 1, 1) := by decide +kernel
theorem dX10_put_130 : decode cX10_put 130 = .ok (.isub, 1) := by decide +kernel
theorem dX10_put_131 : decode cX10_put 131 = .ok (.ireturn, 1) := by decide +kernel
set_option maxRecDepth 20000 in
theorem ggX10_born_X10_boundYears : GoodIn wsX10_born wsX10_boundYears := goodIn_r _ [5, 6, 7, 8, 9, 10, 11, 12, 13, 14, 15, 16, 17, 18, 4, 19, 20, 21, 22, 23, 24, 25, 26, 27, 28, 29, 30, 31, 32, 33, 34, 35, 36, 37, 38, 39, 40, 41, 42, 43, 44, 45, 46, 47, 48, 49, 50, 51, 52, 53, 54, 55, 56, 57, 58, 59, 60, 61, 62, 63, 64, 65, 66, 67, 68, 69, 70, 71, 72, 73, 74, 75, 76, 77, 78, 79, 80, 81, 82, 83, 84, 85, 86, 87, 88, 89, 90, 91, 92, 93, 94, 95, 96, 97, 98, 99, 100, 101, 102, 103, 104, 105, 106, 107, 108, 109, 110, 111, 112, 113, 114, 115, 116, 117, 118, 119, 120, 121, 122, 123, 124, 125, 126] (by decide +kernel) (by decide +kernel)
set_option maxRecDepth 20000 in
theorem gX10_born_X10_boundYears : GoodIn wsX10_born (wsV RX10 208 RX10 yX10_boundYears wsX10_boundYears) := goodIn_app (goodIn_of _ (by decide +kernel)) ggX10_born_X10_boundYears
theorem dX10_born_0 : decode cX10_born 0 = .ok (.aload_n 0, 1) := by decide +kernel
theorem dX10_born_1 : decode cX10_born 1 = .ok (.iload_n 1, 1) := by decide +kernel
theorem dX10_born_2 : decode cX10_born 2 = .ok (.iconst 4, 1) := by decide +kernel
theorem dX10_born_3 : decode cX10_born 3 = .ok (.iload_n 2, 1) := by decide +kernel
theorem dX10_born_4 : decode cX10_born 4 = .ok (.iload_n 3, 1) := by decide +kernel
theorem dX10_born_5 : decode cX10_born 5 = .ok (.invokevirtual 208, 3) := by decide +kernel
theorem dX10_born_8 : decode cX10_born 8 = .ok (.ireturn, 1) := by decide +kernel
set_option maxRecDepth 20000 in
theorem ggX10_died_X10_boundYears : GoodIn wsX10_died wsX10_boundYears := goodIn_r _ [5, 6, 7, 8, 9, 10, 11, 12, 13, 14, 15, 16, 17, 18, 4, 19, 20, 21, 22, 23, 24, 25, 26, 27, 28, 29, 30, 31, 32, 33, 34, 35, 36, 37, 38, 39, 40, 41, 42, 43, 44, 45, 46, 47, 48, 49, 50, 51, 52, 53, 54, 55, 56, 57, 58, 59, 60, 61, 62, 63, 64, 65, 66, 67, 68, 69, 70, 71, 72, 73, 74, 75, 76, 77, 78, 79, 80, 81, 82, 83, 84, 85, 86, 87, 88, 89, 90, 91, 92, 93, 94, 95, 96, 97, 98, 99, 100, 101, 102, 103, 104, 105, 106, 107, 108, 109, 110, 111, 112, 113, 114, 115, 116, 117, 118, 119, 120, 121, 122, 123, 124, 125, 126] (by decide +kernel) (by decide +kernel)
set_option maxRecDepth 20000 in
theorem gX10_died_X10_boundYears : GoodIn wsX10_died (wsV RX10 208 RX10 yX10_boundYears wsX10_boundYears) := goodIn_app (goodIn_of _ (by decide +kernel)) ggX10_died_X10_boundYears
theorem dX10_died_0 : decode cX10_died 0 = .ok (.aload_n 0, 1) := by decide +kernel
theorem dX10_died_1 : decode cX10_died 1 = .ok (.iload_n 1, 1) := by decide +kernel
theorem dX10_died_2 : decode cX10_died 2 = .ok (.bipush 6, 2) := by decide +kernel
theorem dX10_died_4 : decode cX10_died 4 = .ok (.iload_n 2, 1) := by decide +kernel
theorem dX10_died_5 : decode cX10_died 5 = .ok (.iload_n 3, 1) := by decide +kernel
theorem dX10_died_6 : decode cX10_died 6 = .ok (.invokevirtual 208, 3) := by decide +kernel
theorem dX10_died_9 : decode cX10_died 9 = .ok (.ireturn, 1) := by decide +kernel
set_option maxRecDepth 20000 in
theorem ggX10_rule_X5_remember : GoodIn wsX10_rule wsX5_remember := goodIn_r _ [9, 10, 11, 12, 13, 14, 15, 16, 17, 18, 19, 20, 21, 22, 23, 24, 25, 26, 27, 28, 121, 122, 123, 124, 125, 126] (by decide +kernel) (by decide +kernel)
set_option maxRecDepth 20000 in
theorem gX10_rule_X5_remember : GoodIn wsX10_rule (wsV RX10 197 RX5 yX5_remember wsX5_remember) := goodIn_app (goodIn_of _ (by decide +kernel)) ggX10_rule_X5_remember
set_option maxRecDepth 20000 in
theorem ggX10_rule_X7_setRule : GoodIn wsX10_rule wsX7_setRule := goodIn_r _ [33, 34, 126] (by decide +kernel) (by decide +kernel)
set_option maxRecDepth 20000 in
theorem gX10_rule_X7_setRule : GoodIn wsX10_rule (wsV RX10 212 RX7 yX7_setRule wsX7_setRule) := goodIn_app (goodIn_of _ (by decide +kernel)) ggX10_rule_X7_setRule
set_option maxRecDepth 20000 in
theorem ggX10_rule_X1_reckon : GoodIn wsX10_rule wsX1_reckon := goodIn_r _ [39, 40, 41, 42, 43, 44, 32, 45, 34, 46, 47, 38, 48, 49, 50, 51, 52, 53, 54, 55, 56, 57, 58, 59, 60, 61, 62, 63, 64, 65, 66, 67, 68, 69, 70, 71, 72, 73, 74, 75, 76, 77, 78, 79, 80, 81, 82, 83, 84, 85, 86, 87, 88, 89, 90, 91, 92, 93, 94, 95, 96, 97, 98, 99, 127, 128, 129, 130, 131, 126] (by decide +kernel) (by decide +kernel)
set_option maxRecDepth 20000 in
theorem gX10_rule_X1_reckon : GoodIn wsX10_rule (wsV RX10 216 RX1 yX1_reckon wsX1_reckon) := goodIn_app (goodIn_of _ (by decide +kernel)) ggX10_rule_X1_reckon
set_option maxRecDepth 20000 in
theorem ggX10_rule_X1_unlikeCoats : GoodIn wsX10_rule wsX1_unlikeCoats := goodIn_r _ [103, 40, 66, 67, 38, 68, 104, 105, 106, 107, 108, 109, 110, 111, 88, 89, 90, 91, 73, 84, 85, 86, 87, 82, 127, 128, 129, 130, 131] (by decide +kernel) (by decide +kernel)
set_option maxRecDepth 20000 in
theorem gX10_rule_X1_unlikeCoats : GoodIn wsX10_rule (wsV RX10 86 RX1 yX1_unlikeCoats wsX1_unlikeCoats) := goodIn_app (goodIn_of _ (by decide +kernel)) ggX10_rule_X1_unlikeCoats
theorem dX10_rule_0 : decode cX10_rule 0 = .ok (.iload_n 1, 1) := by decide +kernel
theorem dX10_rule_1 : decode cX10_rule 1 = .ok (.ifCond .lt 8, 3) := by decide +kernel
theorem dX10_rule_4 : decode cX10_rule 4 = .ok (.iload_n 1, 1) := by decide +kernel
theorem dX10_rule_5 : decode cX10_rule 5 = .ok (.iconst 2, 1) := by decide +kernel
theorem dX10_rule_6 : decode cX10_rule 6 = .ok (.if_icmp .le 6, 3) := by decide +kernel
theorem dX10_rule_9 : decode cX10_rule 9 = .ok (.ldc 112, 2) := by decide +kernel
theorem dX10_rule_11 : decode cX10_rule 11 = .ok (.ireturn, 1) := by decide +kernel
theorem dX10_rule_12 : decode cX10_rule 12 = .ok (.aload_n 0, 1) := by decide +kernel
theorem dX10_rule_13 : decode cX10_rule 13 = .ok (.getfield 54, 3) := by decide +kernel
theorem dX10_rule_16 : decode cX10_rule 16 = .ok (.aload_n 0, 1) := by decide +kernel
theorem dX10_rule_17 : decode cX10_rule 17 = .ok (.getfield 10, 3) := by decide +kernel
theorem dX10_rule_20 : decode cX10_rule 20 = .ok (.invokevirtual 197, 3) := by decide +kernel
theorem dX10_rule_23 : decode cX10_rule 23 = .ok (.aload_n 0, 1) := by decide +kernel
theorem dX10_rule_24 : decode cX10_rule 24 = .ok (.getfield 10, 3) := by decide +kernel
theorem dX10_rule_27 : decode cX10_rule 27 = .ok (.iload_n 1, 1) := by decide +kernel
theorem dX10_rule_28 : decode cX10_rule 28 = .ok (.invokevirtual 212, 3) := by decide +kernel
theorem dX10_rule_31 : decode cX10_rule 31 = .ok (.aload_n 0, 1) := by decide +kernel
theorem dX10_rule_32 : decode cX10_rule 32 = .ok (.getfield 19, 3) := by decide +kernel
theorem dX10_rule_35 : decode cX10_rule 35 = .ok (.aload_n 0, 1) := by decide +kernel
theorem dX10_rule_36 : decode cX10_rule 36 = .ok (.getfield 10, 3) := by decide +kernel
theorem dX10_rule_39 : decode cX10_rule 39 = .ok (.invokevirtual 216, 3) := by decide +kernel
theorem dX10_rule_42 : decode cX10_rule 42 = .ok (.aload_n 0, 1) := by decide +kernel
theorem dX10_rule_43 : decode cX10_rule 43 = .ok (.getfield 19, 3) := by decide +kernel
theorem dX10_rule_46 : decode cX10_rule 46 = .ok (.invokevirtual 86, 3) := by decide +kernel
theorem dX10_rule_49 : decode cX10_rule 49 = .ok (.ireturn, 1) := by decide +kernel
set_option maxRecDepth 20000 in
theorem ggX10_sign_X7_signs : GoodIn wsX10_sign wsX7_signs := goodIn_r _ [9, 10, 49] (by decide +kernel) (by decide +kernel)
set_option maxRecDepth 20000 in
theorem gX10_sign_X7_signs : GoodIn wsX10_sign (wsV RX10 79 RX7 yX7_signs wsX7_signs) := goodIn_app (goodIn_of _ (by decide +kernel)) ggX10_sign_X7_signs
set_option maxRecDepth 20000 in
theorem ggX10_sign_X5_remember : GoodIn wsX10_sign wsX5_remember := goodIn_r _ [15, 16, 17, 18, 19, 20, 21, 22, 23, 24, 25, 26, 27, 28, 29, 30, 31, 32, 33, 34, 50, 51, 52, 53, 54, 49] (by decide +kernel) (by decide +kernel)
set_option maxRecDepth 20000 in
theorem gX10_sign_X5_remember : GoodIn wsX10_sign (wsV RX10 197 RX5 yX5_remember wsX5_remember) := goodIn_app (goodIn_of _ (by decide +kernel)) ggX10_sign_X5_remember
set_option maxRecDepth 20000 in
theorem ggX10_sign_X7_addSign : GoodIn wsX10_sign wsX7_addSign := goodIn_r _ [38, 10, 39, 6, 7, 8, 9, 49] (by decide +kernel) (by decide +kernel)
set_option maxRecDepth 20000 in
theorem gX10_sign_X7_addSign : GoodIn wsX10_sign (wsV RX10 219 RX7 yX7_addSign wsX7_addSign) := goodIn_app (goodIn_of _ (by decide +kernel)) ggX10_sign_X7_addSign
theorem dX10_sign_0 : decode cX10_sign 0 = .ok (.iload_n 1, 1) := by decide +kernel
theorem dX10_sign_1 : decode cX10_sign 1 = .ok (.ifCond .lt 9, 3) := by decide +kernel
theorem dX10_sign_4 : decode cX10_sign 4 = .ok (.iload_n 1, 1) := by decide +kernel
theorem dX10_sign_5 : decode cX10_sign 5 = .ok (.bipush 10, 2) := by decide +kernel
theorem dX10_sign_7 : decode cX10_sign 7 = .ok (.if_icmp .le 6, 3) := by decide +kernel
theorem dX10_sign_10 : decode cX10_sign 10 = .ok (.ldc 112, 2) := by decide +kernel
theorem dX10_sign_12 : decode cX10_sign 12 = .ok (.ireturn, 1) := by decide +kernel
theorem dX10_sign_13 : decode cX10_sign 13 = .ok (.aload_n 0, 1) := by decide +kernel
theorem dX10_sign_14 : decode cX10_sign 14 = .ok (.getfield 10, 3) := by decide +kernel
theorem dX10_sign_17 : decode cX10_sign 17 = .ok (.invokevirtual 79, 3) := by decide +kernel
theorem dX10_sign_20 : decode cX10_sign 20 = .ok (.bipush 10, 2) := by decide +kernel
theorem dX10_sign_22 : decode cX10_sign 22 = .ok (.if_icmp .lt 6, 3) := by decide +kernel
theorem dX10_sign_25 : decode cX10_sign 25 = .ok (.ldc 196, 2) := by decide +kernel
theorem dX10_sign_27 : decode cX10_sign 27 = .ok (.ireturn, 1) := by decide +kernel
theorem dX10_sign_28 : decode cX10_sign 28 = .ok (.aload_n 0, 1) := by decide +kernel
theorem dX10_sign_29 : decode cX10_sign 29 = .ok (.getfield 54, 3) := by decide +kernel
theorem dX10_sign_32 : decode cX10_sign 32 = .ok (.aload_n 0, 1) := by decide +kernel
theorem dX10_sign_33 : decode cX10_sign 33 = .ok (.getfield 10, 3) := by decide +kernel
theorem dX10_sign_36 : decode cX10_sign 36 = .ok (.invokevirtual 197, 3) := by decide +kernel
theorem dX10_sign_39 : decode cX10_sign 39 = .ok (.aload_n 0, 1) := by decide +kernel
theorem dX10_sign_40 : decode cX10_sign 40 = .ok (.getfield 10, 3) := by decide +kernel
theorem dX10_sign_43 : decode cX10_sign 43 = .ok (.iload_n 1, 1) := by decide +kernel
theorem dX10_sign_44 : decode cX10_sign 44 = .ok (.invokevirtual 219, 3) := by decide +kernel
theorem dX10_sign_47 : decode cX10_sign 47 = .ok (.aload_n 0, 1) := by decide +kernel
theorem dX10_sign_48 : decode cX10_sign 48 = .ok (.getfield 10, 3) := by decide +kernel
theorem dX10_sign_51 : decode cX10_sign 51 = .ok (.invokevirtual 79, 3) := by decide +kernel
theorem dX10_sign_54 : decode cX10_sign 54 = .ok (.ireturn, 1) := by decide +kernel
set_option maxRecDepth 20000 in
theorem ggX10_wipe_X7_signs : GoodIn wsX10_wipe wsX7_signs := goodIn_r _ [7, 8, 46] (by decide +kernel) (by decide +kernel)
set_option maxRecDepth 20000 in
theorem gX10_wipe_X7_signs : GoodIn wsX10_wipe (wsV RX10 79 RX7 yX7_signs wsX7_signs) := goodIn_app (goodIn_of _ (by decide +kernel)) ggX10_wipe_X7_signs
set_option maxRecDepth 20000 in
theorem ggX10_wipe_X5_remember : GoodIn wsX10_wipe wsX5_remember := goodIn_r _ [13, 14, 15, 16, 17, 18, 19, 20, 21, 22, 23, 24, 25, 26, 27, 28, 29, 30, 31, 32, 47, 48, 49, 50, 51, 46] (by decide +kernel) (by decide +kernel)
set_option maxRecDepth 20000 in
theorem gX10_wipe_X5_remember : GoodIn wsX10_wipe (wsV RX10 197 RX5 yX5_remember wsX5_remember) := goodIn_app (goodIn_of _ (by decide +kernel)) ggX10_wipe_X5_remember
set_option maxRecDepth 20000 in
theorem ggX10_wipe_X7_clearSigns : GoodIn wsX10_wipe wsX7_clearSigns := goodIn_r _ [36, 8, 46] (by decide +kernel) (by decide +kernel)
set_option maxRecDepth 20000 in
theorem gX10_wipe_X7_clearSigns : GoodIn wsX10_wipe (wsV RX10 222 RX7 yX7_clearSigns wsX7_clearSigns) := goodIn_app (goodIn_of _ (by decide +kernel)) ggX10_wipe_X7_clearSigns
theorem dX10_wipe_0 : decode cX10_wipe 0 = .ok (.aload_n 0, 1) := by decide +kernel
theorem dX10_wipe_1 : decode cX10_wipe 1 = .ok (.getfield 10, 3) := by decide +kernel
theorem dX10_wipe_4 : decode cX10_wipe 4 = .ok (.invokevirtual 79, 3) := by decide +kernel
theorem dX10_wipe_7 : decode cX10_wipe 7 = .ok (.istore_n 1, 1) := by decide +kernel
theorem dX10_wipe_8 : decode cX10_wipe 8 = .ok (.aload_n 0, 1) := by decide +kernel
theorem dX10_wipe_9 : decode cX10_wipe 9 = .ok (.getfield 54, 3) := by decide +kernel
theorem dX10_wipe_12 : decode cX10_wipe 12 = .ok (.aload_n 0, 1) := by decide +kernel
theorem dX10_wipe_13 : decode cX10_wipe 13 = .ok (.getfield 10, 3) := by decide +kernel
theorem dX10_wipe_16 : decode cX10_wipe 16 = .ok (.invokevirtual 197, 3) := by decide +kernel
theorem dX10_wipe_19 : decode cX10_wipe 19 = .ok (.aload_n 0, 1) := by decide +kernel
theorem dX10_wipe_20 : decode cX10_wipe 20 = .ok (.getfield 10, 3) := by decide +kernel
theorem dX10_wipe_23 : decode cX10_wipe 23 = .ok (.invokevirtual 222, 3) := by decide +kernel
theorem dX10_wipe_26 : decode cX10_wipe 26 = .ok (.iload_n 1, 1) := by decide +kernel
theorem dX10_wipe_27 : decode cX10_wipe 27 = .ok (.ireturn, 1) := by decide +kernel
set_option maxRecDepth 20000 in
theorem ggX10_drift_X7_hasRoom : GoodIn wsX10_drift wsX7_hasRoom := goodIn_r _ [9, 10, 11, 12, 8, 13, 14, 184] (by decide +kernel) (by decide +kernel)
set_option maxRecDepth 20000 in
theorem gX10_drift_X7_hasRoom : GoodIn wsX10_drift (wsV RX10 192 RX7 yX7_hasRoom wsX7_hasRoom) := goodIn_app (goodIn_of _ (by decide +kernel)) ggX10_drift_X7_hasRoom
set_option maxRecDepth 20000 in
theorem ggX10_drift_X5_remember : GoodIn wsX10_drift wsX5_remember := goodIn_r _ [19, 20, 21, 22, 23, 24, 25, 26, 27, 28, 29, 30, 31, 32, 33, 34, 35, 36, 37, 38, 185, 186, 187, 188, 189, 184] (by decide +kernel) (by decide +kernel)
set_option maxRecDepth 20000 in
theorem gX10_drift_X5_remember : GoodIn wsX10_drift (wsV RX10 197 RX5 yX5_remember wsX5_remember) := goodIn_app (goodIn_of _ (by decide +kernel)) ggX10_drift_X5_remember
set_option maxRecDepth 20000 in
theorem ggX10_drift_X2_addOne : GoodIn wsX10_drift wsX2_addOne := goodIn_r _ [43, 44, 45, 46, 42, 47, 48, 49, 50, 51, 52, 11, 12, 8, 13, 14, 53, 54, 55, 56, 57, 58, 59, 60, 61, 62, 63, 64, 65, 66, 67, 68, 69, 70, 71, 72, 73, 6, 7, 9, 10, 190, 184] (by decide +kernel) (by decide +kernel)
set_option maxRecDepth 20000 in
theorem gX10_drift_X2_addOne : GoodIn wsX10_drift (wsV RX10 225 RX2 yX2_addOne wsX2_addOne) := goodIn_app (goodIn_of _ (by decide +kernel)) ggX10_drift_X2_addOne
set_option maxRecDepth 20000 in
theorem ggX10_drift_X10_reckonAll : GoodIn wsX10_drift wsX10_reckonAll := goodIn_r _ [78, 79, 2, 80, 81, 82, 83, 84, 85, 86, 87, 88, 11, 12, 8, 13, 14, 89, 90, 91, 92, 58, 59, 60, 61, 62, 63, 64, 93, 54, 55, 56, 57, 94, 66, 67, 68, 95, 96, 97, 98, 99, 100, 101, 102, 103, 104, 105, 106, 107, 108, 109, 110, 111, 112, 113, 114, 115, 116, 117, 118, 119, 120, 121, 122, 123, 124, 125, 126, 127, 128, 129, 130, 131, 132, 133, 134, 135, 136, 137, 138, 139, 140, 141, 142, 143, 144, 145, 146, 147, 148, 149, 150, 151, 152, 153, 154, 155, 156, 157, 158, 159, 160, 161, 162, 163, 164, 165, 166, 167, 168, 169, 170, 171, 172, 173, 175, 176, 177, 178, 179, 180, 181, 182, 183, 191, 192, 193, 194, 195, 184, 196, 197, 198, 199, 200, 201, 202, 203] (by decide +kernel) (by decide +kernel)
set_option maxRecDepth 20000 in
theorem gX10_drift_X10_reckonAll : GoodIn wsX10_drift (wsV RX10 205 RX10 yX10_reckonAll wsX10_reckonAll) := goodIn_app (goodIn_of _ (by decide +kernel)) ggX10_drift_X10_reckonAll
set_option maxRecDepth 20000 in
theorem ggX10_drift_X7_people : GoodIn wsX10_drift wsX7_people := goodIn_r _ [13, 14, 184] (by decide +kernel) (by decide +kernel)
set_option maxRecDepth 20000 in
theorem gX10_drift_X7_people : GoodIn wsX10_drift (wsV RX10 72 RX7 yX7_people wsX7_people) := goodIn_app (goodIn_of _ (by decide +kernel)) ggX10_drift_X7_people
theorem dX10_drift_0 : decode cX10_drift 0 = .ok (.iload_n 1, 1) := by decide +kernel
theorem dX10_drift_1 : decode cX10_drift 1 = .ok (.iconst 1, 1) := by decide +kernel
theorem dX10_drift_2 : decode cX10_drift 2 = .ok (.if_icmp .lt 9, 3) := by decide +kernel
theorem dX10_drift_5 : decode cX10_drift 5 = .ok (.iload_n 1, 1) := by decide +kernel
theorem dX10_drift_6 : decode cX10_drift 6 = .ok (.bipush 16, 2) := by decide +kernel
theorem dX10_drift_8 : decode cX10_drift 8 = .ok (.if_icmp .le 6, 3) := by decide +kernel
theorem dX10_drift_11 : decode cX10_drift 11 = .ok (.ldc 112, 2) := by decide +kernel
theorem dX10_drift_13 : decode cX10_drift 13 = .ok (.ireturn, 1) := by decide +kernel
theorem dX10_drift_14 : decode cX10_drift 14 = .ok (.iconst 0, 1) := by decide +kernel
theorem dX10_drift_15 : decode cX10_drift 15 = .ok (.istore_n 2, 1) := by decide +kernel
theorem dX10_drift_16 : decode cX10_drift 16 = .ok (.iload_n 2, 1) := by decide +kernel
theorem dX10_drift_17 : decode cX10_drift 17 = .ok (.iload_n 1, 1) := by decide +kernel
theorem dX10_drift_18 : decode cX10_drift 18 = .ok (.if_icmp .ge 41, 3) := by decide +kernel
theorem dX10_drift_21 : decode cX10_drift 21 = .ok (.aload_n 0, 1) := by decide +kernel
theorem dX10_drift_22 : decode cX10_drift 22 = .ok (.getfield 10, 3) := by decide +kernel
theorem dX10_drift_25 : decode cX10_drift 25 = .ok (.invokevirtual 192, 3) := by decide +kernel
theorem dX10_drift_28 : decode cX10_drift 28 = .ok (.ifCond .eq 31, 3) := by decide +kernel
theorem dX10_drift_31 : decode cX10_drift 31 = .ok (.aload_n 0, 1) := by decide +kernel
theorem dX10_drift_32 : decode cX10_drift 32 = .ok (.getfield 54, 3) := by decide +kernel
theorem dX10_drift_35 : decode cX10_drift 35 = .ok (.aload_n 0, 1) := by decide +kernel
theorem dX10_drift_36 : decode cX10_drift 36 = .ok (.getfield 10, 3) := by decide +kernel
theorem dX10_drift_39 : decode cX10_drift 39 = .ok (.invokevirtual 197, 3) := by decide +kernel
theorem dX10_drift_42 : decode cX10_drift 42 = .ok (.aload_n 0, 1) := by decide +kernel
theorem dX10_drift_43 : decode cX10_drift 43 = .ok (.getfield 68, 3) := by decide +kernel
theorem dX10_drift_46 : decode cX10_drift 46 = .ok (.aload_n 0, 1) := by decide +kernel
theorem dX10_drift_47 : decode cX10_drift 47 = .ok (.getfield 10, 3) := by decide +kernel
theorem dX10_drift_50 : decode cX10_drift 50 = .ok (.invokevirtual 225, 3) := by decide +kernel
theorem dX10_drift_53 : decode cX10_drift 53 = .ok (.iinc 2 1, 3) := by decide +kernel
theorem dX10_drift_56 : decode cX10_drift 56 = .ok (.goto (-40), 3) := by decide +kernel
theorem dX10_drift_59 : decode cX10_drift 59 = .ok (.aload_n 0, 1) := by decide +kernel
theorem dX10_drift_60 : decode cX10_drift 60 = .ok (.invokevirtual 205, 3) := by decide +kernel
theorem dX10_drift_63 : decode cX10_drift 63 = .ok (.aload_n 0, 1) := by decide +kernel
theorem dX10_drift_64 : decode cX10_drift 64 = .ok (.getfield 10, 3) := by decide +kernel
theorem dX10_drift_67 : decode cX10_drift 67 = .ok (.invokevirtual 72, 3) := by decide +kernel
theorem dX10_drift_70 : decode cX10_drift 70 = .ok (.ireturn, 1) := by decide +kernel
set_option maxRecDepth 20000 in
theorem ggX10_undo_X5_stepBack : GoodIn wsX10_undo wsX5_stepBack := goodIn_r _ [10, 11, 12, 13, 14, 15, 16, 17, 18, 19, 20, 21, 22, 23, 24, 25, 155, 156, 157, 158, 159, 160] (by decide +kernel) (by decide +kernel)
set_option maxRecDepth 20000 in
theorem gX10_undo_X5_stepBack : GoodIn wsX10_undo (wsV RX10 228 RX5 yX5_stepBack wsX5_stepBack) := goodIn_app (goodIn_of _ (by decide +kernel)) ggX10_undo_X5_stepBack
set_option maxRecDepth 20000 in
theorem ggX10_undo_X10_reckonAll : GoodIn wsX10_undo wsX10_reckonAll := goodIn_r _ [30, 31, 5, 32, 33, 34, 35, 36, 37, 38, 39, 40, 41, 42, 43, 44, 45, 46, 47, 48, 49, 50, 51, 52, 53, 54, 55, 56, 57, 58, 59, 60, 61, 62, 63, 64, 65, 66, 67, 68, 69, 70, 71, 72, 73, 74, 75, 76, 77, 78, 79, 80, 81, 82, 83, 84, 85, 86, 87, 88, 89, 90, 91, 92, 93, 94, 95, 96, 97, 98, 99, 100, 101, 102, 103, 104, 105, 106, 107, 108, 109, 110, 111, 112, 113, 114, 115, 116, 117, 118, 119, 120, 121, 122, 123, 124, 125, 126, 127, 128, 129, 130, 131, 132, 133, 134, 135, 136, 137, 138, 139, 140, 141, 142, 143, 144, 146, 147, 148, 149, 150, 151, 152, 153, 154, 161, 162, 163, 164, 165, 160, 166, 167, 168, 169, 170, 171, 172, 173] (by decide +kernel) (by decide +kernel)
set_option maxRecDepth 20000 in
theorem gX10_undo_X10_reckonAll : GoodIn wsX10_undo (wsV RX10 205 RX10 yX10_reckonAll wsX10_reckonAll) := goodIn_app (goodIn_of _ (by decide +kernel)) ggX10_undo_X10_reckonAll
set_option maxRecDepth 20000 in
theorem ggX10_undo_X7_people : GoodIn wsX10_undo wsX7_people := goodIn_r _ [44, 45, 160] (by decide +kernel) (by decide +kernel)
set_option maxRecDepth 20000 in
theorem gX10_undo_X7_people : GoodIn wsX10_undo (wsV RX10 72 RX7 yX7_people wsX7_people) := goodIn_app (goodIn_of _ (by decide +kernel)) ggX10_undo_X7_people
theorem dX10_undo_0 : decode cX10_undo 0 = .ok (.iload_n 1, 1) := by decide +kernel
theorem dX10_undo_1 : decode cX10_undo 1 = .ok (.iconst 1, 1) := by decide +kernel
theorem dX10_undo_2 : decode cX10_undo 2 = .ok (.if_icmp .lt 9, 3) := by decide +kernel
theorem dX10_undo_5 : decode cX10_undo 5 = .ok (.iload_n 1, 1) := by decide +kernel
theorem dX10_undo_6 : decode cX10_undo 6 = .ok (.bipush 20, 2) := by decide +kernel
theorem dX10_undo_8 : decode cX10_undo 8 = .ok (.if_icmp .le 6, 3) := by decide +kernel
theorem dX10_undo_11 : decode cX10_undo 11 = .ok (.ldc 112, 2) := by decide +kernel
theorem dX10_undo_13 : decode cX10_undo 13 = .ok (.ireturn, 1) := by decide +kernel
theorem dX10_undo_14 : decode cX10_undo 14 = .ok (.iload_n 1, 1) := by decide +kernel
theorem dX10_undo_15 : decode cX10_undo 15 = .ok (.aload_n 0, 1) := by decide +kernel
theorem dX10_undo_16 : decode cX10_undo 16 = .ok (.getfield 54, 3) := by decide +kernel
theorem dX10_undo_19 : decode cX10_undo 19 = .ok (.getfield 109, 3) := by decide +kernel
theorem dX10_undo_22 : decode cX10_undo 22 = .ok (.if_icmp .le 6, 3) := by decide +kernel
theorem dX10_undo_25 : decode cX10_undo 25 = .ok (.ldc 170, 2) := by decide +kernel
theorem dX10_undo_27 : decode cX10_undo 27 = .ok (.ireturn, 1) := by decide +kernel
theorem dX10_undo_28 : decode cX10_undo 28 = .ok (.aload_n 0, 1) := by decide +kernel
theorem dX10_undo_29 : decode cX10_undo 29 = .ok (.getfield 54, 3) := by decide +kernel
theorem dX10_undo_32 : decode cX10_undo 32 = .ok (.aload_n 0, 1) := by decide +kernel
theorem dX10_undo_33 : decode cX10_undo 33 = .ok (.getfield 10, 3) := by decide +kernel
theorem dX10_undo_36 : decode cX10_undo 36 = .ok (.iload_n 1, 1) := by decide +kernel
theorem dX10_undo_37 : decode cX10_undo 37 = .ok (.invokevirtual 228, 3) := by decide +kernel
theorem dX10_undo_40 : decode cX10_undo 40 = .ok (.aload_n 0, 1) := by decide +kernel
theorem dX10_undo_41 : decode cX10_undo 41 = .ok (.invokevirtual 205, 3) := by decide +kernel
theorem dX10_undo_44 : decode cX10_undo 44 = .ok (.aload_n 0, 1) := by decide +kernel
theorem dX10_undo_45 : decode cX10_undo 45 = .ok (.getfield 10, 3) := by decide +kernel
theorem dX10_undo_48 : decode cX10_undo 48 = .ok (.invokevirtual 72, 3) := by decide +kernel
theorem dX10_undo_51 : decode cX10_undo 51 = .ok (.ireturn, 1) := by decide +kernel
set_option maxRecDepth 20000 in
theorem ggX10_write_X7_has : GoodIn wsX10_write wsX7_has := goodIn_r _ [11, 12, 39] (by decide +kernel) (by decide +kernel)
set_option maxRecDepth 20000 in
theorem gX10_write_X7_has : GoodIn wsX10_write (wsV RX10 113 RX7 yX7_has wsX7_has) := goodIn_app (goodIn_of _ (by decide +kernel)) ggX10_write_X7_has
set_option maxRecDepth 20000 in
theorem ggX10_write_X10_isArms : GoodIn wsX10_write wsX10_isArms := goodIn_r _ [16] (by decide +kernel) (by decide +kernel)
set_option maxRecDepth 20000 in
theorem gX10_write_X10_isArms : GoodIn wsX10_write (va_wsS RX10 189 yX10_isArms wsX10_isArms) := goodIn_app (goodIn_of _ (by decide +kernel)) ggX10_write_X10_isArms
set_option maxRecDepth 20000 in
theorem ggX10_write_X0_addEntry : GoodIn wsX10_write wsX0_addEntry := goodIn_r _ [21, 22, 23, 24, 25, 35, 36, 37, 38] (by decide +kernel) (by decide +kernel)
set_option maxRecDepth 20000 in
theorem gX10_write_X0_addEntry : GoodIn wsX10_write (wsV RX10 232 RX0 yX0_addEntry wsX0_addEntry) := goodIn_app (goodIn_of _ (by decide +kernel)) ggX10_write_X0_addEntry
theorem dX10_write_0 : decode cX10_write 0 = .ok (.aload_n 0, 1) := by decide +kernel
theorem dX10_write_1 : decode cX10_write 1 = .ok (.getfield 10, 3) := by decide +kernel
theorem dX10_write_4 : decode cX10_write 4 = .ok (.iload_n 1, 1) := by decide +kernel
theorem dX10_write_5 : decode cX10_write 5 = .ok (.invokevirtual 113, 3) := by decide +kernel
theorem dX10_write_8 : decode cX10_write 8 = .ok (.ifCond .ne 6, 3) := by decide +kernel
theorem dX10_write_11 : decode cX10_write 11 = .ok (.ldc 117, 2) := by decide +kernel
theorem dX10_write_13 : decode cX10_write 13 = .ok (.ireturn, 1) := by decide +kernel
theorem dX10_write_14 : decode cX10_write 14 = .ok (.iload_n 2, 1) := by decide +kernel
theorem dX10_write_15 : decode cX10_write 15 = .ok (.ifCond .lt 16, 3) := by decide +kernel
theorem dX10_write_18 : decode cX10_write 18 = .ok (.iload_n 2, 1) := by decide +kernel
theorem dX10_write_19 : decode cX10_write 19 = .ok (.bipush 10, 2) := by decide +kernel
theorem dX10_write_21 : decode cX10_write 21 = .ok (.if_icmp .ge 10, 3) := by decide +kernel
theorem dX10_write_24 : decode cX10_write 24 = .ok (.iload_n 3, 1) := by decide +kernel
theorem dX10_write_25 : decode cX10_write 25 = .ok (.invokestatic 189, 3) := by decide +kernel
theorem dX10_write_28 : decode cX10_write 28 = .ok (.ifCond .ne 6, 3) := by decide +kernel
theorem dX10_write_31 : decode cX10_write 31 = .ok (.ldc 112, 2) := by decide +kernel
theorem dX10_write_33 : decode cX10_write 33 = .ok (.ireturn, 1) := by decide +kernel
theorem dX10_write_34 : decode cX10_write 34 = .ok (.aload_n 0, 1) := by decide +kernel
theorem dX10_write_35 : decode cX10_write 35 = .ok (.getfield 47, 3) := by decide +kernel
theorem dX10_write_38 : decode cX10_write 38 = .ok (.getfield 102, 3) := by decide +kernel
theorem dX10_write_41 : decode cX10_write 41 = .ok (.bipush 20, 2) := by decide +kernel
theorem dX10_write_43 : decode cX10_write 43 = .ok (.if_icmp .lt 6, 3) := by decide +kernel
theorem dX10_write_46 : decode cX10_write 46 = .ok (.ldc 196, 2) := by decide +kernel
theorem dX10_write_48 : decode cX10_write 48 = .ok (.ireturn, 1) := by decide +kernel
theorem dX10_write_49 : decode cX10_write 49 = .ok (.aload_n 0, 1) := by decide +kernel
theorem dX10_write_50 : decode cX10_write 50 = .ok (.getfield 47, 3) := by decide +kernel
theorem dX10_write_53 : decode cX10_write 53 = .ok (.iload_n 1, 1) := by decide +kernel
theorem dX10_write_54 : decode cX10_write 54 = .ok (.iload_n 2, 1) := by decide +kernel
theorem dX10_write_55 : decode cX10_write 55 = .ok (.iload_n 3, 1) := by decide +kernel
theorem dX10_write_56 : decode cX10_write 56 = .ok (.invokevirtual 232, 3) := by decide +kernel
theorem dX10_write_59 : decode cX10_write 59 = .ok (.aload_n 0, 1) := by decide +kernel
theorem dX10_write_60 : decode cX10_write 60 = .ok (.getfield 47, 3) := by decide +kernel
theorem dX10_write_63 : decode cX10_write 63 = .ok (.getfield 102, 3) := by decide +kernel
theorem dX10_write_66 : decode cX10_write 66 = .ok (.ireturn, 1) := by decide +kernel
theorem dX10_tear_0 : decode cX10_tear 0 = .ok (.aload_n 0, 1) := by decide +kernel
theorem dX10_tear_1 : decode cX10_tear 1 = .ok (.getfield 47, 3) := by decide +kernel
theorem dX10_tear_4 : decode cX10_tear 4 = .ok (.getfield 102, 3) := by decide +kernel
theorem dX10_tear_7 : decode cX10_tear 7 = .ok (.istore_n 1, 1) := by decide +kernel
theorem dX10_tear_8 : decode cX10_tear 8 = .ok (.aload_n 0, 1) := by decide +kernel
theorem dX10_tear_9 : decode cX10_tear 9 = .ok (.getfield 47, 3) := by decide +kernel
theorem dX10_tear_12 : decode cX10_tear 12 = .ok (.iconst 0, 1) := by decide +kernel
theorem dX10_tear_13 : decode cX10_tear 13 = .ok (.putfield 102, 3) := by decide +kernel
theorem dX10_tear_16 : decode cX10_tear 16 = .ok (.iload_n 1, 1) := by decide +kernel
theorem dX10_tear_17 : decode cX10_tear 17 = .ok (.ireturn, 1) := by decide +kernel
theorem dX10_seed_0 : decode cX10_seed 0 = .ok (.iload_n 1, 1) := by decide +kernel
theorem dX10_seed_1 : decode cX10_seed 1 = .ok (.ifCond .ge 6, 3) := by decide +kernel
theorem dX10_seed_4 : decode cX10_seed 4 = .ok (.ldc 112, 2) := by decide +kernel
theorem dX10_seed_6 : decode cX10_seed 6 = .ok (.ireturn, 1) := by decide +kernel
theorem dX10_seed_7 : decode cX10_seed 7 = .ok (.aload_n 0, 1) := by decide +kernel
theorem dX10_seed_8 : decode cX10_seed 8 = .ok (.getfield 68, 3) := by decide +kernel
theorem dX10_seed_11 : decode cX10_seed 11 = .ok (.getfield 236, 3) := by decide +kernel
theorem dX10_seed_14 : decode cX10_seed 14 = .ok (.istore_n 2, 1) := by decide +kernel
theorem dX10_seed_15 : decode cX10_seed 15 = .ok (.aload_n 0, 1) := by decide +kernel
theorem dX10_seed_16 : decode cX10_seed 16 = .ok (.getfield 68, 3) := by decide +kernel
theorem dX10_seed_19 : decode cX10_seed 19 = .ok (.iload_n 1, 1) := by decide +kernel
theorem dX10_seed_20 : decode cX10_seed 20 = .ok (.putfield 236, 3) := by decide +kernel
theorem dX10_seed_23 : decode cX10_seed 23 = .ok (.iload_n 2, 1) := by decide +kernel
theorem dX10_seed_24 : decode cX10_seed 24 = .ok (.ireturn, 1) := by decide +kernel
set_option maxRecDepth 20000 in
theorem ggX10_keep_X3_store : GoodIn wsX10_keep wsX3_store := goodIn_r _ [11, 12, 13, 14, 15, 16, 17, 18, 19, 20, 21, 22, 23, 24, 25, 26, 27, 40, 41, 42, 43, 44, 45, 46] (by decide +kernel) (by decide +kernel)
set_option maxRecDepth 20000 in
theorem gX10_keep_X3_store : GoodIn wsX10_keep (wsV RX10 239 RX3 yX3_store wsX3_store) := goodIn_app (goodIn_of _ (by decide +kernel)) ggX10_keep_X3_store
theorem dX10_keep_0 : decode cX10_keep 0 = .ok (.iload_n 1, 1) := by decide +kernel
theorem dX10_keep_1 : decode cX10_keep 1 = .ok (.ifCond .lt 8, 3) := by decide +kernel
theorem dX10_keep_4 : decode cX10_keep 4 = .ok (.iload_n 1, 1) := by decide +kernel
theorem dX10_keep_5 : decode cX10_keep 5 = .ok (.iconst 2, 1) := by decide +kernel
theorem dX10_keep_6 : decode cX10_keep 6 = .ok (.if_icmp .lt 6, 3) := by decide +kernel
theorem dX10_keep_9 : decode cX10_keep 9 = .ok (.ldc 117, 2) := by decide +kernel
theorem dX10_keep_11 : decode cX10_keep 11 = .ok (.ireturn, 1) := by decide +kernel
theorem dX10_keep_12 : decode cX10_keep 12 = .ok (.aload_n 0, 1) := by decide +kernel
theorem dX10_keep_13 : decode cX10_keep 13 = .ok (.getfield 61, 3) := by decide +kernel
theorem dX10_keep_16 : decode cX10_keep 16 = .ok (.iload_n 1, 1) := by decide +kernel
theorem dX10_keep_17 : decode cX10_keep 17 = .ok (.aload_n 0, 1) := by decide +kernel
theorem dX10_keep_18 : decode cX10_keep 18 = .ok (.getfield 10, 3) := by decide +kernel
theorem dX10_keep_21 : decode cX10_keep 21 = .ok (.aload_n 0, 1) := by decide +kernel
theorem dX10_keep_22 : decode cX10_keep 22 = .ok (.getfield 68, 3) := by decide +kernel
theorem dX10_keep_25 : decode cX10_keep 25 = .ok (.invokevirtual 239, 3) := by decide +kernel
theorem dX10_keep_28 : decode cX10_keep 28 = .ok (.aload_n 0, 1) := by decide +kernel
theorem dX10_keep_29 : decode cX10_keep 29 = .ok (.getfield 54, 3) := by decide +kernel
theorem dX10_keep_32 : decode cX10_keep 32 = .ok (.iconst 0, 1) := by decide +kernel
theorem dX10_keep_33 : decode cX10_keep 33 = .ok (.putfield 109, 3) := by decide +kernel
theorem dX10_keep_36 : decode cX10_keep 36 = .ok (.iconst 1, 1) := by decide +kernel
theorem dX10_keep_37 : decode cX10_keep 37 = .ok (.ireturn, 1) := by decide +kernel
set_option maxRecDepth 20000 in
theorem ggX10_goBack_X3_isStored : GoodIn wsX10_goBack wsX3_isStored := goodIn_r _ [12, 13, 165, 166, 167] (by decide +kernel) (by decide +kernel)
set_option maxRecDepth 20000 in
theorem gX10_goBack_X3_isStored : GoodIn wsX10_goBack (wsV RX10 243 RX3 yX3_isStored wsX3_isStored) := goodIn_app (goodIn_of _ (by decide +kernel)) ggX10_goBack_X3_isStored
set_option maxRecDepth 20000 in
theorem ggX10_goBack_X3_restore : GoodIn wsX10_goBack wsX3_restore := goodIn_r _ [17, 18, 19, 20, 21, 9, 10, 11, 12, 13, 22, 23, 24, 25, 26, 27, 28, 29, 30, 31, 32, 33, 165, 166, 167, 168, 169, 170, 171] (by decide +kernel) (by decide +kernel)
set_option maxRecDepth 20000 in
theorem gX10_goBack_X3_restore : GoodIn wsX10_goBack (wsV RX10 246 RX3 yX3_restore wsX3_restore) := goodIn_app (goodIn_of _ (by decide +kernel)) ggX10_goBack_X3_restore
set_option maxRecDepth 20000 in
theorem ggX10_goBack_X10_reckonAll : GoodIn wsX10_goBack wsX10_reckonAll := goodIn_r _ [38, 39, 4, 40, 41, 42, 43, 44, 45, 46, 47, 48, 49, 50, 51, 52, 53, 54, 55, 56, 57, 58, 59, 60, 61, 62, 63, 64, 65, 66, 67, 68, 69, 70, 71, 72, 73, 74, 75, 76, 77, 78, 79, 80, 81, 82, 83, 84, 85, 86, 87, 88, 89, 90, 91, 92, 93, 94, 95, 96, 97, 98, 99, 100, 101, 102, 103, 104, 105, 106, 107, 108, 109, 110, 111, 112, 113, 114, 115, 116, 117, 118, 119, 120, 121, 122, 123, 124, 125, 126, 127, 128, 129, 130, 131, 132, 133, 134, 135, 136, 137, 138, 139, 140, 141, 142, 143, 144, 145, 146, 147, 148, 149, 150, 151, 152, 153, 154, 155, 156, 157, 158, 159, 160, 161, 172, 173, 174, 175, 176, 171, 177, 178, 179, 180, 181, 182, 183, 184] (by decide +kernel) (by decide +kernel)
set_option maxRecDepth 20000 in
theorem gX10_goBack_X10_reckonAll : GoodIn wsX10_goBack (wsV RX10 205 RX10 yX10_reckonAll wsX10_reckonAll) := goodIn_app (goodIn_of _ (by decide +kernel)) ggX10_goBack_X10_reckonAll
theorem dX10_goBack_0 : decode cX10_goBack 0 = .ok (.iload_n 1, 1) := by decide +kernel
theorem dX10_goBack_1 : decode cX10_goBack 1 = .ok (.ifCond .lt 8, 3) := by decide +kernel
theorem dX10_goBack_4 : decode cX10_goBack 4 = .ok (.iload_n 1, 1) := by decide +kernel
theorem dX10_goBack_5 : decode cX10_goBack 5 = .ok (.iconst 2, 1) := by decide +kernel
theorem dX10_goBack_6 : decode cX10_goBack 6 = .ok (.if_icmp .lt 6, 3) := by decide +kernel
theorem dX10_goBack_9 : decode cX10_goBack 9 = .ok (.ldc 117, 2) := by decide +kernel
theorem dX10_goBack_11 : decode cX10_goBack 11 = .ok (.ireturn, 1) := by decide +kernel
theorem dX10_goBack_12 : decode cX10_goBack 12 = .ok (.aload_n 0, 1) := by decide +kernel
theorem dX10_goBack_13 : decode cX10_goBack 13 = .ok (.getfield 61, 3) := by decide +kernel
theorem dX10_goBack_16 : decode cX10_goBack 16 = .ok (.iload_n 1, 1) := by decide +kernel
theorem dX10_goBack_17 : decode cX10_goBack 17 = .ok (.invokevirtual 243, 3) := by decide +kernel
theorem dX10_goBack_20 : decode cX10_goBack 20 = .ok (.ifCond .ne 6, 3) := by decide +kernel
theorem dX10_goBack_23 : decode cX10_goBack 23 = .ok (.ldc 170, 2) := by decide +kernel
theorem dX10_goBack_25 : decode cX10_goBack 25 = .ok (.ireturn, 1) := by decide +kernel
theorem dX10_goBack_26 : decode cX10_goBack 26 = .ok (.aload_n 0, 1) := by decide +kernel
theorem dX10_goBack_27 : decode cX10_goBack 27 = .ok (.getfield 61, 3) := by decide +kernel
theorem dX10_goBack_30 : decode cX10_goBack 30 = .ok (.iload_n 1, 1) := by decide +kernel
theorem dX10_goBack_31 : decode cX10_goBack 31 = .ok (.aload_n 0, 1) := by decide +kernel
theorem dX10_goBack_32 : decode cX10_goBack 32 = .ok (.getfield 10, 3) := by decide +kernel
theorem dX10_goBack_35 : decode cX10_goBack 35 = .ok (.aload_n 0, 1) := by decide +kernel
theorem dX10_goBack_36 : decode cX10_goBack 36 = .ok (.getfield 68, 3) := by decide +kernel
theorem dX10_goBack_39 : decode cX10_goBack 39 = .ok (.invokevirtual 246, 3) := by decide +kernel
theorem dX10_goBack_42 : decode cX10_goBack 42 = .ok (.aload_n 0, 1) := by decide +kernel
theorem dX10_goBack_43 : decode cX10_goBack 43 = .ok (.getfield 54, 3) := by decide +kernel
theorem dX10_goBack_46 : decode cX10_goBack 46 = .ok (.iconst 0, 1) := by decide +kernel
theorem dX10_goBack_47 : decode cX10_goBack 47 = .ok (.putfield 109, 3) := by decide +kernel
theorem dX10_goBack_50 : decode cX10_goBack 50 = .ok (.aload_n 0, 1) := by decide +kernel
theorem dX10_goBack_51 : decode cX10_goBack 51 = .ok (.invokevirtual 205, 3) := by decide +kernel
theorem dX10_goBack_54 : decode cX10_goBack 54 = .ok (.iconst 1, 1) := by decide +kernel
theorem dX10_goBack_55 : decode cX10_goBack 55 = .ok (.ireturn, 1) := by decide +kernel
set_option maxRecDepth 20000 in
theorem ggX10_boundYears_X7_has : GoodIn wsX10_boundYears wsX7_has := goodIn_r _ [10, 11, 109] (by decide +kernel) (by decide +kernel)
set_option maxRecDepth 20000 in
theorem gX10_boundYears_X7_has : GoodIn wsX10_boundYears (wsV RX10 113 RX7 yX7_has wsX7_has) := goodIn_app (goodIn_of _ (by decide +kernel)) ggX10_boundYears_X7_has
set_option maxRecDepth 20000 in
theorem ggX10_boundYears_X10_areYears : GoodIn wsX10_boundYears wsX10_areYears := goodIn_r _ [15] (by decide +kernel) (by decide +kernel)
set_option maxRecDepth 20000 in
theorem gX10_boundYears_X10_areYears : GoodIn wsX10_boundYears (va_wsS RX10 175 yX10_areYears wsX10_areYears) := goodIn_app (goodIn_of _ (by decide +kernel)) ggX10_boundYears_X10_areYears
set_option maxRecDepth 20000 in
theorem ggX10_boundYears_X5_remember : GoodIn wsX10_boundYears wsX5_remember := goodIn_r _ [20, 21, 22, 23, 24, 25, 26, 27, 28, 29, 30, 31, 32, 33, 34, 35, 36, 37, 38, 39, 110, 111, 112, 113, 114, 109] (by decide +kernel) (by decide +kernel)
set_option maxRecDepth 20000 in
theorem gX10_boundYears_X5_remember : GoodIn wsX10_boundYears (wsV RX10 197 RX5 yX5_remember wsX5_remember) := goodIn_app (goodIn_of _ (by decide +kernel)) ggX10_boundYears_X5_remember
set_option maxRecDepth 20000 in
theorem ggX10_boundYears_X7_setBounds : GoodIn wsX10_boundYears wsX7_setBounds := goodIn_r _ [43, 11, 44, 7, 8, 9, 10, 109] (by decide +kernel) (by decide +kernel)
set_option maxRecDepth 20000 in
theorem gX10_boundYears_X7_setBounds : GoodIn wsX10_boundYears (wsV RX10 249 RX7 yX7_setBounds wsX7_setBounds) := goodIn_app (goodIn_of _ (by decide +kernel)) ggX10_boundYears_X7_setBounds
set_option maxRecDepth 20000 in
theorem ggX10_boundYears_X9_reckon : GoodIn wsX10_boundYears wsX9_reckon := goodIn_r _ [49, 50, 51, 52, 53, 54, 9, 55, 11, 56, 57, 58, 48, 59, 60, 61, 62, 63, 64, 65, 66, 67, 68, 44, 7, 8, 10, 69, 70, 71, 72, 73, 74, 75, 76, 77, 78, 79, 80, 81, 82, 83, 84, 85, 86, 87, 88, 89, 90, 91, 92, 93, 94, 95, 115, 116, 117, 118, 119, 120, 121, 122, 109] (by decide +kernel) (by decide +kernel)
set_option maxRecDepth 20000 in
theorem gX10_boundYears_X9_reckon : GoodIn wsX10_boundYears (wsV RX10 252 RX9 yX9_reckon wsX9_reckon) := goodIn_app (goodIn_of _ (by decide +kernel)) ggX10_boundYears_X9_reckon
set_option maxRecDepth 20000 in
theorem ggX10_boundYears_X9_spoiledBit : GoodIn wsX10_boundYears wsX9_spoiledBit := goodIn_r _ [99, 51, 115, 116, 117, 118, 119, 120, 121, 122] (by decide +kernel) (by decide +kernel)
set_option maxRecDepth 20000 in
theorem gX10_boundYears_X9_spoiledBit : GoodIn wsX10_boundYears (wsV RX10 89 RX9 yX9_spoiledBit wsX9_spoiledBit) := goodIn_app (goodIn_of _ (by decide +kernel)) ggX10_boundYears_X9_spoiledBit
theorem dX10_boundYears_0 : decode cX10_boundYears 0 = .ok (.aload_n 0, 1) := by decide +kernel
theorem dX10_boundYears_1 : decode cX10_boundYears 1 = .ok (.getfield 10, 3) := by decide +kernel
theorem dX10_boundYears_4 : decode cX10_boundYears 4 = .ok (.iload_n 1, 1) := by decide +kernel
theorem dX10_boundYears_5 : decode cX10_boundYears 5 = .ok (.invokevirtual 113, 3) := by decide +kernel
theorem dX10_boundYears_8 : decode cX10_boundYears 8 = .ok (.ifCond .ne 6, 3) := by decide +kernel
theorem dX10_boundYears_11 : decode cX10_boundYears 11 = .ok (.ldc 117, 2) := by decide +kernel
theorem dX10_boundYears_13 : decode cX10_boundYears 13 = .ok (.ireturn, 1) := by decide +kernel
theorem dX10_boundYears_14 : decode cX10_boundYears 14 = .ok (.iload_n 3, 1) := by decide +kernel
theorem dX10_boundYears_15 : decode cX10_boundYears 15 = .ok (.iload 4, 2) := by decide +kernel
theorem dX10_boundYears_17 : decode cX10_boundYears 17 = .ok (.invokestatic 175, 3) := by decide +kernel
theorem dX10_boundYears_20 : decode cX10_boundYears 20 = .ok (.ifCond .ne 6, 3) := by decide +kernel
theorem dX10_boundYears_23 : decode cX10_boundYears 23 = .ok (.ldc 112, 2) := by decide +kernel
theorem dX10_boundYears_25 : decode cX10_boundYears 25 = .ok (.ireturn, 1) := by decide +kernel
theorem dX10_boundYears_26 : decode cX10_boundYears 26 = .ok (.aload_n 0, 1) := by decide +kernel
theorem dX10_boundYears_27 : decode cX10_boundYears 27 = .ok (.getfield 54, 3) := by decide +kernel
theorem dX10_boundYears_30 : decode cX10_boundYears 30 = .ok (.aload_n 0, 1) := by decide +kernel
theorem dX10_boundYears_31 : decode cX10_boundYears 31 = .ok (.getfield 10, 3) := by decide +kernel
theorem dX10_boundYears_34 : decode cX10_boundYears 34 = .ok (.invokevirtual 197, 3) := by decide +kernel
theorem dX10_boundYears_37 : decode cX10_boundYears 37 = .ok (.aload_n 0, 1) := by decide +kernel
theorem dX10_boundYears_38 : decode cX10_boundYears 38 = .ok (.getfield 10, 3) := by decide +kernel
theorem dX10_boundYears_41 : decode cX10_boundYears 41 = .ok (.iload_n 1, 1) := by decide +kernel
theorem dX10_boundYears_42 : decode cX10_boundYears 42 = .ok (.iload_n 2, 1) := by decide +kernel
theorem dX10_boundYears_43 : decode cX10_boundYears 43 = .ok (.iload_n 3, 1) := by decide +kernel
theorem dX10_boundYears_44 : decode cX10_boundYears 44 = .ok (.iload 4, 2) := by decide +kernel
theorem dX10_boundYears_46 : decode cX10_boundYears 46 = .ok (.invokevirtual 249, 3) := by decide +kernel
theorem dX10_boundYears_49 : decode cX10_boundYears 49 = .ok (.aload_n 0, 1) := by decide +kernel
theorem dX10_boundYears_50 : decode cX10_boundYears 50 = .ok (.getfield 26, 3) := by decide +kernel
theorem dX10_boundYears_53 : decode cX10_boundYears 53 = .ok (.aload_n 0, 1) := by decide +kernel
theorem dX10_boundYears_54 : decode cX10_boundYears 54 = .ok (.getfield 10, 3) := by decide +kernel
theorem dX10_boundYears_57 : decode cX10_boundYears 57 = .ok (.invokevirtual 252, 3) := by decide +kernel
theorem dX10_boundYears_60 : decode cX10_boundYears 60 = .ok (.aload_n 0, 1) := by decide +kernel
theorem dX10_boundYears_61 : decode cX10_boundYears 61 = .ok (.getfield 26, 3) := by decide +kernel
theorem dX10_boundYears_64 : decode cX10_boundYears 64 = .ok (.invokevirtual 89, 3) := by decide +kernel
theorem dX10_boundYears_67 : decode cX10_boundYears 67 = .ok (.ireturn, 1) := by decide +kernel
set_option maxRecDepth 20000 in
theorem ggX10_reckonAll_X1_reckon : GoodIn wsX10_reckonAll wsX1_reckon := goodIn_r _ [8, 9, 10, 11, 12, 13, 14, 15, 16, 17, 18, 7, 19, 20, 21, 22, 23, 24, 25, 26, 27, 28, 29, 30, 31, 32, 33, 34, 35, 36, 37, 38, 39, 40, 41, 42, 43, 44, 45, 46, 47, 48, 49, 50, 51, 52, 53, 54, 55, 56, 57, 58, 59, 60, 61, 62, 63, 64, 65, 66, 67, 68, 69, 70, 125, 126, 127, 128, 129, 130] (by decide +kernel) (by decide +kernel)
set_option maxRecDepth 20000 in
theorem gX10_reckonAll_X1_reckon : GoodIn wsX10_reckonAll (wsV RX10 216 RX1 yX1_reckon wsX1_reckon) := goodIn_app (goodIn_of _ (by decide +kernel)) ggX10_reckonAll_X1_reckon
set_option maxRecDepth 20000 in
theorem ggX10_reckonAll_X9_reckon : GoodIn wsX10_reckonAll wsX9_reckon := goodIn_r _ [75, 76, 77, 78, 12, 13, 14, 15, 16, 79, 80, 81, 74, 82, 83, 84, 85, 86, 87, 88, 21, 22, 23, 24, 25, 26, 27, 89, 90, 91, 92, 93, 94, 95, 96, 97, 98, 99, 100, 101, 102, 103, 104, 105, 106, 107, 108, 109, 110, 111, 112, 113, 114, 115, 131, 132, 133, 134, 135, 136, 137, 138, 130] (by decide +kernel) (by decide +kernel)
set_option maxRecDepth 20000 in
theorem gX10_reckonAll_X9_reckon : GoodIn wsX10_reckonAll (wsV RX10 252 RX9 yX9_reckon wsX9_reckon) := goodIn_app (goodIn_of _ (by decide +kernel)) ggX10_reckonAll_X9_reckon
theorem dX10_reckonAll_0 : decode cX10_reckonAll 0 = .ok (.aload_n 0, 1) := by decide +kernel
theorem dX10_reckonAll_1 : decode cX10_reckonAll 1 = .ok (.getfield 19, 3) := by decide +kernel
theorem dX10_reckonAll_4 : decode cX10_reckonAll 4 = .ok (.aload_n 0, 1) := by decide +kernel
theorem dX10_reckonAll_5 : decode cX10_reckonAll 5 = .ok (.getfield 10, 3) := by decide +kernel
theorem dX10_reckonAll_8 : decode cX10_reckonAll 8 = .ok (.invokevirtual 216, 3) := by decide +kernel
theorem dX10_reckonAll_11 : decode cX10_reckonAll 11 = .ok (.aload_n 0, 1) := by decide +kernel
theorem dX10_reckonAll_12 : decode cX10_reckonAll 12 = .ok (.getfield 26, 3) := by decide +kernel
theorem dX10_reckonAll_15 : decode cX10_reckonAll 15 = .ok (.aload_n 0, 1) := by decide +kernel
theorem dX10_reckonAll_16 : decode cX10_reckonAll 16 = .ok (.getfield 10, 3) := by decide +kernel
theorem dX10_reckonAll_19 : decode cX10_reckonAll 19 = .ok (.invokevirtual 252, 3) := by decide +kernel
theorem dX10_reckonAll_22 : decode cX10_reckonAll 22 = .ok (.return_, 1) := by decide +kernel
theorem dX10_isArms_0 : decode cX10_isArms 0 = .ok (.iload_n 0, 1) := by decide +kernel
theorem dX10_isArms_1 : decode cX10_isArms 1 = .ok (.ifCond .lt 13, 3) := by decide +kernel
theorem dX10_isArms_4 : decode cX10_isArms 4 = .ok (.iload_n 0, 1) := by decide +kernel
theorem dX10_isArms_5 : decode cX10_isArms 5 = .ok (.bipush 10, 2) := by decide +kernel
theorem dX10_isArms_7 : decode cX10_isArms 7 = .ok (.if_icmp .ge 7, 3) := by decide +kernel
theorem dX10_isArms_10 : decode cX10_isArms 10 = .ok (.iconst 1, 1) := by decide +kernel
theorem dX10_isArms_11 : decode cX10_isArms 11 = .ok (.goto 4, 3) := by decide +kernel
theorem dX10_isArms_14 : decode cX10_isArms 14 = .ok (.iconst 0, 1) := by decide +kernel
theorem dX10_isArms_15 : decode cX10_isArms 15 = .ok (.ireturn, 1) := by decide +kernel
theorem dX10_areYears_0 : decode cX10_areYears 0 = .ok (.iload_n 0, 1) := by decide +kernel
theorem dX10_areYears_1 : decode cX10_areYears 1 = .ok (.ifCond .lt 19, 3) := by decide +kernel
theorem dX10_areYears_4 : decode cX10_areYears 4 = .ok (.iload_n 0, 1) := by decide +kernel
theorem dX10_areYears_5 : decode cX10_areYears 5 = .ok (.iload_n 1, 1) := by decide +kernel
theorem dX10_areYears_6 : decode cX10_areYears 6 = .ok (.if_icmp .gt 14, 3) := by decide +kernel
theorem dX10_areYears_9 : decode cX10_areYears 9 = .ok (.iload_n 1, 1) := by decide +kernel
theorem dX10_areYears_10 : decode cX10_areYears 10 = .ok (.sipush 999, 3) := by decide +kernel
theorem dX10_areYears_13 : decode cX10_areYears 13 = .ok (.if_icmp .gt 7, 3) := by decide +kernel
theorem dX10_areYears_16 : decode cX10_areYears 16 = .ok (.iconst 1, 1) := by decide +kernel
theorem dX10_areYears_17 : decode cX10_areYears 17 = .ok (.goto 4, 3) := by decide +kernel
theorem dX10_areYears_20 : decode cX10_areYears 20 = .ok (.iconst 0, 1) := by decide +kernel
theorem dX10_areYears_21 : decode cX10_areYears 21 = .ok (.ireturn, 1) := by decide +kernel
