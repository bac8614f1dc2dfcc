theorem dX9_init_0 : decode cX9_init 0 = .ok (.aload_n 0, 1) := by decide +kernel
theorem dX9_init_1 : decode cX9_init 1 = .ok (.invokespecial 1, 3) := by decide +kernel
theorem dX9_init_4 : decode cX9_init 4 = .ok (.aload_n 0, 1) := by decide +kernel
theorem dX9_init_5 : decode cX9_init 5 = .ok (.iconst 4, 1) := by decide +kernel
theorem dX9_init_6 : decode cX9_init 6 = .ok (.newarray .int, 2) := by decide +kernel
theorem dX9_init_8 : decode cX9_init 8 = .ok (.dup, 1) := by decide +kernel
theorem dX9_init_9 : decode cX9_init 9 = .ok (.iconst 0, 1) := by decide +kernel
theorem dX9_init_10 : decode cX9_init 10 = .ok (.bipush (-9), 2) := by decide +kernel
theorem dX9_init_12 : decode cX9_init 12 = .ok (.iastore, 1) := by decide +kernel
theorem dX9_init_13 : decode cX9_init 13 = .ok (.dup, 1) := by decide +kernel
theorem dX9_init_14 : decode cX9_init 14 = .ok (.iconst 1, 1) := by decide +kernel
theorem dX9_init_15 : decode cX9_init 15 = .ok (.bipush (-9), 2) := by decide +kernel
theorem dX9_init_17 : decode cX9_init 17 = .ok (.iastore, 1) := by decide +kernel
theorem dX9_init_18 : decode cX9_init 18 = .ok (.dup, 1) := by decide +kernel
theorem dX9_init_19 : decode cX9_init 19 = .ok (.iconst 2, 1) := by decide +kernel
theorem dX9_init_20 : decode cX9_init 20 = .ok (.bipush (-9), 2) := by decide +kernel
theorem dX9_init_22 : decode cX9_init 22 = .ok (.iastore, 1) := by decide +kernel
theorem dX9_init_23 : decode cX9_init 23 = .ok (.dup, 1) := by decide +kernel
theorem dX9_init_24 : decode cX9_init 24 = .ok (.iconst 3, 1) := by decide +kernel
theorem dX9_init_25 : decode cX9_init 25 = .ok (.bipush (-9), 2) := by decide +kernel
theorem dX9_init_27 : decode cX9_init 27 = .ok (.iastore, 1) := by decide +kernel
theorem dX9_init_28 : decode cX9_init 28 = .ok (.putfield 9, 3) := by decide +kernel
theorem dX9_init_31 : decode cX9_init 31 = .ok (.aload_n 0, 1) := by decide +kernel
theorem dX9_init_32 : decode cX9_init 32 = .ok (.iconst 4, 1) := by decide +kernel
theorem dX9_init_33 : decode cX9_init 33 = .ok (.newarray .int, 2) := by decide +kernel
theorem dX9_init_35 : decode cX9_init 35 = .ok (.putfield 13, 3) := by decide +kernel
theorem dX9_init_38 : decode cX9_init 38 = .ok (.aload_n 0, 1) := by decide +kernel
theorem dX9_init_39 : decode cX9_init 39 = .ok (.sipush 320, 3) := by decide +kernel
theorem dX9_init_42 : decode cX9_init 42 = .ok (.newarray .int, 2) := by decide +kernel
theorem dX9_init_44 : decode cX9_init 44 = .ok (.putfield 16, 3) := by decide +kernel
theorem dX9_init_47 : decode cX9_init 47 = .ok (.aload_n 0, 1) := by decide +kernel
theorem dX9_init_48 : decode cX9_init 48 = .ok (.bipush 8, 2) := by decide +kernel
theorem dX9_init_50 : decode cX9_init 50 = .ok (.newarray .int, 2) := by decide +kernel
theorem dX9_init_52 : decode cX9_init 52 = .ok (.putfield 19, 3) := by decide +kernel
theorem dX9_init_55 : decode cX9_init 55 = .ok (.aload_n 0, 1) := by decide +kernel
theorem dX9_init_56 : decode cX9_init 56 = .ok (.bipush 6, 2) := by decide +kernel
theorem dX9_init_58 : decode cX9_init 58 = .ok (.newarray .int, 2) := by decide +kernel
theorem dX9_init_60 : decode cX9_init 60 = .ok (.putfield 22, 3) := by decide +kernel
theorem dX9_init_63 : decode cX9_init 63 = .ok (.aload_n 0, 1) := by decide +kernel
theorem dX9_init_64 : decode cX9_init 64 = .ok (.bipush 84, 2) := by decide +kernel
theorem dX9_init_66 : decode cX9_init 66 = .ok (.newarray .int, 2) := by decide +kernel
theorem dX9_init_68 : decode cX9_init 68 = .ok (.putfield 25, 3) := by decide +kernel
theorem dX9_init_71 : decode cX9_init 71 = .ok (.aload_n 0, 1) := by decide +kernel
theorem dX9_init_72 : decode cX9_init 72 = .ok (.bipush 6, 2) := by decide +kernel
theorem dX9_init_74 : decode cX9_init 74 = .ok (.newarray .int, 2) := by decide +kernel
theorem dX9_init_76 : decode cX9_init 76 = .ok (.putfield 28, 3) := by decide +kernel
theorem dX9_init_79 : decode cX9_init 79 = .ok (.aload_n 0, 1) := by decide +kernel
theorem dX9_init_80 : decode cX9_init 80 = .ok (.bipush 84, 2) := by decide +kernel
theorem dX9_init_82 : decode cX9_init 82 = .ok (.newarray .int, 2) := by decide +kernel
theorem dX9_init_84 : decode cX9_init 84 = .ok (.putfield 31, 3) := by decide +kernel
theorem dX9_init_87 : decode cX9_init 87 = .ok (.aload_n 0, 1) := by decide +kernel
theorem dX9_init_88 : decode cX9_init 88 = .ok (.bipush 12, 2) := by decide +kernel
theorem dX9_init_90 : decode cX9_init 90 = .ok (.newarray .int, 2) := by decide +kernel
theorem dX9_init_92 : decode cX9_init 92 = .ok (.putfield 34, 3) := by decide +kernel
theorem dX9_init_95 : decode cX9_init 95 = .ok (.aload_n 0, 1) := by decide +kernel
theorem dX9_init_96 : decode cX9_init 96 = .ok (.bipush 12, 2) := by decide +kernel
theorem dX9_init_98 : decode cX9_init 98 = .ok (.newarray .int, 2) := by decide +kernel
theorem dX9_init_100 : decode cX9_init 100 = .ok (.putfield 37, 3) := by decide +kernel
theorem dX9_init_103 : decode cX9_init 103 = .ok (.aload_n 0, 1) := by decide +kernel
theorem dX9_init_104 : decode cX9_init 104 = .ok (.bipush 14, 2) := by decide +kernel
theorem dX9_init_106 : decode cX9_init 106 = .ok (.newarray .int, 2) := by decide +kernel
theorem dX9_init_108 : decode cX9_init 108 = .ok (.putfield 40, 3) := by decide +kernel
theorem dX9_init_111 : decode cX9_init 111 = .ok (.aload_n 0, 1) := by decide +kernel
theorem dX9_init_112 : decode cX9_init 112 = .ok (.sipush 169, 3) := by decide +kernel
theorem dX9_init_115 : decode cX9_init 115 = .ok (.newarray .long, 2) := by decide +kernel
theorem dX9_init_117 : decode cX9_init 117 = .ok (.putfield 43, 3) := by decide +kernel
theorem dX9_init_120 : decode cX9_init 120 = .ok (.aload_n 0, 1) := by decide +kernel
theorem dX9_init_121 : decode cX9_init 121 = .ok (.sipush 169, 3) := by decide +kernel
theorem dX9_init_124 : decode cX9_init 124 = .ok (.newarray .int, 2) := by decide +kernel
theorem dX9_init_126 : decode cX9_init 126 = .ok (.putfield 47, 3) := by decide +kernel
theorem dX9_init_129 : decode cX9_init 129 = .ok (.aload_n 0, 1) := by decide +kernel
theorem dX9_init_130 : decode cX9_init 130 = .ok (.sipush 169, 3) := by decide +kernel
theorem dX9_init_133 : decode cX9_init 133 = .ok (.newarray .long, 2) := by decide +kernel
theorem dX9_init_135 : decode cX9_init 135 = .ok (.putfield 50, 3) := by decide +kernel
theorem dX9_init_138 : decode cX9_init 138 = .ok (.aload_n 0, 1) := by decide +kernel
theorem dX9_init_139 : decode cX9_init 139 = .ok (.sipush 2197, 3) := by decide +kernel
theorem dX9_init_142 : decode cX9_init 142 = .ok (.newarray .int, 2) := by decide +kernel
theorem dX9_init_144 : decode cX9_init 144 = .ok (.putfield 53, 3) := by decide +kernel
theorem dX9_init_147 : decode cX9_init 147 = .ok (.aload_n 0, 1) := by decide +kernel
theorem dX9_init_148 : decode cX9_init 148 = .ok (.sipush 169, 3) := by decide +kernel
theorem dX9_init_151 : decode cX9_init 151 = .ok (.newarray .long, 2) := by decide +kernel
theorem dX9_init_153 : decode cX9_init 153 = .ok (.putfield 56, 3) := by decide +kernel
theorem dX9_init_156 : decode cX9_init 156 = .ok (.aload_n 0, 1) := by decide +kernel
theorem dX9_init_157 : decode cX9_init 157 = .ok (.sipush 169, 3) := by decide +kernel
theorem dX9_init_160 : decode cX9_init 160 = .ok (.newarray .long, 2) := by decide +kernel
theorem dX9_init_162 : decode cX9_init 162 = .ok (.putfield 59, 3) := by decide +kernel
theorem dX9_init_165 : decode cX9_init 165 = .ok (.aload_n 0, 1) := by decide +kernel
theorem dX9_init_166 : decode cX9_init 166 = .ok (.bipush 13, 2) := by decide +kernel
theorem dX9_init_168 : decode cX9_init 168 = .ok (.newarray .int, 2) := by decide +kernel
theorem dX9_init_170 : decode cX9_init 170 = .ok (.putfield 62, 3) := by decide +kernel
theorem dX9_init_173 : decode cX9_init 173 = .ok (.return_, 1) := by decide +kernel
theorem dX9_fails_0 : decode cX9_fails 0 = .ok (.aload_n 0, 1) := by decide +kernel
theorem dX9_fails_1 : decode cX9_fails 1 = .ok (.iload_n 1, 1) := by decide +kernel
theorem dX9_fails_2 : decode cX9_fails 2 = .ok (.putfield 65, 3) := by decide +kernel
theorem dX9_fails_5 : decode cX9_fails 5 = .ok (.bipush (-10), 2) := by decide +kernel
theorem dX9_fails_7 : decode cX9_fails 7 = .ok (.iload_n 1, 1) := by decide +kernel
theorem dX9_fails_8 : decode cX9_fails 8 = .ok (.isub, 1) := by decide +kernel
theorem dX9_fails_9 : decode cX9_fails 9 = .ok (.ireturn, 1) := by decide +kernel
theorem dX9_lost_0 : decode cX9_lost 0 = .ok (.aload_n 0, 1) := by decide +kernel
theorem dX9_lost_1 : decode cX9_lost 1 = .ok (.iload_n 1, 1) := by decide +kernel
theorem dX9_lost_2 : decode cX9_lost 2 = .ok (.putfield 65, 3) := by decide +kernel
theorem dX9_lost_5 : decode cX9_lost 5 = .ok (.ldc2_w 69, 3) := by decide +kernel
theorem dX9_lost_8 : decode cX9_lost 8 = .ok (.lreturn, 1) := by decide +kernel
theorem dX9_inside_0 : decode cX9_inside 0 = .ok (.iload_n 0, 1) := by decide +kernel
theorem dX9_inside_1 : decode cX9_inside 1 = .ok (.iload_n 1, 1) := by decide +kernel
theorem dX9_inside_2 : decode cX9_inside 2 = .ok (.if_icmp .lt 12, 3) := by decide +kernel
theorem dX9_inside_5 : decode cX9_inside 5 = .ok (.iload_n 0, 1) := by decide +kernel
theorem dX9_inside_6 : decode cX9_inside 6 = .ok (.iload_n 2, 1) := by decide +kernel
theorem dX9_inside_7 : decode cX9_inside 7 = .ok (.if_icmp .gt 7, 3) := by decide +kernel
theorem dX9_inside_10 : decode cX9_inside 10 = .ok (.iconst 1, 1) := by decide +kernel
theorem dX9_inside_11 : decode cX9_inside 11 = .ok (.goto 4, 3) := by decide +kernel
theorem dX9_inside_14 : decode cX9_inside 14 = .ok (.iconst 0, 1) := by decide +kernel
theorem dX9_inside_15 : decode cX9_inside 15 = .ok (.ireturn, 1) := by decide +kernel
set_option maxRecDepth 20000 in
theorem ggX9_isSheet_X9_inside : GoodIn wsX9_isSheet wsX9_inside := goodIn_r _ [4] (by decide +kernel) (by decide +kernel)
set_option maxRecDepth 20000 in
theorem gX9_isSheet_X9_inside : GoodIn wsX9_isSheet (va_wsS RX9 71 yX9_inside wsX9_inside) := goodIn_app (goodIn_of _ (by decide +kernel)) ggX9_isSheet_X9_inside
theorem dX9_isSheet_0 : decode cX9_isSheet 0 = .ok (.iload_n 0, 1) := by decide +kernel
theorem dX9_isSheet_1 : decode cX9_isSheet 1 = .ok (.iconst 0, 1) := by decide +kernel
theorem dX9_isSheet_2 : decode cX9_isSheet 2 = .ok (.iconst 3, 1) := by decide +kernel
theorem dX9_isSheet_3 : decode cX9_isSheet 3 = .ok (.invokestatic 71, 3) := by decide +kernel
theorem dX9_isSheet_6 : decode cX9_isSheet 6 = .ok (.ireturn, 1) := by decide +kernel
set_option maxRecDepth 20000 in
theorem ggX9_isSort_X9_inside : GoodIn wsX9_isSort wsX9_inside := goodIn_r _ [4] (by decide +kernel) (by decide +kernel)
set_option maxRecDepth 20000 in
theorem gX9_isSort_X9_inside : GoodIn wsX9_isSort (va_wsS RX9 71 yX9_inside wsX9_inside) := goodIn_app (goodIn_of _ (by decide +kernel)) ggX9_isSort_X9_inside
theorem dX9_isSort_0 : decode cX9_isSort 0 = .ok (.iload_n 0, 1) := by decide +kernel
theorem dX9_isSort_1 : decode cX9_isSort 1 = .ok (.iconst 0, 1) := by decide +kernel
theorem dX9_isSort_2 : decode cX9_isSort 2 = .ok (.iconst 2, 1) := by decide +kernel
theorem dX9_isSort_3 : decode cX9_isSort 3 = .ok (.invokestatic 71, 3) := by decide +kernel
theorem dX9_isSort_6 : decode cX9_isSort 6 = .ok (.ireturn, 1) := by decide +kernel
theorem dX9_against_0 : decode cX9_against 0 = .ok (.aload_n 0, 1) := by decide +kernel
theorem dX9_against_1 : decode cX9_against 1 = .ok (.getfield 9, 3) := by decide +kernel
theorem dX9_against_4 : decode cX9_against 4 = .ok (.iload_n 1, 1) := by decide +kernel
theorem dX9_against_5 : decode cX9_against 5 = .ok (.iaload, 1) := by decide +kernel
theorem dX9_against_6 : decode cX9_against 6 = .ok (.bipush (-9), 2) := by decide +kernel
theorem dX9_against_8 : decode cX9_against 8 = .ok (.if_icmp .eq 15, 3) := by decide +kernel
theorem dX9_against_11 : decode cX9_against 11 = .ok (.aload_n 0, 1) := by decide +kernel
theorem dX9_against_12 : decode cX9_against 12 = .ok (.getfield 9, 3) := by decide +kernel
theorem dX9_against_15 : decode cX9_against 15 = .ok (.iload_n 1, 1) := by decide +kernel
theorem dX9_against_16 : decode cX9_against 16 = .ok (.iaload, 1) := by decide +kernel
theorem dX9_against_17 : decode cX9_against 17 = .ok (.iload_n 2, 1) := by decide +kernel
theorem dX9_against_18 : decode cX9_against 18 = .ok (.if_icmp .eq 5, 3) := by decide +kernel
theorem dX9_against_21 : decode cX9_against 21 = .ok (.iconst 2, 1) := by decide +kernel
theorem dX9_against_22 : decode cX9_against 22 = .ok (.ireturn, 1) := by decide +kernel
theorem dX9_against_23 : decode cX9_against 23 = .ok (.aload_n 0, 1) := by decide +kernel
theorem dX9_against_24 : decode cX9_against 24 = .ok (.getfield 9, 3) := by decide +kernel
theorem dX9_against_27 : decode cX9_against 27 = .ok (.iload_n 1, 1) := by decide +kernel
theorem dX9_against_28 : decode cX9_against 28 = .ok (.iaload, 1) := by decide +kernel
theorem dX9_against_29 : decode cX9_against 29 = .ok (.bipush (-9), 2) := by decide +kernel
theorem dX9_against_31 : decode cX9_against 31 = .ok (.if_icmp .ne 5, 3) := by decide +kernel
theorem dX9_against_34 : decode cX9_against 34 = .ok (.iconst 1, 1) := by decide +kernel
theorem dX9_against_35 : decode cX9_against 35 = .ok (.ireturn, 1) := by decide +kernel
theorem dX9_against_36 : decode cX9_against 36 = .ok (.iload 4, 2) := by decide +kernel
theorem dX9_against_38 : decode cX9_against 38 = .ok (.ifCond .ge 5, 3) := by decide +kernel
theorem dX9_against_41 : decode cX9_against 41 = .ok (.iconst 4, 1) := by decide +kernel
theorem dX9_against_42 : decode cX9_against 42 = .ok (.ireturn, 1) := by decide +kernel
theorem dX9_against_43 : decode cX9_against 43 = .ok (.iload_n 3, 1) := by decide +kernel
theorem dX9_against_44 : decode cX9_against 44 = .ok (.ifCond .lt 26, 3) := by decide +kernel
theorem dX9_against_47 : decode cX9_against 47 = .ok (.iload_n 3, 1) := by decide +kernel
theorem dX9_against_48 : decode cX9_against 48 = .ok (.aload_n 0, 1) := by decide +kernel
theorem dX9_against_49 : decode cX9_against 49 = .ok (.getfield 13, 3) := by decide +kernel
theorem dX9_against_52 : decode cX9_against 52 = .ok (.iload_n 1, 1) := by decide +kernel
theorem dX9_against_53 : decode cX9_against 53 = .ok (.iaload, 1) := by decide +kernel
theorem dX9_against_54 : decode cX9_against 54 = .ok (.if_icmp .gt 16, 3) := by decide +kernel
theorem dX9_against_57 : decode cX9_against 57 = .ok (.iload 4, 2) := by decide +kernel
theorem dX9_against_59 : decode cX9_against 59 = .ok (.aload_n 0, 1) := by decide +kernel
theorem dX9_against_60 : decode cX9_against 60 = .ok (.getfield 13, 3) := by decide +kernel
theorem dX9_against_63 : decode cX9_against 63 = .ok (.iload_n 1, 1) := by decide +kernel
theorem dX9_against_64 : decode cX9_against 64 = .ok (.iaload, 1) := by decide +kernel
theorem dX9_against_65 : decode cX9_against 65 = .ok (.iload_n 3, 1) := by decide +kernel
theorem dX9_against_66 : decode cX9_against 66 = .ok (.isub, 1) := by decide +kernel
theorem dX9_against_67 : decode cX9_against 67 = .ok (.if_icmp .le 7, 3) := by decide +kernel
theorem dX9_against_70 : decode cX9_against 70 = .ok (.iconst 3, 1) := by decide +kernel
theorem dX9_against_71 : decode cX9_against 71 = .ok (.goto 4, 3) := by decide +kernel
theorem dX9_against_74 : decode cX9_against 74 = .ok (.iconst 0, 1) := by decide +kernel
theorem dX9_against_75 : decode cX9_against 75 = .ok (.ireturn, 1) := by decide +kernel
theorem dX9_isDay_0 : decode cX9_isDay 0 = .ok (.iload_n 1, 1) := by decide +kernel
theorem dX9_isDay_1 : decode cX9_isDay 1 = .ok (.ifCond .lt 15, 3) := by decide +kernel
theorem dX9_isDay_4 : decode cX9_isDay 4 = .ok (.iload_n 1, 1) := by decide +kernel
theorem dX9_isDay_5 : decode cX9_isDay 5 = .ok (.aload_n 0, 1) := by decide +kernel
theorem dX9_isDay_6 : decode cX9_isDay 6 = .ok (.getfield 75, 3) := by decide +kernel
theorem dX9_isDay_9 : decode cX9_isDay 9 = .ok (.if_icmp .ge 7, 3) := by decide +kernel
theorem dX9_isDay_12 : decode cX9_isDay 12 = .ok (.iconst 1, 1) := by decide +kernel
theorem dX9_isDay_13 : decode cX9_isDay 13 = .ok (.goto 4, 3) := by decide +kernel
theorem dX9_isDay_16 : decode cX9_isDay 16 = .ok (.iconst 0, 1) := by decide +kernel
theorem dX9_isDay_17 : decode cX9_isDay 17 = .ok (.ireturn, 1) := by decide +kernel
set_option maxRecDepth 20000 in
theorem ggX9_isWord_X9_inside : GoodIn wsX9_isWord wsX9_inside := goodIn_r _ [4] (by decide +kernel) (by decide +kernel)
set_option maxRecDepth 20000 in
theorem gX9_isWord_X9_inside : GoodIn wsX9_isWord (va_wsS RX9 71 yX9_inside wsX9_inside) := goodIn_app (goodIn_of _ (by decide +kernel)) ggX9_isWord_X9_inside
theorem dX9_isWord_0 : decode cX9_isWord 0 = .ok (.iload_n 0, 1) := by decide +kernel
theorem dX9_isWord_1 : decode cX9_isWord 1 = .ok (.iconst 0, 1) := by decide +kernel
theorem dX9_isWord_2 : decode cX9_isWord 2 = .ok (.bipush 7, 2) := by decide +kernel
theorem dX9_isWord_4 : decode cX9_isWord 4 = .ok (.invokestatic 71, 3) := by decide +kernel
theorem dX9_isWord_7 : decode cX9_isWord 7 = .ok (.ireturn, 1) := by decide +kernel
theorem dX9_wordAt_0 : decode cX9_wordAt 0 = .ok (.aload_n 0, 1) := by decide +kernel
theorem dX9_wordAt_1 : decode cX9_wordAt 1 = .ok (.getfield 25, 3) := by decide +kernel
theorem dX9_wordAt_4 : decode cX9_wordAt 4 = .ok (.bipush 14, 2) := by decide +kernel
theorem dX9_wordAt_6 : decode cX9_wordAt 6 = .ok (.iload_n 1, 1) := by decide +kernel
theorem dX9_wordAt_7 : decode cX9_wordAt 7 = .ok (.imul, 1) := by decide +kernel
theorem dX9_wordAt_8 : decode cX9_wordAt 8 = .ok (.iload_n 2, 1) := by decide +kernel
theorem dX9_wordAt_9 : decode cX9_wordAt 9 = .ok (.iadd, 1) := by decide +kernel
theorem dX9_wordAt_10 : decode cX9_wordAt 10 = .ok (.iaload, 1) := by decide +kernel
theorem dX9_wordAt_11 : decode cX9_wordAt 11 = .ok (.ireturn, 1) := by decide +kernel
set_option maxRecDepth 20000 in
theorem ggX9_cries_X9_isSheet : GoodIn wsX9_cries wsX9_isSheet := goodIn_r _ [12, 13, 14, 11, 15] (by decide +kernel) (by decide +kernel)
set_option maxRecDepth 20000 in
theorem gX9_cries_X9_isSheet : GoodIn wsX9_cries (va_wsS RX9 78 yX9_isSheet wsX9_isSheet) := goodIn_app (goodIn_of _ (by decide +kernel)) ggX9_cries_X9_isSheet
set_option maxRecDepth 20000 in
theorem ggX9_cries_X9_isSort : GoodIn wsX9_cries wsX9_isSort := goodIn_r _ [18, 13, 14, 11, 15] (by decide +kernel) (by decide +kernel)
set_option maxRecDepth 20000 in
theorem gX9_cries_X9_isSort : GoodIn wsX9_cries (va_wsS RX9 82 yX9_isSort wsX9_isSort) := goodIn_app (goodIn_of _ (by decide +kernel)) ggX9_cries_X9_isSort
set_option maxRecDepth 20000 in
theorem ggX9_cries_X9_against : GoodIn wsX9_cries wsX9_against := goodIn_r _ [22, 23, 24, 34, 35, 36, 37, 38, 39, 40, 41, 42, 43, 44, 45, 46, 47, 48, 49, 50, 51, 52, 53, 54, 55, 56, 57, 58, 59] (by decide +kernel) (by decide +kernel)
set_option maxRecDepth 20000 in
theorem gX9_cries_X9_against : GoodIn wsX9_cries (wsV RX9 85 RX9 yX9_against wsX9_against) := goodIn_app (goodIn_of _ (by decide +kernel)) ggX9_cries_X9_against
set_option maxRecDepth 20000 in
theorem ggX9_cries_X9_fails : GoodIn wsX9_cries wsX9_fails := goodIn_r _ [28, 1, 34, 35, 36, 37, 38, 39, 40, 41, 42, 43, 44, 45, 46, 47, 48, 49, 50, 51, 52, 53, 54, 55, 56, 57, 58, 59] (by decide +kernel) (by decide +kernel)
set_option maxRecDepth 20000 in
theorem gX9_cries_X9_fails : GoodIn wsX9_cries (wsV RX9 89 RX9 yX9_fails wsX9_fails) := goodIn_app (goodIn_of _ (by decide +kernel)) ggX9_cries_X9_fails
set_option maxRecDepth 20000 in
theorem ggX9_cries_X9_readCries : GoodIn wsX9_cries wsX9_readCries := goodIn_r _ [32, 3, 2, 33, 8, 6, 13, 14, 11, 15, 34, 35, 36, 37, 38, 39, 40, 41, 42, 43, 44, 45, 46, 47, 48, 49, 50, 51, 52, 53, 54, 55, 56, 57, 58, 59] (by decide +kernel) (by decide +kernel)
set_option maxRecDepth 20000 in
theorem gX9_cries_X9_readCries : GoodIn wsX9_cries (wsV RX9 96 RX9 yX9_readCries wsX9_readCries) := goodIn_app (goodIn_of _ (by decide +kernel)) ggX9_cries_X9_readCries
theorem dX9_cries_0 : decode cX9_cries 0 = .ok (.aload_n 0, 1) := by decide +kernel
theorem dX9_cries_1 : decode cX9_cries 1 = .ok (.iconst 0, 1) := by decide +kernel
theorem dX9_cries_2 : decode cX9_cries 2 = .ok (.putfield 65, 3) := by decide +kernel
theorem dX9_cries_5 : decode cX9_cries 5 = .ok (.iload_n 1, 1) := by decide +kernel
theorem dX9_cries_6 : decode cX9_cries 6 = .ok (.invokestatic 78, 3) := by decide +kernel
theorem dX9_cries_9 : decode cX9_cries 9 = .ok (.ifCond .ne 5, 3) := by decide +kernel
theorem dX9_cries_12 : decode cX9_cries 12 = .ok (.iconst (-1), 1) := by decide +kernel
theorem dX9_cries_13 : decode cX9_cries 13 = .ok (.ireturn, 1) := by decide +kernel
theorem dX9_cries_14 : decode cX9_cries 14 = .ok (.iload_n 2, 1) := by decide +kernel
theorem dX9_cries_15 : decode cX9_cries 15 = .ok (.invokestatic 82, 3) := by decide +kernel
theorem dX9_cries_18 : decode cX9_cries 18 = .ok (.ifCond .ne 6, 3) := by decide +kernel
theorem dX9_cries_21 : decode cX9_cries 21 = .ok (.bipush (-2), 2) := by decide +kernel
theorem dX9_cries_23 : decode cX9_cries 23 = .ok (.ireturn, 1) := by decide +kernel
theorem dX9_cries_24 : decode cX9_cries 24 = .ok (.aload_n 0, 1) := by decide +kernel
theorem dX9_cries_25 : decode cX9_cries 25 = .ok (.iload_n 1, 1) := by decide +kernel
theorem dX9_cries_26 : decode cX9_cries 26 = .ok (.iload_n 2, 1) := by decide +kernel
theorem dX9_cries_27 : decode cX9_cries 27 = .ok (.iload_n 3, 1) := by decide +kernel
theorem dX9_cries_28 : decode cX9_cries 28 = .ok (.iload 4, 2) := by decide +kernel
theorem dX9_cries_30 : decode cX9_cries 30 = .ok (.invokevirtual 85, 3) := by decide +kernel
theorem dX9_cries_33 : decode cX9_cries 33 = .ok (.istore 5, 2) := by decide +kernel
theorem dX9_cries_35 : decode cX9_cries 35 = .ok (.iload 5, 2) := by decide +kernel
theorem dX9_cries_37 : decode cX9_cries 37 = .ok (.ifCond .eq 10, 3) := by decide +kernel
theorem dX9_cries_40 : decode cX9_cries 40 = .ok (.aload_n 0, 1) := by decide +kernel
theorem dX9_cries_41 : decode cX9_cries 41 = .ok (.iload 5, 2) := by decide +kernel
theorem dX9_cries_43 : decode cX9_cries 43 = .ok (.invokevirtual 89, 3) := by decide +kernel
theorem dX9_cries_46 : decode cX9_cries 46 = .ok (.ireturn, 1) := by decide +kernel
theorem dX9_cries_47 : decode cX9_cries 47 = .ok (.bipush 80, 2) := by decide +kernel
theorem dX9_cries_49 : decode cX9_cries 49 = .ok (.iload_n 1, 1) := by decide +kernel
theorem dX9_cries_50 : decode cX9_cries 50 = .ok (.imul, 1) := by decide +kernel
theorem dX9_cries_51 : decode cX9_cries 51 = .ok (.iload_n 3, 1) := by decide +kernel
theorem dX9_cries_52 : decode cX9_cries 52 = .ok (.iadd, 1) := by decide +kernel
theorem dX9_cries_53 : decode cX9_cries 53 = .ok (.istore 6, 2) := by decide +kernel
theorem dX9_cries_55 : decode cX9_cries 55 = .ok (.aload_n 0, 1) := by decide +kernel
theorem dX9_cries_56 : decode cX9_cries 56 = .ok (.iload 6, 2) := by decide +kernel
theorem dX9_cries_58 : decode cX9_cries 58 = .ok (.putfield 93, 3) := by decide +kernel
theorem dX9_cries_61 : decode cX9_cries 61 = .ok (.aload_n 0, 1) := by decide +kernel
theorem dX9_cries_62 : decode cX9_cries 62 = .ok (.iload 6, 2) := by decide +kernel
theorem dX9_cries_64 : decode cX9_cries 64 = .ok (.iload 4, 2) := by decide +kernel
theorem dX9_cries_66 : decode cX9_cries 66 = .ok (.iadd, 1) := by decide +kernel
theorem dX9_cries_67 : decode cX9_cries 67 = .ok (.invokevirtual 96, 3) := by decide +kernel
theorem dX9_cries_70 : decode cX9_cries 70 = .ok (.ifCond .ne 14, 3) := by decide +kernel
theorem dX9_cries_73 : decode cX9_cries 73 = .ok (.bipush (-100), 2) := by decide +kernel
theorem dX9_cries_75 : decode cX9_cries 75 = .ok (.aload_n 0, 1) := by decide +kernel
theorem dX9_cries_76 : decode cX9_cries 76 = .ok (.getfield 93, 3) := by decide +kernel
theorem dX9_cries_79 : decode cX9_cries 79 = .ok (.iload 6, 2) := by decide +kernel
theorem dX9_cries_81 : decode cX9_cries 81 = .ok (.isub, 1) := by decide +kernel
theorem dX9_cries_82 : decode cX9_cries 82 = .ok (.isub, 1) := by decide +kernel
theorem dX9_cries_83 : decode cX9_cries 83 = .ok (.ireturn, 1) := by decide +kernel
theorem dX9_cries_84 : decode cX9_cries 84 = .ok (.aload_n 0, 1) := by decide +kernel
theorem dX9_cries_85 : decode cX9_cries 85 = .ok (.aload_n 0, 1) := by decide +kernel
theorem dX9_cries_86 : decode cX9_cries 86 = .ok (.getfield 99, 3) := by decide +kernel
theorem dX9_cries_89 : decode cX9_cries 89 = .ok (.putfield 75, 3) := by decide +kernel
theorem dX9_cries_92 : decode cX9_cries 92 = .ok (.iconst 0, 1) := by decide +kernel
theorem dX9_cries_93 : decode cX9_cries 93 = .ok (.istore 7, 2) := by decide +kernel
theorem dX9_cries_95 : decode cX9_cries 95 = .ok (.iload 7, 2) := by decide +kernel
theorem dX9_cries_97 : decode cX9_cries 97 = .ok (.aload_n 0, 1) := by decide +kernel
theorem dX9_cries_98 : decode cX9_cries 98 = .ok (.getfield 75, 3) := by decide +kernel
theorem dX9_cries_101 : decode cX9_cries 101 = .ok (.if_icmp .ge 70, 3) := by decide +kernel
theorem dX9_cries_104 : decode cX9_cries 104 = .ok (.aload_n 0, 1) := by decide +kernel
theorem dX9_cries_105 : decode cX9_cries 105 = .ok (.getfield 22, 3) := by decide +kernel
theorem dX9_cries_108 : decode cX9_cries 108 = .ok (.iload 7, 2) := by decide +kernel
theorem dX9_cries_110 : decode cX9_cries 110 = .ok (.aload_n 0, 1) := by decide +kernel
theorem dX9_cries_111 : decode cX9_cries 111 = .ok (.getfield 28, 3) := by decide +kernel
theorem dX9_cries_114 : decode cX9_cries 114 = .ok (.iload 7, 2) := by decide +kernel
theorem dX9_cries_116 : decode cX9_cries 116 = .ok (.iaload, 1) := by decide +kernel
theorem dX9_cries_117 : decode cX9_cries 117 = .ok (.iastore, 1) := by decide +kernel
theorem dX9_cries_118 : decode cX9_cries 118 = .ok (.iconst 0, 1) := by decide +kernel
theorem dX9_cries_119 : decode cX9_cries 119 = .ok (.istore 8, 2) := by decide +kernel
theorem dX9_cries_121 : decode cX9_cries 121 = .ok (.iload 8, 2) := by decide +kernel
theorem dX9_cries_123 : decode cX9_cries 123 = .ok (.aload_n 0, 1) := by decide +kernel
theorem dX9_cries_124 : decode cX9_cries 124 = .ok (.getfield 22, 3) := by decide +kernel
theorem dX9_cries_127 : decode cX9_cries 127 = .ok (.iload 7, 2) := by decide +kernel
theorem dX9_cries_129 : decode cX9_cries 129 = .ok (.iaload, 1) := by decide +kernel
theorem dX9_cries_130 : decode cX9_cries 130 = .ok (.if_icmp .ge 35, 3) := by decide +kernel
theorem dX9_cries_133 : decode cX9_cries 133 = .ok (.aload_n 0, 1) := by decide +kernel
theorem dX9_cries_134 : decode cX9_cries 134 = .ok (.getfield 25, 3) := by decide +kernel
theorem dX9_cries_137 : decode cX9_cries 137 = .ok (.bipush 14, 2) := by decide +kernel
theorem dX9_cries_139 : decode cX9_cries 139 = .ok (.iload 7, 2) := by decide +kernel
theorem dX9_cries_141 : decode cX9_cries 141 = .ok (.imul, 1) := by decide +kernel
theorem dX9_cries_142 : decode cX9_cries 142 = .ok (.iload 8, 2) := by decide +kernel
theorem dX9_cries_144 : decode cX9_cries 144 = .ok (.iadd, 1) := by decide +kernel
theorem dX9_cries_145 : decode cX9_cries 145 = .ok (.aload_n 0, 1) := by decide +kernel
theorem dX9_cries_146 : decode cX9_cries 146 = .ok (.getfield 31, 3) := by decide +kernel
theorem dX9_cries_149 : decode cX9_cries 149 = .ok (.bipush 14, 2) := by decide +kernel
theorem dX9_cries_151 : decode cX9_cries 151 = .ok (.iload 7, 2) := by decide +kernel
theorem dX9_cries_153 : decode cX9_cries 153 = .ok (.imul, 1) := by decide +kernel
theorem dX9_cries_154 : decode cX9_cries 154 = .ok (.iload 8, 2) := by decide +kernel
theorem dX9_cries_156 : decode cX9_cries 156 = .ok (.iadd, 1) := by decide +kernel
theorem dX9_cries_157 : decode cX9_cries 157 = .ok (.iaload, 1) := by decide +kernel
theorem dX9_cries_158 : decode cX9_cries 158 = .ok (.iastore, 1) := by decide +kernel
theorem dX9_cries_159 : decode cX9_cries 159 = .ok (.iinc 8 1, 3) := by decide +kernel
theorem dX9_cries_162 : decode cX9_cries 162 = .ok (.goto (-41), 3) := by decide +kernel
theorem dX9_cries_165 : decode cX9_cries 165 = .ok (.iinc 7 1, 3) := by decide +kernel
theorem dX9_cries_168 : decode cX9_cries 168 = .ok (.goto (-73), 3) := by decide +kernel
theorem dX9_cries_171 : decode cX9_cries 171 = .ok (.aload_n 0, 1) := by decide +kernel
theorem dX9_cries_172 : decode cX9_cries 172 = .ok (.getfield 75, 3) := by decide +kernel
theorem dX9_cries_175 : decode cX9_cries 175 = .ok (.ireturn, 1) := by decide +kernel
set_option maxRecDepth 20000 in
theorem ggX9_readCries_X9_inside : GoodIn wsX9_readCries wsX9_inside := goodIn_r _ [9] (by decide +kernel) (by decide +kernel)
set_option maxRecDepth 20000 in
theorem gX9_readCries_X9_inside : GoodIn wsX9_readCries (va_wsS RX9 71 yX9_inside wsX9_inside) := goodIn_app (goodIn_of _ (by decide +kernel)) ggX9_readCries_X9_inside
theorem dX9_readCries_0 : decode cX9_readCries 0 = .ok (.aload_n 0, 1) := by decide +kernel
theorem dX9_readCries_1 : decode cX9_readCries 1 = .ok (.iconst 0, 1) := by decide +kernel
theorem dX9_readCries_2 : decode cX9_readCries 2 = .ok (.putfield 99, 3) := by decide +kernel
theorem dX9_readCries_5 : decode cX9_readCries 5 = .ok (.aload_n 0, 1) := by decide +kernel
theorem dX9_readCries_6 : decode cX9_readCries 6 = .ok (.getfield 99, 3) := by decide +kernel
theorem dX9_readCries_9 : decode cX9_readCries 9 = .ok (.ifCond .eq 11, 3) := by decide +kernel
theorem dX9_readCries_12 : decode cX9_readCries 12 = .ok (.aload_n 0, 1) := by decide +kernel
theorem dX9_readCries_13 : decode cX9_readCries 13 = .ok (.getfield 93, 3) := by decide +kernel
theorem dX9_readCries_16 : decode cX9_readCries 16 = .ok (.iload_n 1, 1) := by decide +kernel
theorem dX9_readCries_17 : decode cX9_readCries 17 = .ok (.if_icmp .ge 151, 3) := by decide +kernel
theorem dX9_readCries_20 : decode cX9_readCries 20 = .ok (.aload_n 0, 1) := by decide +kernel
theorem dX9_readCries_21 : decode cX9_readCries 21 = .ok (.getfield 99, 3) := by decide +kernel
theorem dX9_readCries_24 : decode cX9_readCries 24 = .ok (.ifCond .le 38, 3) := by decide +kernel
theorem dX9_readCries_27 : decode cX9_readCries 27 = .ok (.aload_n 0, 1) := by decide +kernel
theorem dX9_readCries_28 : decode cX9_readCries 28 = .ok (.getfield 99, 3) := by decide +kernel
theorem dX9_readCries_31 : decode cX9_readCries 31 = .ok (.bipush 6, 2) := by decide +kernel
theorem dX9_readCries_33 : decode cX9_readCries 33 = .ok (.if_icmp .eq 17, 3) := by decide +kernel
theorem dX9_readCries_36 : decode cX9_readCries 36 = .ok (.aload_n 0, 1) := by decide +kernel
theorem dX9_readCries_37 : decode cX9_readCries 37 = .ok (.getfield 16, 3) := by decide +kernel
theorem dX9_readCries_40 : decode cX9_readCries 40 = .ok (.aload_n 0, 1) := by decide +kernel
theorem dX9_readCries_41 : decode cX9_readCries 41 = .ok (.getfield 93, 3) := by decide +kernel
theorem dX9_readCries_44 : decode cX9_readCries 44 = .ok (.iaload, 1) := by decide +kernel
theorem dX9_readCries_45 : decode cX9_readCries 45 = .ok (.bipush 59, 2) := by decide +kernel
theorem dX9_readCries_47 : decode cX9_readCries 47 = .ok (.if_icmp .eq 5, 3) := by decide +kernel
theorem dX9_readCries_50 : decode cX9_readCries 50 = .ok (.iconst 0, 1) := by decide +kernel
theorem dX9_readCries_51 : decode cX9_readCries 51 = .ok (.ireturn, 1) := by decide +kernel
theorem dX9_readCries_52 : decode cX9_readCries 52 = .ok (.aload_n 0, 1) := by decide +kernel
theorem dX9_readCries_53 : decode cX9_readCries 53 = .ok (.dup, 1) := by decide +kernel
theorem dX9_readCries_54 : decode cX9_readCries 54 = .ok (.getfield 93, 3) := by decide +kernel
theorem dX9_readCries_57 : decode cX9_readCries 57 = .ok (.iconst 1, 1) := by decide +kernel
theorem dX9_readCries_58 : decode cX9_readCries 58 = .ok (.iadd, 1) := by decide +kernel
theorem dX9_readCries_59 : decode cX9_readCries 59 = .ok (.putfield 93, 3) := by decide +kernel
theorem dX9_readCries_62 : decode cX9_readCries 62 = .ok (.iconst 0, 1) := by decide +kernel
theorem dX9_readCries_63 : decode cX9_readCries 63 = .ok (.istore_n 2, 1) := by decide +kernel
theorem dX9_readCries_64 : decode cX9_readCries 64 = .ok (.iload_n 2, 1) := by decide +kernel
theorem dX9_readCries_65 : decode cX9_readCries 65 = .ok (.bipush 12, 2) := by decide +kernel
theorem dX9_readCries_67 : decode cX9_readCries 67 = .ok (.if_icmp .ge 72, 3) := by decide +kernel
theorem dX9_readCries_70 : decode cX9_readCries 70 = .ok (.aload_n 0, 1) := by decide +kernel
theorem dX9_readCries_71 : decode cX9_readCries 71 = .ok (.getfield 93, 3) := by decide +kernel
theorem dX9_readCries_74 : decode cX9_readCries 74 = .ok (.iload_n 1, 1) := by decide +kernel
theorem dX9_readCries_75 : decode cX9_readCries 75 = .ok (.if_icmp .ge 64, 3) := by decide +kernel
theorem dX9_readCries_78 : decode cX9_readCries 78 = .ok (.aload_n 0, 1) := by decide +kernel
theorem dX9_readCries_79 : decode cX9_readCries 79 = .ok (.getfield 16, 3) := by decide +kernel
theorem dX9_readCries_82 : decode cX9_readCries 82 = .ok (.aload_n 0, 1) := by decide +kernel
theorem dX9_readCries_83 : decode cX9_readCries 83 = .ok (.getfield 93, 3) := by decide +kernel
theorem dX9_readCries_86 : decode cX9_readCries 86 = .ok (.iaload, 1) := by decide +kernel
theorem dX9_readCries_87 : decode cX9_readCries 87 = .ok (.bipush 97, 2) := by decide +kernel
theorem dX9_readCries_89 : decode cX9_readCries 89 = .ok (.bipush 104, 2) := by decide +kernel
theorem dX9_readCries_91 : decode cX9_readCries 91 = .ok (.invokestatic 71, 3) := by decide +kernel
theorem dX9_readCries_94 : decode cX9_readCries 94 = .ok (.ifCond .eq 45, 3) := by decide +kernel
theorem dX9_readCries_97 : decode cX9_readCries 97 = .ok (.aload_n 0, 1) := by decide +kernel
theorem dX9_readCries_98 : decode cX9_readCries 98 = .ok (.getfield 31, 3) := by decide +kernel
theorem dX9_readCries_101 : decode cX9_readCries 101 = .ok (.bipush 14, 2) := by decide +kernel
theorem dX9_readCries_103 : decode cX9_readCries 103 = .ok (.aload_n 0, 1) := by decide +kernel
theorem dX9_readCries_104 : decode cX9_readCries 104 = .ok (.getfield 99, 3) := by decide +kernel
theorem dX9_readCries_107 : decode cX9_readCries 107 = .ok (.imul, 1) := by decide +kernel
theorem dX9_readCries_108 : decode cX9_readCries 108 = .ok (.iload_n 2, 1) := by decide +kernel
theorem dX9_readCries_109 : decode cX9_readCries 109 = .ok (.iadd, 1) := by decide +kernel
theorem dX9_readCries_110 : decode cX9_readCries 110 = .ok (.aload_n 0, 1) := by decide +kernel
theorem dX9_readCries_111 : decode cX9_readCries 111 = .ok (.getfield 16, 3) := by decide +kernel
theorem dX9_readCries_114 : decode cX9_readCries 114 = .ok (.aload_n 0, 1) := by decide +kernel
theorem dX9_readCries_115 : decode cX9_readCries 115 = .ok (.getfield 93, 3) := by decide +kernel
theorem dX9_readCries_118 : decode cX9_readCries 118 = .ok (.iaload, 1) := by decide +kernel
theorem dX9_readCries_119 : decode cX9_readCries 119 = .ok (.bipush 97, 2) := by decide +kernel
theorem dX9_readCries_121 : decode cX9_readCries 121 = .ok (.isub, 1) := by decide +kernel
theorem dX9_readCries_122 : decode cX9_readCries 122 = .ok (.iastore, 1) := by decide +kernel
theorem dX9_readCries_123 : decode cX9_readCries 123 = .ok (.iinc 2 1, 3) := by decide +kernel
theorem dX9_readCries_126 : decode cX9_readCries 126 = .ok (.aload_n 0, 1) := by decide +kernel
theorem dX9_readCries_127 : decode cX9_readCries 127 = .ok (.dup, 1) := by decide +kernel
theorem dX9_readCries_128 : decode cX9_readCries 128 = .ok (.getfield 93, 3) := by decide +kernel
theorem dX9_readCries_131 : decode cX9_readCries 131 = .ok (.iconst 1, 1) := by decide +kernel
theorem dX9_readCries_132 : decode cX9_readCries 132 = .ok (.iadd, 1) := by decide +kernel
theorem dX9_readCries_133 : decode cX9_readCries 133 = .ok (.putfield 93, 3) := by decide +kernel
theorem dX9_readCries_136 : decode cX9_readCries 136 = .ok (.goto (-72), 3) := by decide +kernel
theorem dX9_readCries_139 : decode cX9_readCries 139 = .ok (.iload_n 2, 1) := by decide +kernel
theorem dX9_readCries_140 : decode cX9_readCries 140 = .ok (.ifCond .ne 5, 3) := by decide +kernel
theorem dX9_readCries_143 : decode cX9_readCries 143 = .ok (.iconst 0, 1) := by decide +kernel
theorem dX9_readCries_144 : decode cX9_readCries 144 = .ok (.ireturn, 1) := by decide +kernel
theorem dX9_readCries_145 : decode cX9_readCries 145 = .ok (.aload_n 0, 1) := by decide +kernel
theorem dX9_readCries_146 : decode cX9_readCries 146 = .ok (.getfield 28, 3) := by decide +kernel
theorem dX9_readCries_149 : decode cX9_readCries 149 = .ok (.aload_n 0, 1) := by decide +kernel
theorem dX9_readCries_150 : decode cX9_readCries 150 = .ok (.getfield 99, 3) := by decide +kernel
theorem dX9_readCries_153 : decode cX9_readCries 153 = .ok (.iload_n 2, 1) := by decide +kernel
theorem dX9_readCries_154 : decode cX9_readCries 154 = .ok (.iastore, 1) := by decide +kernel
theorem dX9_readCries_155 : decode cX9_readCries 155 = .ok (.aload_n 0, 1) := by decide +kernel
theorem dX9_readCries_156 : decode cX9_readCries 156 = .ok (.dup, 1) := by decide +kernel
theorem dX9_readCries_157 : decode cX9_readCries 157 = .ok (.getfield 99, 3) := by decide +kernel
theorem dX9_readCries_160 : decode cX9_readCries 160 = .ok (.iconst 1, 1) := by decide +kernel
theorem dX9_readCries_161 : decode cX9_readCries 161 = .ok (.iadd, 1) := by decide +kernel
theorem dX9_readCries_162 : decode cX9_readCries 162 = .ok (.putfield 99, 3) := by decide +kernel
theorem dX9_readCries_165 : decode cX9_readCries 165 = .ok (.goto (-160), 3) := by decide +kernel
theorem dX9_readCries_168 : decode cX9_readCries 168 = .ok (.iconst 1, 1) := by decide +kernel
theorem dX9_readCries_169 : decode cX9_readCries 169 = .ok (.ireturn, 1) := by decide +kernel
set_option maxRecDepth 20000 in
theorem ggX9_kind_X9_isWord : GoodIn wsX9_kind wsX9_isWord := goodIn_r _ [5, 6, 7, 4, 8] (by decide +kernel) (by decide +kernel)
set_option maxRecDepth 20000 in
theorem gX9_kind_X9_isWord : GoodIn wsX9_kind (va_wsS RX9 102 yX9_isWord wsX9_isWord) := goodIn_app (goodIn_of _ (by decide +kernel)) ggX9_kind_X9_isWord
set_option maxRecDepth 20000 in
theorem ggX9_kind_X9_inside : GoodIn wsX9_kind wsX9_inside := goodIn_r _ [8] (by decide +kernel) (by decide +kernel)
set_option maxRecDepth 20000 in
theorem gX9_kind_X9_inside : GoodIn wsX9_kind (va_wsS RX9 71 yX9_inside wsX9_inside) := goodIn_app (goodIn_of _ (by decide +kernel)) ggX9_kind_X9_inside
theorem dX9_kind_0 : decode cX9_kind 0 = .ok (.iload_n 1, 1) := by decide +kernel
theorem dX9_kind_1 : decode cX9_kind 1 = .ok (.invokestatic 102, 3) := by decide +kernel
theorem dX9_kind_4 : decode cX9_kind 4 = .ok (.ifCond .ne 5, 3) := by decide +kernel
theorem dX9_kind_7 : decode cX9_kind 7 = .ok (.iconst (-1), 1) := by decide +kernel
theorem dX9_kind_8 : decode cX9_kind 8 = .ok (.ireturn, 1) := by decide +kernel
theorem dX9_kind_9 : decode cX9_kind 9 = .ok (.iload_n 2, 1) := by decide +kernel
theorem dX9_kind_10 : decode cX9_kind 10 = .ok (.iconst 0, 1) := by decide +kernel
theorem dX9_kind_11 : decode cX9_kind 11 = .ok (.iconst 2, 1) := by decide +kernel
theorem dX9_kind_12 : decode cX9_kind 12 = .ok (.invokestatic 71, 3) := by decide +kernel
theorem dX9_kind_15 : decode cX9_kind 15 = .ok (.ifCond .ne 6, 3) := by decide +kernel
theorem dX9_kind_18 : decode cX9_kind 18 = .ok (.bipush (-2), 2) := by decide +kernel
theorem dX9_kind_20 : decode cX9_kind 20 = .ok (.ireturn, 1) := by decide +kernel
theorem dX9_kind_21 : decode cX9_kind 21 = .ok (.aload_n 0, 1) := by decide +kernel
theorem dX9_kind_22 : decode cX9_kind 22 = .ok (.getfield 19, 3) := by decide +kernel
theorem dX9_kind_25 : decode cX9_kind 25 = .ok (.iload_n 1, 1) := by decide +kernel
theorem dX9_kind_26 : decode cX9_kind 26 = .ok (.iaload, 1) := by decide +kernel
theorem dX9_kind_27 : decode cX9_kind 27 = .ok (.istore_n 3, 1) := by decide +kernel
theorem dX9_kind_28 : decode cX9_kind 28 = .ok (.aload_n 0, 1) := by decide +kernel
theorem dX9_kind_29 : decode cX9_kind 29 = .ok (.getfield 19, 3) := by decide +kernel
theorem dX9_kind_32 : decode cX9_kind 32 = .ok (.iload_n 1, 1) := by decide +kernel
theorem dX9_kind_33 : decode cX9_kind 33 = .ok (.iload_n 2, 1) := by decide +kernel
theorem dX9_kind_34 : decode cX9_kind 34 = .ok (.iastore, 1) := by decide +kernel
theorem dX9_kind_35 : decode cX9_kind 35 = .ok (.iload_n 3, 1) := by decide +kernel
theorem dX9_kind_36 : decode cX9_kind 36 = .ok (.ireturn, 1) := by decide +kernel
set_option maxRecDepth 20000 in
theorem ggX9_ofDay_X9_isDay : GoodIn wsX9_ofDay wsX9_isDay := goodIn_r _ [6, 7, 16, 17, 18, 19, 20, 21, 22, 23, 24, 25, 26, 27, 28, 29, 30, 31, 32, 33, 34, 35, 36, 37, 38, 39, 40, 41] (by decide +kernel) (by decide +kernel)
set_option maxRecDepth 20000 in
theorem gX9_ofDay_X9_isDay : GoodIn wsX9_ofDay (wsV RX9 105 RX9 yX9_isDay wsX9_isDay) := goodIn_app (goodIn_of _ (by decide +kernel)) ggX9_ofDay_X9_isDay
set_option maxRecDepth 20000 in
theorem ggX9_ofDay_X9_inside : GoodIn wsX9_ofDay wsX9_inside := goodIn_r _ [10] (by decide +kernel) (by decide +kernel)
set_option maxRecDepth 20000 in
theorem gX9_ofDay_X9_inside : GoodIn wsX9_ofDay (va_wsS RX9 71 yX9_inside wsX9_inside) := goodIn_app (goodIn_of _ (by decide +kernel)) ggX9_ofDay_X9_inside
set_option maxRecDepth 20000 in
theorem ggX9_ofDay_X9_wordAt : GoodIn wsX9_ofDay wsX9_wordAt := goodIn_r _ [14, 15, 16, 17, 18, 19, 20, 21, 22, 23, 24, 25, 26, 27, 28, 29, 30, 31, 32, 33, 34, 35, 36, 37, 38, 39, 40, 41] (by decide +kernel) (by decide +kernel)
set_option maxRecDepth 20000 in
theorem gX9_ofDay_X9_wordAt : GoodIn wsX9_ofDay (wsV RX9 108 RX9 yX9_wordAt wsX9_wordAt) := goodIn_app (goodIn_of _ (by decide +kernel)) ggX9_ofDay_X9_wordAt
theorem dX9_ofDay_0 : decode cX9_ofDay 0 = .ok (.aload_n 0, 1) := by decide +kernel
theorem dX9_ofDay_1 : decode cX9_ofDay 1 = .ok (.iload_n 1, 1) := by decide +kernel
theorem dX9_ofDay_2 : decode cX9_ofDay 2 = .ok (.invokevirtual 105, 3) := by decide +kernel
theorem dX9_ofDay_5 : decode cX9_ofDay 5 = .ok (.ifCond .eq 19, 3) := by decide +kernel
theorem dX9_ofDay_8 : decode cX9_ofDay 8 = .ok (.iload_n 2, 1) := by decide +kernel
theorem dX9_ofDay_9 : decode cX9_ofDay 9 = .ok (.iconst (-1), 1) := by decide +kernel
theorem dX9_ofDay_10 : decode cX9_ofDay 10 = .ok (.aload_n 0, 1) := by decide +kernel
theorem dX9_ofDay_11 : decode cX9_ofDay 11 = .ok (.getfield 22, 3) := by decide +kernel
theorem dX9_ofDay_14 : decode cX9_ofDay 14 = .ok (.iload_n 1, 1) := by decide +kernel
theorem dX9_ofDay_15 : decode cX9_ofDay 15 = .ok (.iaload, 1) := by decide +kernel
theorem dX9_ofDay_16 : decode cX9_ofDay 16 = .ok (.iconst 1, 1) := by decide +kernel
theorem dX9_ofDay_17 : decode cX9_ofDay 17 = .ok (.isub, 1) := by decide +kernel
theorem dX9_ofDay_18 : decode cX9_ofDay 18 = .ok (.invokestatic 71, 3) := by decide +kernel
theorem dX9_ofDay_21 : decode cX9_ofDay 21 = .ok (.ifCond .ne 5, 3) := by decide +kernel
theorem dX9_ofDay_24 : decode cX9_ofDay 24 = .ok (.iconst (-1), 1) := by decide +kernel
theorem dX9_ofDay_25 : decode cX9_ofDay 25 = .ok (.ireturn, 1) := by decide +kernel
theorem dX9_ofDay_26 : decode cX9_ofDay 26 = .ok (.iload_n 2, 1) := by decide +kernel
theorem dX9_ofDay_27 : decode cX9_ofDay 27 = .ok (.iconst (-1), 1) := by decide +kernel
theorem dX9_ofDay_28 : decode cX9_ofDay 28 = .ok (.if_icmp .ne 12, 3) := by decide +kernel
theorem dX9_ofDay_31 : decode cX9_ofDay 31 = .ok (.aload_n 0, 1) := by decide +kernel
theorem dX9_ofDay_32 : decode cX9_ofDay 32 = .ok (.getfield 22, 3) := by decide +kernel
theorem dX9_ofDay_35 : decode cX9_ofDay 35 = .ok (.iload_n 1, 1) := by decide +kernel
theorem dX9_ofDay_36 : decode cX9_ofDay 36 = .ok (.iaload, 1) := by decide +kernel
theorem dX9_ofDay_37 : decode cX9_ofDay 37 = .ok (.goto 9, 3) := by decide +kernel
theorem dX9_ofDay_40 : decode cX9_ofDay 40 = .ok (.aload_n 0, 1) := by decide +kernel
theorem dX9_ofDay_41 : decode cX9_ofDay 41 = .ok (.iload_n 1, 1) := by decide +kernel
theorem dX9_ofDay_42 : decode cX9_ofDay 42 = .ok (.iload_n 2, 1) := by decide +kernel
theorem dX9_ofDay_43 : decode cX9_ofDay 43 = .ok (.invokevirtual 108, 3) := by decide +kernel
theorem dX9_ofDay_46 : decode cX9_ofDay 46 = .ok (.ireturn, 1) := by decide +kernel
set_option maxRecDepth 20000 in
theorem ggX9_add_X9_isWord : GoodIn wsX9_add wsX9_isWord := goodIn_r _ [7, 8, 9, 6, 10] (by decide +kernel) (by decide +kernel)
set_option maxRecDepth 20000 in
theorem gX9_add_X9_isWord : GoodIn wsX9_add (va_wsS RX9 102 yX9_isWord wsX9_isWord) := goodIn_app (goodIn_of _ (by decide +kernel)) ggX9_add_X9_isWord
set_option maxRecDepth 20000 in
theorem ggX9_add_X9_wordAt : GoodIn wsX9_add wsX9_wordAt := goodIn_r _ [14, 3, 15, 16, 17, 18, 19, 20, 21, 22, 23, 24, 25, 26, 27, 28, 29, 30, 31, 32, 33, 34, 35, 36, 37, 38, 39, 40] (by decide +kernel) (by decide +kernel)
set_option maxRecDepth 20000 in
theorem gX9_add_X9_wordAt : GoodIn wsX9_add (wsV RX9 108 RX9 yX9_wordAt wsX9_wordAt) := goodIn_app (goodIn_of _ (by decide +kernel)) ggX9_add_X9_wordAt
theorem dX9_add_0 : decode cX9_add 0 = .ok (.aload_n 0, 1) := by decide +kernel
theorem dX9_add_1 : decode cX9_add 1 = .ok (.getfield 75, 3) := by decide +kernel
theorem dX9_add_4 : decode cX9_add 4 = .ok (.iconst 1, 1) := by decide +kernel
theorem dX9_add_5 : decode cX9_add 5 = .ok (.isub, 1) := by decide +kernel
theorem dX9_add_6 : decode cX9_add 6 = .ok (.istore_n 3, 1) := by decide +kernel
theorem dX9_add_7 : decode cX9_add 7 = .ok (.iload_n 2, 1) := by decide +kernel
theorem dX9_add_8 : decode cX9_add 8 = .ok (.invokestatic 102, 3) := by decide +kernel
theorem dX9_add_11 : decode cX9_add 11 = .ok (.ifCond .eq 21, 3) := by decide +kernel
theorem dX9_add_14 : decode cX9_add 14 = .ok (.iload_n 1, 1) := by decide +kernel
theorem dX9_add_15 : decode cX9_add 15 = .ok (.ifCond .lt 17, 3) := by decide +kernel
theorem dX9_add_18 : decode cX9_add 18 = .ok (.iload_n 3, 1) := by decide +kernel
theorem dX9_add_19 : decode cX9_add 19 = .ok (.ifCond .lt 15, 3) := by decide +kernel
theorem dX9_add_22 : decode cX9_add 22 = .ok (.iload_n 1, 1) := by decide +kernel
theorem dX9_add_23 : decode cX9_add 23 = .ok (.aload_n 0, 1) := by decide +kernel
theorem dX9_add_24 : decode cX9_add 24 = .ok (.getfield 22, 3) := by decide +kernel
theorem dX9_add_27 : decode cX9_add 27 = .ok (.iload_n 3, 1) := by decide +kernel
theorem dX9_add_28 : decode cX9_add 28 = .ok (.iaload, 1) := by decide +kernel
theorem dX9_add_29 : decode cX9_add 29 = .ok (.if_icmp .le 5, 3) := by decide +kernel
theorem dX9_add_32 : decode cX9_add 32 = .ok (.iconst (-1), 1) := by decide +kernel
theorem dX9_add_33 : decode cX9_add 33 = .ok (.ireturn, 1) := by decide +kernel
theorem dX9_add_34 : decode cX9_add 34 = .ok (.iload_n 3, 1) := by decide +kernel
theorem dX9_add_35 : decode cX9_add 35 = .ok (.ifCond .ge 6, 3) := by decide +kernel
theorem dX9_add_38 : decode cX9_add 38 = .ok (.bipush (-3), 2) := by decide +kernel
theorem dX9_add_40 : decode cX9_add 40 = .ok (.ireturn, 1) := by decide +kernel
theorem dX9_add_41 : decode cX9_add 41 = .ok (.aload_n 0, 1) := by decide +kernel
theorem dX9_add_42 : decode cX9_add 42 = .ok (.getfield 22, 3) := by decide +kernel
theorem dX9_add_45 : decode cX9_add 45 = .ok (.iload_n 3, 1) := by decide +kernel
theorem dX9_add_46 : decode cX9_add 46 = .ok (.iaload, 1) := by decide +kernel
theorem dX9_add_47 : decode cX9_add 47 = .ok (.bipush 12, 2) := by decide +kernel
theorem dX9_add_49 : decode cX9_add 49 = .ok (.if_icmp .ne 6, 3) := by decide +kernel
theorem dX9_add_52 : decode cX9_add 52 = .ok (.bipush (-4), 2) := by decide +kernel
theorem dX9_add_54 : decode cX9_add 54 = .ok (.ireturn, 1) := by decide +kernel
theorem dX9_add_55 : decode cX9_add 55 = .ok (.aload_n 0, 1) := by decide +kernel
theorem dX9_add_56 : decode cX9_add 56 = .ok (.getfield 22, 3) := by decide +kernel
theorem dX9_add_59 : decode cX9_add 59 = .ok (.iload_n 3, 1) := by decide +kernel
theorem dX9_add_60 : decode cX9_add 60 = .ok (.iaload, 1) := by decide +kernel
theorem dX9_add_61 : decode cX9_add 61 = .ok (.istore 4, 2) := by decide +kernel
theorem dX9_add_63 : decode cX9_add 63 = .ok (.iload 4, 2) := by decide +kernel
theorem dX9_add_65 : decode cX9_add 65 = .ok (.iload_n 1, 1) := by decide +kernel
theorem dX9_add_66 : decode cX9_add 66 = .ok (.if_icmp .le 30, 3) := by decide +kernel
theorem dX9_add_69 : decode cX9_add 69 = .ok (.aload_n 0, 1) := by decide +kernel
theorem dX9_add_70 : decode cX9_add 70 = .ok (.getfield 25, 3) := by decide +kernel
theorem dX9_add_73 : decode cX9_add 73 = .ok (.bipush 14, 2) := by decide +kernel
theorem dX9_add_75 : decode cX9_add 75 = .ok (.iload_n 3, 1) := by decide +kernel
theorem dX9_add_76 : decode cX9_add 76 = .ok (.imul, 1) := by decide +kernel
theorem dX9_add_77 : decode cX9_add 77 = .ok (.iload 4, 2) := by decide +kernel
theorem dX9_add_79 : decode cX9_add 79 = .ok (.iadd, 1) := by decide +kernel
theorem dX9_add_80 : decode cX9_add 80 = .ok (.aload_n 0, 1) := by decide +kernel
theorem dX9_add_81 : decode cX9_add 81 = .ok (.iload_n 3, 1) := by decide +kernel
theorem dX9_add_82 : decode cX9_add 82 = .ok (.iload 4, 2) := by decide +kernel
theorem dX9_add_84 : decode cX9_add 84 = .ok (.iconst 1, 1) := by decide +kernel
theorem dX9_add_85 : decode cX9_add 85 = .ok (.isub, 1) := by decide +kernel
theorem dX9_add_86 : decode cX9_add 86 = .ok (.invokevirtual 108, 3) := by decide +kernel
theorem dX9_add_89 : decode cX9_add 89 = .ok (.iastore, 1) := by decide +kernel
theorem dX9_add_90 : decode cX9_add 90 = .ok (.iinc 4 (-1), 3) := by decide +kernel
theorem dX9_add_93 : decode cX9_add 93 = .ok (.goto (-30), 3) := by decide +kernel
theorem dX9_add_96 : decode cX9_add 96 = .ok (.aload_n 0, 1) := by decide +kernel
theorem dX9_add_97 : decode cX9_add 97 = .ok (.getfield 25, 3) := by decide +kernel
theorem dX9_add_100 : decode cX9_add 100 = .ok (.bipush 14, 2) := by decide +kernel
theorem dX9_add_102 : decode cX9_add 102 = .ok (.iload_n 3, 1) := by decide +kernel
theorem dX9_add_103 : decode cX9_add 103 = .ok (.imul, 1) := by decide +kernel
theorem dX9_add_104 : decode cX9_add 104 = .ok (.iload_n 1, 1) := by decide +kernel
theorem dX9_add_105 : decode cX9_add 105 = .ok (.iadd, 1) := by decide +kernel
theorem dX9_add_106 : decode cX9_add 106 = .ok (.iload_n 2, 1) := by decide +kernel
theorem dX9_add_107 : decode cX9_add 107 = .ok (.iastore, 1) := by decide +kernel
theorem dX9_add_108 : decode cX9_add 108 = .ok (.aload_n 0, 1) := by decide +kernel
theorem dX9_add_109 : decode cX9_add 109 = .ok (.getfield 22, 3) := by decide +kernel
theorem dX9_add_112 : decode cX9_add 112 = .ok (.iload_n 3, 1) := by decide +kernel
theorem dX9_add_113 : decode cX9_add 113 = .ok (.dup2, 1) := by decide +kernel
theorem dX9_add_114 : decode cX9_add 114 = .ok (.iaload, 1) := by decide +kernel
theorem dX9_add_115 : decode cX9_add 115 = .ok (.iconst 1, 1) := by decide +kernel
theorem dX9_add_116 : decode cX9_add 116 = .ok (.iadd, 1) := by decide +kernel
theorem dX9_add_117 : decode cX9_add 117 = .ok (.iastore, 1) := by decide +kernel
theorem dX9_add_118 : decode cX9_add 118 = .ok (.aload_n 0, 1) := by decide +kernel
theorem dX9_add_119 : decode cX9_add 119 = .ok (.getfield 22, 3) := by decide +kernel
theorem dX9_add_122 : decode cX9_add 122 = .ok (.iload_n 3, 1) := by decide +kernel
theorem dX9_add_123 : decode cX9_add 123 = .ok (.iaload, 1) := by decide +kernel
theorem dX9_add_124 : decode cX9_add 124 = .ok (.ireturn, 1) := by decide +kernel
set_option maxRecDepth 20000 in
theorem ggX9_isWithin_X9_wordAt : GoodIn wsX9_isWithin wsX9_wordAt := goodIn_r _ [8, 9, 10, 11, 12, 13, 14, 15, 16, 17, 18, 19, 20, 21, 22, 23, 24, 25, 26, 27, 28, 29, 30, 31, 32, 33, 34, 35] (by decide +kernel) (by decide +kernel)
set_option maxRecDepth 20000 in
theorem gX9_isWithin_X9_wordAt : GoodIn wsX9_isWithin (wsV RX9 108 RX9 yX9_wordAt wsX9_wordAt) := goodIn_app (goodIn_of _ (by decide +kernel)) ggX9_isWithin_X9_wordAt
theorem dX9_isWithin_0 : decode cX9_isWithin 0 = .ok (.iconst 0, 1) := by decide +kernel
theorem dX9_isWithin_1 : decode cX9_isWithin 1 = .ok (.istore_n 3, 1) := by decide +kernel
theorem dX9_isWithin_2 : decode cX9_isWithin 2 = .ok (.iconst 0, 1) := by decide +kernel
theorem dX9_isWithin_3 : decode cX9_isWithin 3 = .ok (.istore 4, 2) := by decide +kernel
theorem dX9_isWithin_5 : decode cX9_isWithin 5 = .ok (.iload 4, 2) := by decide +kernel
theorem dX9_isWithin_7 : decode cX9_isWithin 7 = .ok (.aload_n 0, 1) := by decide +kernel
theorem dX9_isWithin_8 : decode cX9_isWithin 8 = .ok (.getfield 22, 3) := by decide +kernel
theorem dX9_isWithin_11 : decode cX9_isWithin 11 = .ok (.iload_n 2, 1) := by decide +kernel
theorem dX9_isWithin_12 : decode cX9_isWithin 12 = .ok (.iaload, 1) := by decide +kernel
theorem dX9_isWithin_13 : decode cX9_isWithin 13 = .ok (.if_icmp .ge 46, 3) := by decide +kernel
theorem dX9_isWithin_16 : decode cX9_isWithin 16 = .ok (.iload_n 3, 1) := by decide +kernel
theorem dX9_isWithin_17 : decode cX9_isWithin 17 = .ok (.aload_n 0, 1) := by decide +kernel
theorem dX9_isWithin_18 : decode cX9_isWithin 18 = .ok (.getfield 22, 3) := by decide +kernel
theorem dX9_isWithin_21 : decode cX9_isWithin 21 = .ok (.iload_n 1, 1) := by decide +kernel
theorem dX9_isWithin_22 : decode cX9_isWithin 22 = .ok (.iaload, 1) := by decide +kernel
theorem dX9_isWithin_23 : decode cX9_isWithin 23 = .ok (.if_icmp .ge 36, 3) := by decide +kernel
theorem dX9_isWithin_26 : decode cX9_isWithin 26 = .ok (.aload_n 0, 1) := by decide +kernel
theorem dX9_isWithin_27 : decode cX9_isWithin 27 = .ok (.iload_n 2, 1) := by decide +kernel
theorem dX9_isWithin_28 : decode cX9_isWithin 28 = .ok (.iload 4, 2) := by decide +kernel
theorem dX9_isWithin_30 : decode cX9_isWithin 30 = .ok (.invokevirtual 108, 3) := by decide +kernel
theorem dX9_isWithin_33 : decode cX9_isWithin 33 = .ok (.aload_n 0, 1) := by decide +kernel
theorem dX9_isWithin_34 : decode cX9_isWithin 34 = .ok (.iload_n 1, 1) := by decide +kernel
theorem dX9_isWithin_35 : decode cX9_isWithin 35 = .ok (.iload_n 3, 1) := by decide +kernel
theorem dX9_isWithin_36 : decode cX9_isWithin 36 = .ok (.invokevirtual 108, 3) := by decide +kernel
theorem dX9_isWithin_39 : decode cX9_isWithin 39 = .ok (.if_icmp .ne 14, 3) := by decide +kernel
theorem dX9_isWithin_42 : decode cX9_isWithin 42 = .ok (.aload_n 0, 1) := by decide +kernel
theorem dX9_isWithin_43 : decode cX9_isWithin 43 = .ok (.getfield 34, 3) := by decide +kernel
theorem dX9_isWithin_46 : decode cX9_isWithin 46 = .ok (.iload_n 3, 1) := by decide +kernel
theorem dX9_isWithin_47 : decode cX9_isWithin 47 = .ok (.iload 4, 2) := by decide +kernel
theorem dX9_isWithin_49 : decode cX9_isWithin 49 = .ok (.iastore, 1) := by decide +kernel
theorem dX9_isWithin_50 : decode cX9_isWithin 50 = .ok (.iinc 3 1, 3) := by decide +kernel
theorem dX9_isWithin_53 : decode cX9_isWithin 53 = .ok (.iinc 4 1, 3) := by decide +kernel
theorem dX9_isWithin_56 : decode cX9_isWithin 56 = .ok (.goto (-51), 3) := by decide +kernel
theorem dX9_isWithin_59 : decode cX9_isWithin 59 = .ok (.iload_n 3, 1) := by decide +kernel
theorem dX9_isWithin_60 : decode cX9_isWithin 60 = .ok (.aload_n 0, 1) := by decide +kernel
theorem dX9_isWithin_61 : decode cX9_isWithin 61 = .ok (.getfield 22, 3) := by decide +kernel
theorem dX9_isWithin_64 : decode cX9_isWithin 64 = .ok (.iload_n 1, 1) := by decide +kernel
theorem dX9_isWithin_65 : decode cX9_isWithin 65 = .ok (.iaload, 1) := by decide +kernel
theorem dX9_isWithin_66 : decode cX9_isWithin 66 = .ok (.if_icmp .ge 5, 3) := by decide +kernel
theorem dX9_isWithin_69 : decode cX9_isWithin 69 = .ok (.iconst 0, 1) := by decide +kernel
theorem dX9_isWithin_70 : decode cX9_isWithin 70 = .ok (.ireturn, 1) := by decide +kernel
theorem dX9_isWithin_71 : decode cX9_isWithin 71 = .ok (.iinc 3 (-1), 3) := by decide +kernel
theorem dX9_isWithin_74 : decode cX9_isWithin 74 = .ok (.aload_n 0, 1) := by decide +kernel
theorem dX9_isWithin_75 : decode cX9_isWithin 75 = .ok (.getfield 22, 3) := by decide +kernel
theorem dX9_isWithin_78 : decode cX9_isWithin 78 = .ok (.iload_n 2, 1) := by decide +kernel
theorem dX9_isWithin_79 : decode cX9_isWithin 79 = .ok (.iaload, 1) := by decide +kernel
theorem dX9_isWithin_80 : decode cX9_isWithin 80 = .ok (.iconst 1, 1) := by decide +kernel
theorem dX9_isWithin_81 : decode cX9_isWithin 81 = .ok (.isub, 1) := by decide +kernel
theorem dX9_isWithin_82 : decode cX9_isWithin 82 = .ok (.istore 4, 2) := by decide +kernel
theorem dX9_isWithin_84 : decode cX9_isWithin 84 = .ok (.iload 4, 2) := by decide +kernel
theorem dX9_isWithin_86 : decode cX9_isWithin 86 = .ok (.ifCond .lt 40, 3) := by decide +kernel
theorem dX9_isWithin_89 : decode cX9_isWithin 89 = .ok (.iload_n 3, 1) := by decide +kernel
theorem dX9_isWithin_90 : decode cX9_isWithin 90 = .ok (.ifCond .lt 36, 3) := by decide +kernel
theorem dX9_isWithin_93 : decode cX9_isWithin 93 = .ok (.aload_n 0, 1) := by decide +kernel
theorem dX9_isWithin_94 : decode cX9_isWithin 94 = .ok (.iload_n 2, 1) := by decide +kernel
theorem dX9_isWithin_95 : decode cX9_isWithin 95 = .ok (.iload 4, 2) := by decide +kernel
theorem dX9_isWithin_97 : decode cX9_isWithin 97 = .ok (.invokevirtual 108, 3) := by decide +kernel
theorem dX9_isWithin_100 : decode cX9_isWithin 100 = .ok (.aload_n 0, 1) := by decide +kernel
theorem dX9_isWithin_101 : decode cX9_isWithin 101 = .ok (.iload_n 1, 1) := by decide +kernel
theorem dX9_isWithin_102 : decode cX9_isWithin 102 = .ok (.iload_n 3, 1) := by decide +kernel
theorem dX9_isWithin_103 : decode cX9_isWithin 103 = .ok (.invokevirtual 108, 3) := by decide +kernel
theorem dX9_isWithin_106 : decode cX9_isWithin 106 = .ok (.if_icmp .ne 14, 3) := by decide +kernel
theorem dX9_isWithin_109 : decode cX9_isWithin 109 = .ok (.aload_n 0, 1) := by decide +kernel
theorem dX9_isWithin_110 : decode cX9_isWithin 110 = .ok (.getfield 37, 3) := by decide +kernel
theorem dX9_isWithin_113 : decode cX9_isWithin 113 = .ok (.iload_n 3, 1) := by decide +kernel
theorem dX9_isWithin_114 : decode cX9_isWithin 114 = .ok (.iload 4, 2) := by decide +kernel
theorem dX9_isWithin_116 : decode cX9_isWithin 116 = .ok (.iastore, 1) := by decide +kernel
theorem dX9_isWithin_117 : decode cX9_isWithin 117 = .ok (.iinc 3 (-1), 3) := by decide +kernel
theorem dX9_isWithin_120 : decode cX9_isWithin 120 = .ok (.iinc 4 (-1), 3) := by decide +kernel
theorem dX9_isWithin_123 : decode cX9_isWithin 123 = .ok (.goto (-39), 3) := by decide +kernel
theorem dX9_isWithin_126 : decode cX9_isWithin 126 = .ok (.iconst 1, 1) := by decide +kernel
theorem dX9_isWithin_127 : decode cX9_isWithin 127 = .ok (.ireturn, 1) := by decide +kernel
set_option maxRecDepth 20000 in
theorem ggX9_within_X9_isDay : GoodIn wsX9_within wsX9_isDay := goodIn_r _ [5, 6, 19, 20, 21, 22, 23, 24, 25, 26, 27, 28, 29, 30, 31, 32, 33, 34, 35, 36, 37, 38, 39, 40, 41, 42, 43, 44] (by decide +kernel) (by decide +kernel)
set_option maxRecDepth 20000 in
theorem gX9_within_X9_isDay : GoodIn wsX9_within (wsV RX9 105 RX9 yX9_isDay wsX9_isDay) := goodIn_app (goodIn_of _ (by decide +kernel)) ggX9_within_X9_isDay
set_option maxRecDepth 20000 in
theorem ggX9_within_X9_isWithin : GoodIn wsX9_within wsX9_isWithin := goodIn_r _ [10, 11, 12, 13, 14, 15, 16, 4, 17, 18, 19, 20, 21, 22, 23, 24, 25, 26, 27, 28, 29, 30, 31, 32, 33, 34, 35, 36, 37, 38, 39, 40, 41, 42, 43, 44] (by decide +kernel) (by decide +kernel)
set_option maxRecDepth 20000 in
theorem gX9_within_X9_isWithin : GoodIn wsX9_within (wsV RX9 112 RX9 yX9_isWithin wsX9_isWithin) := goodIn_app (goodIn_of _ (by decide +kernel)) ggX9_within_X9_isWithin
theorem dX9_within_0 : decode cX9_within 0 = .ok (.aload_n 0, 1) := by decide +kernel
theorem dX9_within_1 : decode cX9_within 1 = .ok (.iload_n 1, 1) := by decide +kernel
theorem dX9_within_2 : decode cX9_within 2 = .ok (.invokevirtual 105, 3) := by decide +kernel
theorem dX9_within_5 : decode cX9_within 5 = .ok (.ifCond .eq 11, 3) := by decide +kernel
theorem dX9_within_8 : decode cX9_within 8 = .ok (.aload_n 0, 1) := by decide +kernel
theorem dX9_within_9 : decode cX9_within 9 = .ok (.iload_n 2, 1) := by decide +kernel
theorem dX9_within_10 : decode cX9_within 10 = .ok (.invokevirtual 105, 3) := by decide +kernel
theorem dX9_within_13 : decode cX9_within 13 = .ok (.ifCond .ne 5, 3) := by decide +kernel
theorem dX9_within_16 : decode cX9_within 16 = .ok (.iconst (-1), 1) := by decide +kernel
theorem dX9_within_17 : decode cX9_within 17 = .ok (.ireturn, 1) := by decide +kernel
theorem dX9_within_18 : decode cX9_within 18 = .ok (.aload_n 0, 1) := by decide +kernel
theorem dX9_within_19 : decode cX9_within 19 = .ok (.iload_n 1, 1) := by decide +kernel
theorem dX9_within_20 : decode cX9_within 20 = .ok (.iload_n 2, 1) := by decide +kernel
theorem dX9_within_21 : decode cX9_within 21 = .ok (.invokevirtual 112, 3) := by decide +kernel
theorem dX9_within_24 : decode cX9_within 24 = .ok (.ifCond .eq 7, 3) := by decide +kernel
theorem dX9_within_27 : decode cX9_within 27 = .ok (.iconst 1, 1) := by decide +kernel
theorem dX9_within_28 : decode cX9_within 28 = .ok (.goto 4, 3) := by decide +kernel
theorem dX9_within_31 : decode cX9_within 31 = .ok (.iconst 0, 1) := by decide +kernel
theorem dX9_within_32 : decode cX9_within 32 = .ok (.ireturn, 1) := by decide +kernel
set_option maxRecDepth 20000 in
theorem ggX9_leftOut_X9_isWithin : GoodIn wsX9_leftOut wsX9_isWithin := goodIn_r _ [6, 7, 8, 9, 10, 11, 12, 5, 13, 14, 15, 16, 17, 18, 19, 20, 21, 22, 23, 24, 25, 26, 27, 28, 29, 30, 31, 32, 33, 34, 35, 36, 37, 38, 39, 40] (by decide +kernel) (by decide +kernel)
set_option maxRecDepth 20000 in
theorem gX9_leftOut_X9_isWithin : GoodIn wsX9_leftOut (wsV RX9 112 RX9 yX9_isWithin wsX9_isWithin) := goodIn_app (goodIn_of _ (by decide +kernel)) ggX9_leftOut_X9_isWithin
theorem dX9_leftOut_0 : decode cX9_leftOut 0 = .ok (.iconst 1, 1) := by decide +kernel
theorem dX9_leftOut_1 : decode cX9_leftOut 1 = .ok (.istore_n 1, 1) := by decide +kernel
theorem dX9_leftOut_2 : decode cX9_leftOut 2 = .ok (.iload_n 1, 1) := by decide +kernel
theorem dX9_leftOut_3 : decode cX9_leftOut 3 = .ok (.aload_n 0, 1) := by decide +kernel
theorem dX9_leftOut_4 : decode cX9_leftOut 4 = .ok (.getfield 75, 3) := by decide +kernel
theorem dX9_leftOut_7 : decode cX9_leftOut 7 = .ok (.if_icmp .ge 22, 3) := by decide +kernel
theorem dX9_leftOut_10 : decode cX9_leftOut 10 = .ok (.aload_n 0, 1) := by decide +kernel
theorem dX9_leftOut_11 : decode cX9_leftOut 11 = .ok (.iload_n 1, 1) := by decide +kernel
theorem dX9_leftOut_12 : decode cX9_leftOut 12 = .ok (.iconst 1, 1) := by decide +kernel
theorem dX9_leftOut_13 : decode cX9_leftOut 13 = .ok (.isub, 1) := by decide +kernel
theorem dX9_leftOut_14 : decode cX9_leftOut 14 = .ok (.iload_n 1, 1) := by decide +kernel
theorem dX9_leftOut_15 : decode cX9_leftOut 15 = .ok (.invokevirtual 112, 3) := by decide +kernel
theorem dX9_leftOut_18 : decode cX9_leftOut 18 = .ok (.ifCond .ne 5, 3) := by decide +kernel
theorem dX9_leftOut_21 : decode cX9_leftOut 21 = .ok (.iload_n 1, 1) := by decide +kernel
theorem dX9_leftOut_22 : decode cX9_leftOut 22 = .ok (.ireturn, 1) := by decide +kernel
theorem dX9_leftOut_23 : decode cX9_leftOut 23 = .ok (.iinc 1 1, 3) := by decide +kernel
theorem dX9_leftOut_26 : decode cX9_leftOut 26 = .ok (.goto (-24), 3) := by decide +kernel
theorem dX9_leftOut_29 : decode cX9_leftOut 29 = .ok (.bipush (-9), 2) := by decide +kernel
theorem dX9_leftOut_31 : decode cX9_leftOut 31 = .ok (.ireturn, 1) := by decide +kernel
theorem dX9_saidBy_0 : decode cX9_saidBy 0 = .ok (.iconst 0, 1) := by decide +kernel
theorem dX9_saidBy_1 : decode cX9_saidBy 1 = .ok (.istore_n 2, 1) := by decide +kernel
theorem dX9_saidBy_2 : decode cX9_saidBy 2 = .ok (.iconst 0, 1) := by decide +kernel
theorem dX9_saidBy_3 : decode cX9_saidBy 3 = .ok (.istore_n 3, 1) := by decide +kernel
theorem dX9_saidBy_4 : decode cX9_saidBy 4 = .ok (.bipush (-9), 2) := by decide +kernel
theorem dX9_saidBy_6 : decode cX9_saidBy 6 = .ok (.istore 4, 2) := by decide +kernel
theorem dX9_saidBy_8 : decode cX9_saidBy 8 = .ok (.iconst 0, 1) := by decide +kernel
theorem dX9_saidBy_9 : decode cX9_saidBy 9 = .ok (.istore 5, 2) := by decide +kernel
theorem dX9_saidBy_11 : decode cX9_saidBy 11 = .ok (.iload 5, 2) := by decide +kernel
theorem dX9_saidBy_13 : decode cX9_saidBy 13 = .ok (.iload_n 1, 1) := by decide +kernel
theorem dX9_saidBy_14 : decode cX9_saidBy 14 = .ok (.if_icmp .ge 100, 3) := by decide +kernel
theorem dX9_saidBy_17 : decode cX9_saidBy 17 = .ok (.aload_n 0, 1) := by decide +kernel
theorem dX9_saidBy_18 : decode cX9_saidBy 18 = .ok (.getfield 40, 3) := by decide +kernel
theorem dX9_saidBy_21 : decode cX9_saidBy 21 = .ok (.iload 5, 2) := by decide +kernel
theorem dX9_saidBy_23 : decode cX9_saidBy 23 = .ok (.iaload, 1) := by decide +kernel
theorem dX9_saidBy_24 : decode cX9_saidBy 24 = .ok (.istore 6, 2) := by decide +kernel
theorem dX9_saidBy_26 : decode cX9_saidBy 26 = .ok (.aload_n 0, 1) := by decide +kernel
theorem dX9_saidBy_27 : decode cX9_saidBy 27 = .ok (.getfield 19, 3) := by decide +kernel
theorem dX9_saidBy_30 : decode cX9_saidBy 30 = .ok (.iload 6, 2) := by decide +kernel
theorem dX9_saidBy_32 : decode cX9_saidBy 32 = .ok (.iaload, 1) := by decide +kernel
theorem dX9_saidBy_33 : decode cX9_saidBy 33 = .ok (.ifCond .ne 36, 3) := by decide +kernel
theorem dX9_saidBy_36 : decode cX9_saidBy 36 = .ok (.iload_n 3, 1) := by decide +kernel
theorem dX9_saidBy_37 : decode cX9_saidBy 37 = .ok (.ifCond .eq 16, 3) := by decide +kernel
theorem dX9_saidBy_40 : decode cX9_saidBy 40 = .ok (.iload_n 2, 1) := by decide +kernel
theorem dX9_saidBy_41 : decode cX9_saidBy 41 = .ok (.sipush 255, 3) := by decide +kernel
theorem dX9_saidBy_44 : decode cX9_saidBy 44 = .ok (.iconst 1, 1) := by decide +kernel
theorem dX9_saidBy_45 : decode cX9_saidBy 45 = .ok (.iload 6, 2) := by decide +kernel
theorem dX9_saidBy_47 : decode cX9_saidBy 47 = .ok (.ishl, 1) := by decide +kernel
theorem dX9_saidBy_48 : decode cX9_saidBy 48 = .ok (.isub, 1) := by decide +kernel
theorem dX9_saidBy_49 : decode cX9_saidBy 49 = .ok (.iand, 1) := by decide +kernel
theorem dX9_saidBy_50 : decode cX9_saidBy 50 = .ok (.goto 9, 3) := by decide +kernel
theorem dX9_saidBy_53 : decode cX9_saidBy 53 = .ok (.iload_n 2, 1) := by decide +kernel
theorem dX9_saidBy_54 : decode cX9_saidBy 54 = .ok (.iconst 1, 1) := by decide +kernel
theorem dX9_saidBy_55 : decode cX9_saidBy 55 = .ok (.iload 6, 2) := by decide +kernel
theorem dX9_saidBy_57 : decode cX9_saidBy 57 = .ok (.ishl, 1) := by decide +kernel
theorem dX9_saidBy_58 : decode cX9_saidBy 58 = .ok (.ior, 1) := by decide +kernel
theorem dX9_saidBy_59 : decode cX9_saidBy 59 = .ok (.istore_n 2, 1) := by decide +kernel
theorem dX9_saidBy_60 : decode cX9_saidBy 60 = .ok (.iconst 0, 1) := by decide +kernel
theorem dX9_saidBy_61 : decode cX9_saidBy 61 = .ok (.istore_n 3, 1) := by decide +kernel
theorem dX9_saidBy_62 : decode cX9_saidBy 62 = .ok (.iload 6, 2) := by decide +kernel
theorem dX9_saidBy_64 : decode cX9_saidBy 64 = .ok (.istore 4, 2) := by decide +kernel
theorem dX9_saidBy_66 : decode cX9_saidBy 66 = .ok (.goto 42, 3) := by decide +kernel
theorem dX9_saidBy_69 : decode cX9_saidBy 69 = .ok (.iload_n 3, 1) := by decide +kernel
theorem dX9_saidBy_70 : decode cX9_saidBy 70 = .ok (.ifCond .ne 7, 3) := by decide +kernel
theorem dX9_saidBy_73 : decode cX9_saidBy 73 = .ok (.iconst 1, 1) := by decide +kernel
theorem dX9_saidBy_74 : decode cX9_saidBy 74 = .ok (.goto 4, 3) := by decide +kernel
theorem dX9_saidBy_77 : decode cX9_saidBy 77 = .ok (.iconst 0, 1) := by decide +kernel
theorem dX9_saidBy_78 : decode cX9_saidBy 78 = .ok (.istore_n 3, 1) := by decide +kernel
theorem dX9_saidBy_79 : decode cX9_saidBy 79 = .ok (.aload_n 0, 1) := by decide +kernel
theorem dX9_saidBy_80 : decode cX9_saidBy 80 = .ok (.getfield 19, 3) := by decide +kernel
theorem dX9_saidBy_83 : decode cX9_saidBy 83 = .ok (.iload 6, 2) := by decide +kernel
theorem dX9_saidBy_85 : decode cX9_saidBy 85 = .ok (.iaload, 1) := by decide +kernel
theorem dX9_saidBy_86 : decode cX9_saidBy 86 = .ok (.iconst 2, 1) := by decide +kernel
theorem dX9_saidBy_87 : decode cX9_saidBy 87 = .ok (.if_icmp .ne 21, 3) := by decide +kernel
theorem dX9_saidBy_90 : decode cX9_saidBy 90 = .ok (.iload 4, 2) := by decide +kernel
theorem dX9_saidBy_92 : decode cX9_saidBy 92 = .ok (.bipush (-9), 2) := by decide +kernel
theorem dX9_saidBy_94 : decode cX9_saidBy 94 = .ok (.if_icmp .eq 14, 3) := by decide +kernel
theorem dX9_saidBy_97 : decode cX9_saidBy 97 = .ok (.iload_n 2, 1) := by decide +kernel
theorem dX9_saidBy_98 : decode cX9_saidBy 98 = .ok (.sipush 255, 3) := by decide +kernel
theorem dX9_saidBy_101 : decode cX9_saidBy 101 = .ok (.iconst 1, 1) := by decide +kernel
theorem dX9_saidBy_102 : decode cX9_saidBy 102 = .ok (.iload 4, 2) := by decide +kernel
theorem dX9_saidBy_104 : decode cX9_saidBy 104 = .ok (.ishl, 1) := by decide +kernel
theorem dX9_saidBy_105 : decode cX9_saidBy 105 = .ok (.isub, 1) := by decide +kernel
theorem dX9_saidBy_106 : decode cX9_saidBy 106 = .ok (.iand, 1) := by decide +kernel
theorem dX9_saidBy_107 : decode cX9_saidBy 107 = .ok (.istore_n 2, 1) := by decide +kernel
theorem dX9_saidBy_108 : decode cX9_saidBy 108 = .ok (.iinc 5 1, 3) := by decide +kernel
theorem dX9_saidBy_111 : decode cX9_saidBy 111 = .ok (.goto (-100), 3) := by decide +kernel
theorem dX9_saidBy_114 : decode cX9_saidBy 114 = .ok (.iload_n 2, 1) := by decide +kernel
theorem dX9_saidBy_115 : decode cX9_saidBy 115 = .ok (.ireturn, 1) := by decide +kernel
set_option maxRecDepth 20000 in
theorem ggX9_said_X9_isDay : GoodIn wsX9_said wsX9_isDay := goodIn_r _ [5, 6, 23, 24, 25, 26, 27, 28, 29, 30, 31, 32, 33, 34, 35, 36, 37, 38, 39, 40, 41, 42, 43, 44, 45, 46, 47, 48] (by decide +kernel) (by decide +kernel)
set_option maxRecDepth 20000 in
theorem gX9_said_X9_isDay : GoodIn wsX9_said (wsV RX9 105 RX9 yX9_isDay wsX9_isDay) := goodIn_app (goodIn_of _ (by decide +kernel)) ggX9_said_X9_isDay
set_option maxRecDepth 20000 in
theorem ggX9_said_X9_saidWith : GoodIn wsX9_said wsX9_saidWith := goodIn_r _ [10, 11, 12, 13, 14, 15, 4, 16, 17, 18, 19, 20, 21, 22, 23, 24, 25, 26, 27, 28, 29, 30, 31, 32, 33, 34, 35, 36, 37, 38, 39, 40, 41, 42, 43, 44, 45, 46, 47, 48] (by decide +kernel) (by decide +kernel)
set_option maxRecDepth 20000 in
theorem gX9_said_X9_saidWith : GoodIn wsX9_said (wsV RX9 116 RX9 yX9_saidWith wsX9_saidWith) := goodIn_app (goodIn_of _ (by decide +kernel)) ggX9_said_X9_saidWith
theorem dX9_said_0 : decode cX9_said 0 = .ok (.aload_n 0, 1) := by decide +kernel
theorem dX9_said_1 : decode cX9_said 1 = .ok (.iload_n 1, 1) := by decide +kernel
theorem dX9_said_2 : decode cX9_said 2 = .ok (.invokevirtual 105, 3) := by decide +kernel
theorem dX9_said_5 : decode cX9_said 5 = .ok (.ifCond .ne 5, 3) := by decide +kernel
theorem dX9_said_8 : decode cX9_said 8 = .ok (.iconst (-1), 1) := by decide +kernel
theorem dX9_said_9 : decode cX9_said 9 = .ok (.ireturn, 1) := by decide +kernel
theorem dX9_said_10 : decode cX9_said 10 = .ok (.aload_n 0, 1) := by decide +kernel
theorem dX9_said_11 : decode cX9_said 11 = .ok (.iload_n 1, 1) := by decide +kernel
theorem dX9_said_12 : decode cX9_said 12 = .ok (.bipush (-9), 2) := by decide +kernel
theorem dX9_said_14 : decode cX9_said 14 = .ok (.bipush (-9), 2) := by decide +kernel
theorem dX9_said_16 : decode cX9_said 16 = .ok (.invokevirtual 116, 3) := by decide +kernel
theorem dX9_said_19 : decode cX9_said 19 = .ok (.ireturn, 1) := by decide +kernel
set_option maxRecDepth 20000 in
theorem ggX9_saidWith_X9_wordAt : GoodIn wsX9_saidWith wsX9_wordAt := goodIn_r _ [7, 8, 14, 15, 16, 17, 18, 19, 20, 21, 22, 23, 24, 25, 26, 27, 28, 29, 30, 31, 32, 33, 34, 35, 36, 37, 38, 39] (by decide +kernel) (by decide +kernel)
set_option maxRecDepth 20000 in
theorem gX9_saidWith_X9_wordAt : GoodIn wsX9_saidWith (wsV RX9 108 RX9 yX9_wordAt wsX9_wordAt) := goodIn_app (goodIn_of _ (by decide +kernel)) ggX9_saidWith_X9_wordAt
set_option maxRecDepth 20000 in
theorem ggX9_saidWith_X9_saidBy : GoodIn wsX9_saidWith wsX9_saidBy := goodIn_r _ [12, 2, 13, 14, 15, 16, 17, 18, 19, 20, 21, 22, 23, 24, 25, 26, 27, 28, 29, 30, 31, 32, 33, 34, 35, 36, 37, 38, 39] (by decide +kernel) (by decide +kernel)
set_option maxRecDepth 20000 in
theorem gX9_saidWith_X9_saidBy : GoodIn wsX9_saidWith (wsV RX9 120 RX9 yX9_saidBy wsX9_saidBy) := goodIn_app (goodIn_of _ (by decide +kernel)) ggX9_saidWith_X9_saidBy
theorem dX9_saidWith_0 : decode cX9_saidWith 0 = .ok (.iconst 0, 1) := by decide +kernel
theorem dX9_saidWith_1 : decode cX9_saidWith 1 = .ok (.istore 4, 2) := by decide +kernel
theorem dX9_saidWith_3 : decode cX9_saidWith 3 = .ok (.iconst 0, 1) := by decide +kernel
theorem dX9_saidWith_4 : decode cX9_saidWith 4 = .ok (.istore 5, 2) := by decide +kernel
theorem dX9_saidWith_6 : decode cX9_saidWith 6 = .ok (.iload 5, 2) := by decide +kernel
theorem dX9_saidWith_8 : decode cX9_saidWith 8 = .ok (.aload_n 0, 1) := by decide +kernel
theorem dX9_saidWith_9 : decode cX9_saidWith 9 = .ok (.getfield 22, 3) := by decide +kernel
theorem dX9_saidWith_12 : decode cX9_saidWith 12 = .ok (.iload_n 1, 1) := by decide +kernel
theorem dX9_saidWith_13 : decode cX9_saidWith 13 = .ok (.iaload, 1) := by decide +kernel
theorem dX9_saidWith_14 : decode cX9_saidWith 14 = .ok (.if_icmp .gt 95, 3) := by decide +kernel
theorem dX9_saidWith_17 : decode cX9_saidWith 17 = .ok (.iload_n 2, 1) := by decide +kernel
theorem dX9_saidWith_18 : decode cX9_saidWith 18 = .ok (.bipush (-9), 2) := by decide +kernel
theorem dX9_saidWith_20 : decode cX9_saidWith 20 = .ok (.if_icmp .eq 26, 3) := by decide +kernel
theorem dX9_saidWith_23 : decode cX9_saidWith 23 = .ok (.iload_n 2, 1) := by decide +kernel
theorem dX9_saidWith_24 : decode cX9_saidWith 24 = .ok (.bipush 10, 2) := by decide +kernel
theorem dX9_saidWith_26 : decode cX9_saidWith 26 = .ok (.idiv, 1) := by decide +kernel
theorem dX9_saidWith_27 : decode cX9_saidWith 27 = .ok (.iload 5, 2) := by decide +kernel
theorem dX9_saidWith_29 : decode cX9_saidWith 29 = .ok (.if_icmp .ne 17, 3) := by decide +kernel
theorem dX9_saidWith_32 : decode cX9_saidWith 32 = .ok (.aload_n 0, 1) := by decide +kernel
theorem dX9_saidWith_33 : decode cX9_saidWith 33 = .ok (.getfield 40, 3) := by decide +kernel
theorem dX9_saidWith_36 : decode cX9_saidWith 36 = .ok (.iload 4, 2) := by decide +kernel
theorem dX9_saidWith_38 : decode cX9_saidWith 38 = .ok (.iload_n 2, 1) := by decide +kernel
theorem dX9_saidWith_39 : decode cX9_saidWith 39 = .ok (.bipush 10, 2) := by decide +kernel
theorem dX9_saidWith_41 : decode cX9_saidWith 41 = .ok (.irem, 1) := by decide +kernel
theorem dX9_saidWith_42 : decode cX9_saidWith 42 = .ok (.iastore, 1) := by decide +kernel
theorem dX9_saidWith_43 : decode cX9_saidWith 43 = .ok (.iinc 4 1, 3) := by decide +kernel
theorem dX9_saidWith_46 : decode cX9_saidWith 46 = .ok (.iload_n 3, 1) := by decide +kernel
theorem dX9_saidWith_47 : decode cX9_saidWith 47 = .ok (.bipush (-9), 2) := by decide +kernel
theorem dX9_saidWith_49 : decode cX9_saidWith 49 = .ok (.if_icmp .eq 26, 3) := by decide +kernel
theorem dX9_saidWith_52 : decode cX9_saidWith 52 = .ok (.iload_n 3, 1) := by decide +kernel
theorem dX9_saidWith_53 : decode cX9_saidWith 53 = .ok (.bipush 10, 2) := by decide +kernel
theorem dX9_saidWith_55 : decode cX9_saidWith 55 = .ok (.idiv, 1) := by decide +kernel
theorem dX9_saidWith_56 : decode cX9_saidWith 56 = .ok (.iload 5, 2) := by decide +kernel
theorem dX9_saidWith_58 : decode cX9_saidWith 58 = .ok (.if_icmp .ne 17, 3) := by decide +kernel
theorem dX9_saidWith_61 : decode cX9_saidWith 61 = .ok (.aload_n 0, 1) := by decide +kernel
theorem dX9_saidWith_62 : decode cX9_saidWith 62 = .ok (.getfield 40, 3) := by decide +kernel
theorem dX9_saidWith_65 : decode cX9_saidWith 65 = .ok (.iload 4, 2) := by decide +kernel
theorem dX9_saidWith_67 : decode cX9_saidWith 67 = .ok (.iload_n 3, 1) := by decide +kernel
theorem dX9_saidWith_68 : decode cX9_saidWith 68 = .ok (.bipush 10, 2) := by decide +kernel
theorem dX9_saidWith_70 : decode cX9_saidWith 70 = .ok (.irem, 1) := by decide +kernel
theorem dX9_saidWith_71 : decode cX9_saidWith 71 = .ok (.iastore, 1) := by decide +kernel
theorem dX9_saidWith_72 : decode cX9_saidWith 72 = .ok (.iinc 4 1, 3) := by decide +kernel
theorem dX9_saidWith_75 : decode cX9_saidWith 75 = .ok (.iload 5, 2) := by decide +kernel
theorem dX9_saidWith_77 : decode cX9_saidWith 77 = .ok (.aload_n 0, 1) := by decide +kernel
theorem dX9_saidWith_78 : decode cX9_saidWith 78 = .ok (.getfield 22, 3) := by decide +kernel
theorem dX9_saidWith_81 : decode cX9_saidWith 81 = .ok (.iload_n 1, 1) := by decide +kernel
theorem dX9_saidWith_82 : decode cX9_saidWith 82 = .ok (.iaload, 1) := by decide +kernel
theorem dX9_saidWith_83 : decode cX9_saidWith 83 = .ok (.if_icmp .ge 20, 3) := by decide +kernel
theorem dX9_saidWith_86 : decode cX9_saidWith 86 = .ok (.aload_n 0, 1) := by decide +kernel
theorem dX9_saidWith_87 : decode cX9_saidWith 87 = .ok (.getfield 40, 3) := by decide +kernel
theorem dX9_saidWith_90 : decode cX9_saidWith 90 = .ok (.iload 4, 2) := by decide +kernel
theorem dX9_saidWith_92 : decode cX9_saidWith 92 = .ok (.aload_n 0, 1) := by decide +kernel
theorem dX9_saidWith_93 : decode cX9_saidWith 93 = .ok (.iload_n 1, 1) := by decide +kernel
theorem dX9_saidWith_94 : decode cX9_saidWith 94 = .ok (.iload 5, 2) := by decide +kernel
theorem dX9_saidWith_96 : decode cX9_saidWith 96 = .ok (.invokevirtual 108, 3) := by decide +kernel
theorem dX9_saidWith_99 : decode cX9_saidWith 99 = .ok (.iastore, 1) := by decide +kernel
theorem dX9_saidWith_100 : decode cX9_saidWith 100 = .ok (.iinc 4 1, 3) := by decide +kernel
theorem dX9_saidWith_103 : decode cX9_saidWith 103 = .ok (.iinc 5 1, 3) := by decide +kernel
theorem dX9_saidWith_106 : decode cX9_saidWith 106 = .ok (.goto (-100), 3) := by decide +kernel
theorem dX9_saidWith_109 : decode cX9_saidWith 109 = .ok (.aload_n 0, 1) := by decide +kernel
theorem dX9_saidWith_110 : decode cX9_saidWith 110 = .ok (.iload 4, 2) := by decide +kernel
theorem dX9_saidWith_112 : decode cX9_saidWith 112 = .ok (.invokevirtual 120, 3) := by decide +kernel
theorem dX9_saidWith_115 : decode cX9_saidWith 115 = .ok (.ireturn, 1) := by decide +kernel
set_option maxRecDepth 20000 in
theorem ggX9_isSo_X9_saidWith : GoodIn wsX9_isSo wsX9_saidWith := goodIn_r _ [5, 6, 7, 8, 9, 10, 4, 11, 12, 13, 14, 15, 16, 17, 18, 19, 20, 21, 22, 23, 24, 25, 26, 27, 28, 29, 30, 31, 32, 33, 34, 35, 36, 37, 38, 39, 40, 41, 42, 43] (by decide +kernel) (by decide +kernel)
set_option maxRecDepth 20000 in
theorem gX9_isSo_X9_saidWith : GoodIn wsX9_isSo (wsV RX9 116 RX9 yX9_saidWith wsX9_saidWith) := goodIn_app (goodIn_of _ (by decide +kernel)) ggX9_isSo_X9_saidWith
theorem dX9_isSo_0 : decode cX9_isSo 0 = .ok (.aload_n 0, 1) := by decide +kernel
theorem dX9_isSo_1 : decode cX9_isSo 1 = .ok (.iload_n 1, 1) := by decide +kernel
theorem dX9_isSo_2 : decode cX9_isSo 2 = .ok (.iload 4, 2) := by decide +kernel
theorem dX9_isSo_4 : decode cX9_isSo 4 = .ok (.iload 5, 2) := by decide +kernel
theorem dX9_isSo_6 : decode cX9_isSo 6 = .ok (.invokevirtual 116, 3) := by decide +kernel
theorem dX9_isSo_9 : decode cX9_isSo 9 = .ok (.iload_n 2, 1) := by decide +kernel
theorem dX9_isSo_10 : decode cX9_isSo 10 = .ok (.ishr, 1) := by decide +kernel
theorem dX9_isSo_11 : decode cX9_isSo 11 = .ok (.iconst 1, 1) := by decide +kernel
theorem dX9_isSo_12 : decode cX9_isSo 12 = .ok (.iand, 1) := by decide +kernel
theorem dX9_isSo_13 : decode cX9_isSo 13 = .ok (.iconst 1, 1) := by decide +kernel
theorem dX9_isSo_14 : decode cX9_isSo 14 = .ok (.if_icmp .ne 7, 3) := by decide +kernel
theorem dX9_isSo_17 : decode cX9_isSo 17 = .ok (.iconst 1, 1) := by decide +kernel
theorem dX9_isSo_18 : decode cX9_isSo 18 = .ok (.goto 4, 3) := by decide +kernel
theorem dX9_isSo_21 : decode cX9_isSo 21 = .ok (.iconst 0, 1) := by decide +kernel
theorem dX9_isSo_22 : decode cX9_isSo 22 = .ok (.iload_n 3, 1) := by decide +kernel
theorem dX9_isSo_23 : decode cX9_isSo 23 = .ok (.if_icmp .ne 7, 3) := by decide +kernel
theorem dX9_isSo_26 : decode cX9_isSo 26 = .ok (.iconst 1, 1) := by decide +kernel
theorem dX9_isSo_27 : decode cX9_isSo 27 = .ok (.goto 4, 3) := by decide +kernel
theorem dX9_isSo_30 : decode cX9_isSo 30 = .ok (.iconst 0, 1) := by decide +kernel
theorem dX9_isSo_31 : decode cX9_isSo 31 = .ok (.ireturn, 1) := by decide +kernel
set_option maxRecDepth 20000 in
theorem ggX9_findPut_X9_isSo : GoodIn wsX9_findPut wsX9_isSo := goodIn_r _ [9, 10, 11, 12, 8, 13, 4, 14, 15, 16, 17, 18, 19, 20, 21, 22, 23, 24, 25, 26, 27, 28, 29, 30, 31, 32, 33, 34, 35, 36, 37, 38, 39, 40, 41, 42, 43, 44, 45, 46, 47, 48, 49, 50] (by decide +kernel) (by decide +kernel)
set_option maxRecDepth 20000 in
theorem gX9_findPut_X9_isSo : GoodIn wsX9_findPut (wsV RX9 123 RX9 yX9_isSo wsX9_isSo) := goodIn_app (goodIn_of _ (by decide +kernel)) ggX9_findPut_X9_isSo
theorem dX9_findPut_0 : decode cX9_findPut 0 = .ok (.aload_n 0, 1) := by decide +kernel
theorem dX9_findPut_1 : decode cX9_findPut 1 = .ok (.aload_n 0, 1) := by decide +kernel
theorem dX9_findPut_2 : decode cX9_findPut 2 = .ok (.iload_n 1, 1) := by decide +kernel
theorem dX9_findPut_3 : decode cX9_findPut 3 = .ok (.iload_n 2, 1) := by decide +kernel
theorem dX9_findPut_4 : decode cX9_findPut 4 = .ok (.iload_n 3, 1) := by decide +kernel
theorem dX9_findPut_5 : decode cX9_findPut 5 = .ok (.bipush (-9), 2) := by decide +kernel
theorem dX9_findPut_7 : decode cX9_findPut 7 = .ok (.bipush (-9), 2) := by decide +kernel
theorem dX9_findPut_9 : decode cX9_findPut 9 = .ok (.invokevirtual 123, 3) := by decide +kernel
theorem dX9_findPut_12 : decode cX9_findPut 12 = .ok (.ifCond .eq 7, 3) := by decide +kernel
theorem dX9_findPut_15 : decode cX9_findPut 15 = .ok (.iconst 0, 1) := by decide +kernel
theorem dX9_findPut_16 : decode cX9_findPut 16 = .ok (.goto 5, 3) := by decide +kernel
theorem dX9_findPut_19 : decode cX9_findPut 19 = .ok (.bipush (-9), 2) := by decide +kernel
theorem dX9_findPut_21 : decode cX9_findPut 21 = .ok (.putfield 127, 3) := by decide +kernel
theorem dX9_findPut_24 : decode cX9_findPut 24 = .ok (.aload_n 0, 1) := by decide +kernel
theorem dX9_findPut_25 : decode cX9_findPut 25 = .ok (.bipush (-9), 2) := by decide +kernel
theorem dX9_findPut_27 : decode cX9_findPut 27 = .ok (.putfield 130, 3) := by decide +kernel
theorem dX9_findPut_30 : decode cX9_findPut 30 = .ok (.aload_n 0, 1) := by decide +kernel
theorem dX9_findPut_31 : decode cX9_findPut 31 = .ok (.bipush (-9), 2) := by decide +kernel
theorem dX9_findPut_33 : decode cX9_findPut 33 = .ok (.putfield 133, 3) := by decide +kernel
theorem dX9_findPut_36 : decode cX9_findPut 36 = .ok (.bipush 10, 2) := by decide +kernel
theorem dX9_findPut_38 : decode cX9_findPut 38 = .ok (.aload_n 0, 1) := by decide +kernel
theorem dX9_findPut_39 : decode cX9_findPut 39 = .ok (.getfield 22, 3) := by decide +kernel
theorem dX9_findPut_42 : decode cX9_findPut 42 = .ok (.iload_n 1, 1) := by decide +kernel
theorem dX9_findPut_43 : decode cX9_findPut 43 = .ok (.iaload, 1) := by decide +kernel
theorem dX9_findPut_44 : decode cX9_findPut 44 = .ok (.imul, 1) := by decide +kernel
theorem dX9_findPut_45 : decode cX9_findPut 45 = .ok (.bipush 8, 2) := by decide +kernel
theorem dX9_findPut_47 : decode cX9_findPut 47 = .ok (.iadd, 1) := by decide +kernel
theorem dX9_findPut_48 : decode cX9_findPut 48 = .ok (.istore 4, 2) := by decide +kernel
theorem dX9_findPut_50 : decode cX9_findPut 50 = .ok (.iconst 0, 1) := by decide +kernel
theorem dX9_findPut_51 : decode cX9_findPut 51 = .ok (.istore 5, 2) := by decide +kernel
theorem dX9_findPut_53 : decode cX9_findPut 53 = .ok (.iload 5, 2) := by decide +kernel
theorem dX9_findPut_55 : decode cX9_findPut 55 = .ok (.iload 4, 2) := by decide +kernel
theorem dX9_findPut_57 : decode cX9_findPut 57 = .ok (.if_icmp .ge 53, 3) := by decide +kernel
theorem dX9_findPut_60 : decode cX9_findPut 60 = .ok (.aload_n 0, 1) := by decide +kernel
theorem dX9_findPut_61 : decode cX9_findPut 61 = .ok (.getfield 127, 3) := by decide +kernel
theorem dX9_findPut_64 : decode cX9_findPut 64 = .ok (.bipush (-9), 2) := by decide +kernel
theorem dX9_findPut_66 : decode cX9_findPut 66 = .ok (.if_icmp .ne 44, 3) := by decide +kernel
theorem dX9_findPut_69 : decode cX9_findPut 69 = .ok (.iload 5, 2) := by decide +kernel
theorem dX9_findPut_71 : decode cX9_findPut 71 = .ok (.bipush 10, 2) := by decide +kernel
theorem dX9_findPut_73 : decode cX9_findPut 73 = .ok (.irem, 1) := by decide +kernel
theorem dX9_findPut_74 : decode cX9_findPut 74 = .ok (.bipush 8, 2) := by decide +kernel
theorem dX9_findPut_76 : decode cX9_findPut 76 = .ok (.if_icmp .ge 28, 3) := by decide +kernel
theorem dX9_findPut_79 : decode cX9_findPut 79 = .ok (.aload_n 0, 1) := by decide +kernel
theorem dX9_findPut_80 : decode cX9_findPut 80 = .ok (.iload_n 1, 1) := by decide +kernel
theorem dX9_findPut_81 : decode cX9_findPut 81 = .ok (.iload_n 2, 1) := by decide +kernel
theorem dX9_findPut_82 : decode cX9_findPut 82 = .ok (.iload_n 3, 1) := by decide +kernel
theorem dX9_findPut_83 : decode cX9_findPut 83 = .ok (.iload 5, 2) := by decide +kernel
theorem dX9_findPut_85 : decode cX9_findPut 85 = .ok (.bipush (-9), 2) := by decide +kernel
theorem dX9_findPut_87 : decode cX9_findPut 87 = .ok (.invokevirtual 123, 3) := by decide +kernel
theorem dX9_findPut_90 : decode cX9_findPut 90 = .ok (.ifCond .eq 14, 3) := by decide +kernel
theorem dX9_findPut_93 : decode cX9_findPut 93 = .ok (.aload_n 0, 1) := by decide +kernel
theorem dX9_findPut_94 : decode cX9_findPut 94 = .ok (.iconst 1, 1) := by decide +kernel
theorem dX9_findPut_95 : decode cX9_findPut 95 = .ok (.putfield 127, 3) := by decide +kernel
theorem dX9_findPut_98 : decode cX9_findPut 98 = .ok (.aload_n 0, 1) := by decide +kernel
theorem dX9_findPut_99 : decode cX9_findPut 99 = .ok (.iload 5, 2) := by decide +kernel
theorem dX9_findPut_101 : decode cX9_findPut 101 = .ok (.putfield 130, 3) := by decide +kernel
theorem dX9_findPut_104 : decode cX9_findPut 104 = .ok (.iinc 5 1, 3) := by decide +kernel
theorem dX9_findPut_107 : decode cX9_findPut 107 = .ok (.goto (-54), 3) := by decide +kernel
theorem dX9_findPut_110 : decode cX9_findPut 110 = .ok (.iconst 0, 1) := by decide +kernel
theorem dX9_findPut_111 : decode cX9_findPut 111 = .ok (.istore 5, 2) := by decide +kernel
theorem dX9_findPut_113 : decode cX9_findPut 113 = .ok (.iload 5, 2) := by decide +kernel
theorem dX9_findPut_115 : decode cX9_findPut 115 = .ok (.iload 4, 2) := by decide +kernel
theorem dX9_findPut_117 : decode cX9_findPut 117 = .ok (.if_icmp .ge 101, 3) := by decide +kernel
theorem dX9_findPut_120 : decode cX9_findPut 120 = .ok (.aload_n 0, 1) := by decide +kernel
theorem dX9_findPut_121 : decode cX9_findPut 121 = .ok (.getfield 127, 3) := by decide +kernel
theorem dX9_findPut_124 : decode cX9_findPut 124 = .ok (.bipush (-9), 2) := by decide +kernel
theorem dX9_findPut_126 : decode cX9_findPut 126 = .ok (.if_icmp .ne 92, 3) := by decide +kernel
theorem dX9_findPut_129 : decode cX9_findPut 129 = .ok (.iload 5, 2) := by decide +kernel
theorem dX9_findPut_131 : decode cX9_findPut 131 = .ok (.bipush 10, 2) := by decide +kernel
theorem dX9_findPut_133 : decode cX9_findPut 133 = .ok (.idiv, 1) := by decide +kernel
theorem dX9_findPut_134 : decode cX9_findPut 134 = .ok (.bipush 10, 2) := by decide +kernel
theorem dX9_findPut_136 : decode cX9_findPut 136 = .ok (.imul, 1) := by decide +kernel
theorem dX9_findPut_137 : decode cX9_findPut 137 = .ok (.istore 6, 2) := by decide +kernel
theorem dX9_findPut_139 : decode cX9_findPut 139 = .ok (.iload 6, 2) := by decide +kernel
theorem dX9_findPut_141 : decode cX9_findPut 141 = .ok (.iload 4, 2) := by decide +kernel
theorem dX9_findPut_143 : decode cX9_findPut 143 = .ok (.if_icmp .ge 69, 3) := by decide +kernel
theorem dX9_findPut_146 : decode cX9_findPut 146 = .ok (.aload_n 0, 1) := by decide +kernel
theorem dX9_findPut_147 : decode cX9_findPut 147 = .ok (.getfield 127, 3) := by decide +kernel
theorem dX9_findPut_150 : decode cX9_findPut 150 = .ok (.bipush (-9), 2) := by decide +kernel
theorem dX9_findPut_152 : decode cX9_findPut 152 = .ok (.if_icmp .ne 60, 3) := by decide +kernel
theorem dX9_findPut_155 : decode cX9_findPut 155 = .ok (.iload 5, 2) := by decide +kernel
theorem dX9_findPut_157 : decode cX9_findPut 157 = .ok (.bipush 10, 2) := by decide +kernel
theorem dX9_findPut_159 : decode cX9_findPut 159 = .ok (.irem, 1) := by decide +kernel
theorem dX9_findPut_160 : decode cX9_findPut 160 = .ok (.bipush 8, 2) := by decide +kernel
theorem dX9_findPut_162 : decode cX9_findPut 162 = .ok (.if_icmp .ge 44, 3) := by decide +kernel
theorem dX9_findPut_165 : decode cX9_findPut 165 = .ok (.iload 6, 2) := by decide +kernel
theorem dX9_findPut_167 : decode cX9_findPut 167 = .ok (.bipush 10, 2) := by decide +kernel
theorem dX9_findPut_169 : decode cX9_findPut 169 = .ok (.irem, 1) := by decide +kernel
theorem dX9_findPut_170 : decode cX9_findPut 170 = .ok (.bipush 8, 2) := by decide +kernel
theorem dX9_findPut_172 : decode cX9_findPut 172 = .ok (.if_icmp .ge 34, 3) := by decide +kernel
theorem dX9_findPut_175 : decode cX9_findPut 175 = .ok (.aload_n 0, 1) := by decide +kernel
theorem dX9_findPut_176 : decode cX9_findPut 176 = .ok (.iload_n 1, 1) := by decide +kernel
theorem dX9_findPut_177 : decode cX9_findPut 177 = .ok (.iload_n 2, 1) := by decide +kernel
theorem dX9_findPut_178 : decode cX9_findPut 178 = .ok (.iload_n 3, 1) := by decide +kernel
theorem dX9_findPut_179 : decode cX9_findPut 179 = .ok (.iload 5, 2) := by decide +kernel
theorem dX9_findPut_181 : decode cX9_findPut 181 = .ok (.iload 6, 2) := by decide +kernel
theorem dX9_findPut_183 : decode cX9_findPut 183 = .ok (.invokevirtual 123, 3) := by decide +kernel
theorem dX9_findPut_186 : decode cX9_findPut 186 = .ok (.ifCond .eq 20, 3) := by decide +kernel
theorem dX9_findPut_189 : decode cX9_findPut 189 = .ok (.aload_n 0, 1) := by decide +kernel
theorem dX9_findPut_190 : decode cX9_findPut 190 = .ok (.iconst 2, 1) := by decide +kernel
theorem dX9_findPut_191 : decode cX9_findPut 191 = .ok (.putfield 127, 3) := by decide +kernel
theorem dX9_findPut_194 : decode cX9_findPut 194 = .ok (.aload_n 0, 1) := by decide +kernel
theorem dX9_findPut_195 : decode cX9_findPut 195 = .ok (.iload 5, 2) := by decide +kernel
theorem dX9_findPut_197 : decode cX9_findPut 197 = .ok (.putfield 130, 3) := by decide +kernel
theorem dX9_findPut_200 : decode cX9_findPut 200 = .ok (.aload_n 0, 1) := by decide +kernel
theorem dX9_findPut_201 : decode cX9_findPut 201 = .ok (.iload 6, 2) := by decide +kernel
theorem dX9_findPut_203 : decode cX9_findPut 203 = .ok (.putfield 133, 3) := by decide +kernel
theorem dX9_findPut_206 : decode cX9_findPut 206 = .ok (.iinc 6 1, 3) := by decide +kernel
theorem dX9_findPut_209 : decode cX9_findPut 209 = .ok (.goto (-70), 3) := by decide +kernel
theorem dX9_findPut_212 : decode cX9_findPut 212 = .ok (.iinc 5 1, 3) := by decide +kernel
theorem dX9_findPut_215 : decode cX9_findPut 215 = .ok (.goto (-102), 3) := by decide +kernel
theorem dX9_findPut_218 : decode cX9_findPut 218 = .ok (.return_, 1) := by decide +kernel
set_option maxRecDepth 20000 in
theorem ggX9_putIn_X9_isDay : GoodIn wsX9_putIn wsX9_isDay := goodIn_r _ [9, 10, 40, 41, 42, 43, 44, 45, 46, 47, 48, 49, 50, 51, 52, 53, 54, 55, 56, 57, 58, 59, 60, 61, 62, 63, 64, 65] (by decide +kernel) (by decide +kernel)
set_option maxRecDepth 20000 in
theorem gX9_putIn_X9_isDay : GoodIn wsX9_putIn (wsV RX9 105 RX9 yX9_isDay wsX9_isDay) := goodIn_app (goodIn_of _ (by decide +kernel)) ggX9_putIn_X9_isDay
set_option maxRecDepth 20000 in
theorem ggX9_putIn_X9_isWord : GoodIn wsX9_putIn wsX9_isWord := goodIn_r _ [13, 14, 15, 8, 16] (by decide +kernel) (by decide +kernel)
set_option maxRecDepth 20000 in
theorem gX9_putIn_X9_isWord : GoodIn wsX9_putIn (va_wsS RX9 102 yX9_isWord wsX9_isWord) := goodIn_app (goodIn_of _ (by decide +kernel)) ggX9_putIn_X9_isWord
set_option maxRecDepth 20000 in
theorem ggX9_putIn_X9_inside : GoodIn wsX9_putIn wsX9_inside := goodIn_r _ [16] (by decide +kernel) (by decide +kernel)
set_option maxRecDepth 20000 in
theorem gX9_putIn_X9_inside : GoodIn wsX9_putIn (va_wsS RX9 71 yX9_inside wsX9_inside) := goodIn_app (goodIn_of _ (by decide +kernel)) ggX9_putIn_X9_inside
set_option maxRecDepth 20000 in
theorem ggX9_putIn_X9_findPut : GoodIn wsX9_putIn wsX9_findPut := goodIn_r _ [20, 2, 3, 4, 21, 22, 23, 24, 8, 25, 26, 27, 28, 29, 30, 31, 32, 33, 34, 35, 36, 37, 38, 39, 1, 40, 41, 42, 43, 44, 45, 46, 47, 48, 49, 50, 51, 52, 53, 54, 55, 56, 57, 58, 59, 60, 61, 62, 63, 64, 65] (by decide +kernel) (by decide +kernel)
set_option maxRecDepth 20000 in
theorem gX9_putIn_X9_findPut : GoodIn wsX9_putIn (wsV RX9 136 RX9 yX9_findPut wsX9_findPut) := goodIn_app (goodIn_of _ (by decide +kernel)) ggX9_putIn_X9_findPut
theorem dX9_putIn_0 : decode cX9_putIn 0 = .ok (.aload_n 0, 1) := by decide +kernel
theorem dX9_putIn_1 : decode cX9_putIn 1 = .ok (.iload_n 1, 1) := by decide +kernel
theorem dX9_putIn_2 : decode cX9_putIn 2 = .ok (.invokevirtual 105, 3) := by decide +kernel
theorem dX9_putIn_5 : decode cX9_putIn 5 = .ok (.ifCond .eq 20, 3) := by decide +kernel
theorem dX9_putIn_8 : decode cX9_putIn 8 = .ok (.iload_n 2, 1) := by decide +kernel
theorem dX9_putIn_9 : decode cX9_putIn 9 = .ok (.invokestatic 102, 3) := by decide +kernel
theorem dX9_putIn_12 : decode cX9_putIn 12 = .ok (.ifCond .eq 13, 3) := by decide +kernel
theorem dX9_putIn_15 : decode cX9_putIn 15 = .ok (.iload 4, 2) := by decide +kernel
theorem dX9_putIn_17 : decode cX9_putIn 17 = .ok (.iconst (-1), 1) := by decide +kernel
theorem dX9_putIn_18 : decode cX9_putIn 18 = .ok (.iconst 1, 1) := by decide +kernel
theorem dX9_putIn_19 : decode cX9_putIn 19 = .ok (.invokestatic 71, 3) := by decide +kernel
theorem dX9_putIn_22 : decode cX9_putIn 22 = .ok (.ifCond .ne 5, 3) := by decide +kernel
theorem dX9_putIn_25 : decode cX9_putIn 25 = .ok (.iconst (-1), 1) := by decide +kernel
theorem dX9_putIn_26 : decode cX9_putIn 26 = .ok (.ireturn, 1) := by decide +kernel
theorem dX9_putIn_27 : decode cX9_putIn 27 = .ok (.aload_n 0, 1) := by decide +kernel
theorem dX9_putIn_28 : decode cX9_putIn 28 = .ok (.getfield 19, 3) := by decide +kernel
theorem dX9_putIn_31 : decode cX9_putIn 31 = .ok (.iload_n 2, 1) := by decide +kernel
theorem dX9_putIn_32 : decode cX9_putIn 32 = .ok (.iaload, 1) := by decide +kernel
theorem dX9_putIn_33 : decode cX9_putIn 33 = .ok (.ifCond .eq 6, 3) := by decide +kernel
theorem dX9_putIn_36 : decode cX9_putIn 36 = .ok (.bipush (-3), 2) := by decide +kernel
theorem dX9_putIn_38 : decode cX9_putIn 38 = .ok (.ireturn, 1) := by decide +kernel
theorem dX9_putIn_39 : decode cX9_putIn 39 = .ok (.aload_n 0, 1) := by decide +kernel
theorem dX9_putIn_40 : decode cX9_putIn 40 = .ok (.iload_n 1, 1) := by decide +kernel
theorem dX9_putIn_41 : decode cX9_putIn 41 = .ok (.iload_n 2, 1) := by decide +kernel
theorem dX9_putIn_42 : decode cX9_putIn 42 = .ok (.iload_n 3, 1) := by decide +kernel
theorem dX9_putIn_43 : decode cX9_putIn 43 = .ok (.invokevirtual 136, 3) := by decide +kernel
theorem dX9_putIn_46 : decode cX9_putIn 46 = .ok (.iload 4, 2) := by decide +kernel
theorem dX9_putIn_48 : decode cX9_putIn 48 = .ok (.iconst (-1), 1) := by decide +kernel
theorem dX9_putIn_49 : decode cX9_putIn 49 = .ok (.if_icmp .ne 10, 3) := by decide +kernel
theorem dX9_putIn_52 : decode cX9_putIn 52 = .ok (.aload_n 0, 1) := by decide +kernel
theorem dX9_putIn_53 : decode cX9_putIn 53 = .ok (.getfield 127, 3) := by decide +kernel
theorem dX9_putIn_56 : decode cX9_putIn 56 = .ok (.goto 19, 3) := by decide +kernel
theorem dX9_putIn_59 : decode cX9_putIn 59 = .ok (.iload 4, 2) := by decide +kernel
theorem dX9_putIn_61 : decode cX9_putIn 61 = .ok (.ifCond .ne 10, 3) := by decide +kernel
theorem dX9_putIn_64 : decode cX9_putIn 64 = .ok (.aload_n 0, 1) := by decide +kernel
theorem dX9_putIn_65 : decode cX9_putIn 65 = .ok (.getfield 130, 3) := by decide +kernel
theorem dX9_putIn_68 : decode cX9_putIn 68 = .ok (.goto 7, 3) := by decide +kernel
theorem dX9_putIn_71 : decode cX9_putIn 71 = .ok (.aload_n 0, 1) := by decide +kernel
theorem dX9_putIn_72 : decode cX9_putIn 72 = .ok (.getfield 133, 3) := by decide +kernel
theorem dX9_putIn_75 : decode cX9_putIn 75 = .ok (.ireturn, 1) := by decide +kernel
theorem dX9_spot_0 : decode cX9_spot 0 = .ok (.bipush 13, 2) := by decide +kernel
theorem dX9_spot_2 : decode cX9_spot 2 = .ok (.iload_n 0, 1) := by decide +kernel
theorem dX9_spot_3 : decode cX9_spot 3 = .ok (.imul, 1) := by decide +kernel
theorem dX9_spot_4 : decode cX9_spot 4 = .ok (.iload_n 1, 1) := by decide +kernel
theorem dX9_spot_5 : decode cX9_spot 5 = .ok (.iadd, 1) := by decide +kernel
theorem dX9_spot_6 : decode cX9_spot 6 = .ok (.ireturn, 1) := by decide +kernel
set_option maxRecDepth 20000 in
theorem ggX9_ways_X9_isDay : GoodIn wsX9_ways wsX9_isDay := goodIn_r _ [8, 9, 18, 19, 20, 21, 22, 23, 24, 25, 26, 27, 28, 29, 30, 31, 32, 33, 34, 35, 36, 37, 38, 39, 40, 41, 42, 43] (by decide +kernel) (by decide +kernel)
set_option maxRecDepth 20000 in
theorem gX9_ways_X9_isDay : GoodIn wsX9_ways (wsV RX9 105 RX9 yX9_isDay wsX9_isDay) := goodIn_app (goodIn_of _ (by decide +kernel)) ggX9_ways_X9_isDay
set_option maxRecDepth 20000 in
theorem ggX9_ways_X9_spot : GoodIn wsX9_ways wsX9_spot := goodIn_r _ [12] (by decide +kernel) (by decide +kernel)
set_option maxRecDepth 20000 in
theorem gX9_ways_X9_spot : GoodIn wsX9_ways (va_wsS RX9 140 yX9_spot wsX9_spot) := goodIn_app (goodIn_of _ (by decide +kernel)) ggX9_ways_X9_spot
set_option maxRecDepth 20000 in
theorem ggX9_ways_X9_wordAt : GoodIn wsX9_ways wsX9_wordAt := goodIn_r _ [16, 17, 18, 19, 20, 21, 22, 23, 24, 25, 26, 27, 28, 29, 30, 31, 32, 33, 34, 35, 36, 37, 38, 39, 40, 41, 42, 43] (by decide +kernel) (by decide +kernel)
set_option maxRecDepth 20000 in
theorem gX9_ways_X9_wordAt : GoodIn wsX9_ways (wsV RX9 108 RX9 yX9_wordAt wsX9_wordAt) := goodIn_app (goodIn_of _ (by decide +kernel)) ggX9_ways_X9_wordAt
theorem dX9_ways_0 : decode cX9_ways 0 = .ok (.aload_n 0, 1) := by decide +kernel
theorem dX9_ways_1 : decode cX9_ways 1 = .ok (.iload_n 1, 1) := by decide +kernel
theorem dX9_ways_2 : decode cX9_ways 2 = .ok (.invokevirtual 105, 3) := by decide +kernel
theorem dX9_ways_5 : decode cX9_ways 5 = .ok (.ifCond .eq 11, 3) := by decide +kernel
theorem dX9_ways_8 : decode cX9_ways 8 = .ok (.aload_n 0, 1) := by decide +kernel
theorem dX9_ways_9 : decode cX9_ways 9 = .ok (.iload_n 2, 1) := by decide +kernel
theorem dX9_ways_10 : decode cX9_ways 10 = .ok (.invokevirtual 105, 3) := by decide +kernel
theorem dX9_ways_13 : decode cX9_ways 13 = .ok (.ifCond .ne 7, 3) := by decide +kernel
theorem dX9_ways_16 : decode cX9_ways 16 = .ok (.ldc2_w 69, 3) := by decide +kernel
theorem dX9_ways_19 : decode cX9_ways 19 = .ok (.lreturn, 1) := by decide +kernel
theorem dX9_ways_20 : decode cX9_ways 20 = .ok (.aload_n 0, 1) := by decide +kernel
theorem dX9_ways_21 : decode cX9_ways 21 = .ok (.getfield 22, 3) := by decide +kernel
theorem dX9_ways_24 : decode cX9_ways 24 = .ok (.iload_n 1, 1) := by decide +kernel
theorem dX9_ways_25 : decode cX9_ways 25 = .ok (.iaload, 1) := by decide +kernel
theorem dX9_ways_26 : decode cX9_ways 26 = .ok (.istore_n 3, 1) := by decide +kernel
theorem dX9_ways_27 : decode cX9_ways 27 = .ok (.iconst 0, 1) := by decide +kernel
theorem dX9_ways_28 : decode cX9_ways 28 = .ok (.istore 4, 2) := by decide +kernel
theorem dX9_ways_30 : decode cX9_ways 30 = .ok (.iload 4, 2) := by decide +kernel
theorem dX9_ways_32 : decode cX9_ways 32 = .ok (.aload_n 0, 1) := by decide +kernel
theorem dX9_ways_33 : decode cX9_ways 33 = .ok (.getfield 22, 3) := by decide +kernel
theorem dX9_ways_36 : decode cX9_ways 36 = .ok (.iload_n 2, 1) := by decide +kernel
theorem dX9_ways_37 : decode cX9_ways 37 = .ok (.iaload, 1) := by decide +kernel
theorem dX9_ways_38 : decode cX9_ways 38 = .ok (.if_icmp .gt 118, 3) := by decide +kernel
theorem dX9_ways_41 : decode cX9_ways 41 = .ok (.iconst 0, 1) := by decide +kernel
theorem dX9_ways_42 : decode cX9_ways 42 = .ok (.istore 5, 2) := by decide +kernel
theorem dX9_ways_44 : decode cX9_ways 44 = .ok (.iload 5, 2) := by decide +kernel
theorem dX9_ways_46 : decode cX9_ways 46 = .ok (.iload_n 3, 1) := by decide +kernel
theorem dX9_ways_47 : decode cX9_ways 47 = .ok (.if_icmp .gt 103, 3) := by decide +kernel
theorem dX9_ways_50 : decode cX9_ways 50 = .ok (.iload 5, 2) := by decide +kernel
theorem dX9_ways_52 : decode cX9_ways 52 = .ok (.ifCond .ne 7, 3) := by decide +kernel
theorem dX9_ways_55 : decode cX9_ways 55 = .ok (.lconst 1, 1) := by decide +kernel
theorem dX9_ways_56 : decode cX9_ways 56 = .ok (.goto 4, 3) := by decide +kernel
theorem dX9_ways_59 : decode cX9_ways 59 = .ok (.lconst 0, 1) := by decide +kernel
theorem dX9_ways_60 : decode cX9_ways 60 = .ok (.lstore 6, 2) := by decide +kernel
theorem dX9_ways_62 : decode cX9_ways 62 = .ok (.iload 5, 2) := by decide +kernel
theorem dX9_ways_64 : decode cX9_ways 64 = .ok (.ifCond .le 66, 3) := by decide +kernel
theorem dX9_ways_67 : decode cX9_ways 67 = .ok (.iload 4, 2) := by decide +kernel
theorem dX9_ways_69 : decode cX9_ways 69 = .ok (.ifCond .le 61, 3) := by decide +kernel
theorem dX9_ways_72 : decode cX9_ways 72 = .ok (.aload_n 0, 1) := by decide +kernel
theorem dX9_ways_73 : decode cX9_ways 73 = .ok (.getfield 43, 3) := by decide +kernel
theorem dX9_ways_76 : decode cX9_ways 76 = .ok (.iload 5, 2) := by decide +kernel
theorem dX9_ways_78 : decode cX9_ways 78 = .ok (.iload 4, 2) := by decide +kernel
theorem dX9_ways_80 : decode cX9_ways 80 = .ok (.iconst 1, 1) := by decide +kernel
theorem dX9_ways_81 : decode cX9_ways 81 = .ok (.isub, 1) := by decide +kernel
theorem dX9_ways_82 : decode cX9_ways 82 = .ok (.invokestatic 140, 3) := by decide +kernel
theorem dX9_ways_85 : decode cX9_ways 85 = .ok (.laload, 1) := by decide +kernel
theorem dX9_ways_86 : decode cX9_ways 86 = .ok (.aload_n 0, 1) := by decide +kernel
theorem dX9_ways_87 : decode cX9_ways 87 = .ok (.iload_n 1, 1) := by decide +kernel
theorem dX9_ways_88 : decode cX9_ways 88 = .ok (.iload 5, 2) := by decide +kernel
theorem dX9_ways_90 : decode cX9_ways 90 = .ok (.iconst 1, 1) := by decide +kernel
theorem dX9_ways_91 : decode cX9_ways 91 = .ok (.isub, 1) := by decide +kernel
theorem dX9_ways_92 : decode cX9_ways 92 = .ok (.invokevirtual 108, 3) := by decide +kernel
theorem dX9_ways_95 : decode cX9_ways 95 = .ok (.aload_n 0, 1) := by decide +kernel
theorem dX9_ways_96 : decode cX9_ways 96 = .ok (.iload_n 2, 1) := by decide +kernel
theorem dX9_ways_97 : decode cX9_ways 97 = .ok (.iload 4, 2) := by decide +kernel
theorem dX9_ways_99 : decode cX9_ways 99 = .ok (.iconst 1, 1) := by decide +kernel
theorem dX9_ways_100 : decode cX9_ways 100 = .ok (.isub, 1) := by decide +kernel
theorem dX9_ways_101 : decode cX9_ways 101 = .ok (.invokevirtual 108, 3) := by decide +kernel
theorem dX9_ways_104 : decode cX9_ways 104 = .ok (.if_icmp .ne 22, 3) := by decide +kernel
theorem dX9_ways_107 : decode cX9_ways 107 = .ok (.aload_n 0, 1) := by decide +kernel
theorem dX9_ways_108 : decode cX9_ways 108 = .ok (.getfield 43, 3) := by decide +kernel
theorem dX9_ways_111 : decode cX9_ways 111 = .ok (.iload 5, 2) := by decide +kernel
theorem dX9_ways_113 : decode cX9_ways 113 = .ok (.iconst 1, 1) := by decide +kernel
theorem dX9_ways_114 : decode cX9_ways 114 = .ok (.isub, 1) := by decide +kernel
theorem dX9_ways_115 : decode cX9_ways 115 = .ok (.iload 4, 2) := by decide +kernel
theorem dX9_ways_117 : decode cX9_ways 117 = .ok (.iconst 1, 1) := by decide +kernel
theorem dX9_ways_118 : decode cX9_ways 118 = .ok (.isub, 1) := by decide +kernel
theorem dX9_ways_119 : decode cX9_ways 119 = .ok (.invokestatic 140, 3) := by decide +kernel
theorem dX9_ways_122 : decode cX9_ways 122 = .ok (.laload, 1) := by decide +kernel
theorem dX9_ways_123 : decode cX9_ways 123 = .ok (.goto 4, 3) := by decide +kernel
theorem dX9_ways_126 : decode cX9_ways 126 = .ok (.lconst 0, 1) := by decide +kernel
theorem dX9_ways_127 : decode cX9_ways 127 = .ok (.ladd, 1) := by decide +kernel
theorem dX9_ways_128 : decode cX9_ways 128 = .ok (.lstore 6, 2) := by decide +kernel
theorem dX9_ways_130 : decode cX9_ways 130 = .ok (.aload_n 0, 1) := by decide +kernel
theorem dX9_ways_131 : decode cX9_ways 131 = .ok (.getfield 43, 3) := by decide +kernel
theorem dX9_ways_134 : decode cX9_ways 134 = .ok (.iload 5, 2) := by decide +kernel
theorem dX9_ways_136 : decode cX9_ways 136 = .ok (.iload 4, 2) := by decide +kernel
theorem dX9_ways_138 : decode cX9_ways 138 = .ok (.invokestatic 140, 3) := by decide +kernel
theorem dX9_ways_141 : decode cX9_ways 141 = .ok (.lload 6, 2) := by decide +kernel
theorem dX9_ways_143 : decode cX9_ways 143 = .ok (.lastore, 1) := by decide +kernel
theorem dX9_ways_144 : decode cX9_ways 144 = .ok (.iinc 5 1, 3) := by decide +kernel
theorem dX9_ways_147 : decode cX9_ways 147 = .ok (.goto (-103), 3) := by decide +kernel
theorem dX9_ways_150 : decode cX9_ways 150 = .ok (.iinc 4 1, 3) := by decide +kernel
theorem dX9_ways_153 : decode cX9_ways 153 = .ok (.goto (-123), 3) := by decide +kernel
theorem dX9_ways_156 : decode cX9_ways 156 = .ok (.aload_n 0, 1) := by decide +kernel
theorem dX9_ways_157 : decode cX9_ways 157 = .ok (.getfield 43, 3) := by decide +kernel
theorem dX9_ways_160 : decode cX9_ways 160 = .ok (.iload_n 3, 1) := by decide +kernel
theorem dX9_ways_161 : decode cX9_ways 161 = .ok (.aload_n 0, 1) := by decide +kernel
theorem dX9_ways_162 : decode cX9_ways 162 = .ok (.getfield 22, 3) := by decide +kernel
theorem dX9_ways_165 : decode cX9_ways 165 = .ok (.iload_n 2, 1) := by decide +kernel
theorem dX9_ways_166 : decode cX9_ways 166 = .ok (.iaload, 1) := by decide +kernel
theorem dX9_ways_167 : decode cX9_ways 167 = .ok (.invokestatic 140, 3) := by decide +kernel
theorem dX9_ways_170 : decode cX9_ways 170 = .ok (.laload, 1) := by decide +kernel
theorem dX9_ways_171 : decode cX9_ways 171 = .ok (.lreturn, 1) := by decide +kernel
set_option maxRecDepth 20000 in
theorem ggX9_place_X9_isDay : GoodIn wsX9_place wsX9_isDay := goodIn_r _ [8, 9, 22, 23, 24, 25, 26, 27, 28, 29, 30, 31, 32, 33, 34, 35, 36, 37, 38, 39, 40, 41, 42, 43, 44, 45, 46, 47] (by decide +kernel) (by decide +kernel)
set_option maxRecDepth 20000 in
theorem gX9_place_X9_isDay : GoodIn wsX9_place (wsV RX9 105 RX9 yX9_isDay wsX9_isDay) := goodIn_app (goodIn_of _ (by decide +kernel)) ggX9_place_X9_isDay
set_option maxRecDepth 20000 in
theorem ggX9_place_X9_inside : GoodIn wsX9_place wsX9_inside := goodIn_r _ [12] (by decide +kernel) (by decide +kernel)
set_option maxRecDepth 20000 in
theorem gX9_place_X9_inside : GoodIn wsX9_place (va_wsS RX9 71 yX9_inside wsX9_inside) := goodIn_app (goodIn_of _ (by decide +kernel)) ggX9_place_X9_inside
set_option maxRecDepth 20000 in
theorem ggX9_place_X9_isWithin : GoodIn wsX9_place wsX9_isWithin := goodIn_r _ [16, 1, 2, 3, 17, 18, 19, 7, 20, 21, 22, 23, 24, 25, 26, 27, 28, 29, 30, 31, 32, 33, 34, 35, 36, 37, 38, 39, 40, 41, 42, 43, 44, 45, 46, 47] (by decide +kernel) (by decide +kernel)
set_option maxRecDepth 20000 in
theorem gX9_place_X9_isWithin : GoodIn wsX9_place (wsV RX9 112 RX9 yX9_isWithin wsX9_isWithin) := goodIn_app (goodIn_of _ (by decide +kernel)) ggX9_place_X9_isWithin
theorem dX9_place_0 : decode cX9_place 0 = .ok (.aload_n 0, 1) := by decide +kernel
theorem dX9_place_1 : decode cX9_place 1 = .ok (.iload_n 1, 1) := by decide +kernel
theorem dX9_place_2 : decode cX9_place 2 = .ok (.invokevirtual 105, 3) := by decide +kernel
theorem dX9_place_5 : decode cX9_place 5 = .ok (.ifCond .eq 27, 3) := by decide +kernel
theorem dX9_place_8 : decode cX9_place 8 = .ok (.aload_n 0, 1) := by decide +kernel
theorem dX9_place_9 : decode cX9_place 9 = .ok (.iload_n 2, 1) := by decide +kernel
theorem dX9_place_10 : decode cX9_place 10 = .ok (.invokevirtual 105, 3) := by decide +kernel
theorem dX9_place_13 : decode cX9_place 13 = .ok (.ifCond .eq 19, 3) := by decide +kernel
theorem dX9_place_16 : decode cX9_place 16 = .ok (.iload_n 3, 1) := by decide +kernel
theorem dX9_place_17 : decode cX9_place 17 = .ok (.iconst 0, 1) := by decide +kernel
theorem dX9_place_18 : decode cX9_place 18 = .ok (.aload_n 0, 1) := by decide +kernel
theorem dX9_place_19 : decode cX9_place 19 = .ok (.getfield 22, 3) := by decide +kernel
theorem dX9_place_22 : decode cX9_place 22 = .ok (.iload_n 1, 1) := by decide +kernel
theorem dX9_place_23 : decode cX9_place 23 = .ok (.iaload, 1) := by decide +kernel
theorem dX9_place_24 : decode cX9_place 24 = .ok (.iconst 1, 1) := by decide +kernel
theorem dX9_place_25 : decode cX9_place 25 = .ok (.isub, 1) := by decide +kernel
theorem dX9_place_26 : decode cX9_place 26 = .ok (.invokestatic 71, 3) := by decide +kernel
theorem dX9_place_29 : decode cX9_place 29 = .ok (.ifCond .ne 5, 3) := by decide +kernel
theorem dX9_place_32 : decode cX9_place 32 = .ok (.iconst (-1), 1) := by decide +kernel
theorem dX9_place_33 : decode cX9_place 33 = .ok (.ireturn, 1) := by decide +kernel
theorem dX9_place_34 : decode cX9_place 34 = .ok (.iload 4, 2) := by decide +kernel
theorem dX9_place_36 : decode cX9_place 36 = .ok (.iconst 0, 1) := by decide +kernel
theorem dX9_place_37 : decode cX9_place 37 = .ok (.iconst 1, 1) := by decide +kernel
theorem dX9_place_38 : decode cX9_place 38 = .ok (.invokestatic 71, 3) := by decide +kernel
theorem dX9_place_41 : decode cX9_place 41 = .ok (.ifCond .ne 6, 3) := by decide +kernel
theorem dX9_place_44 : decode cX9_place 44 = .ok (.bipush (-2), 2) := by decide +kernel
theorem dX9_place_46 : decode cX9_place 46 = .ok (.ireturn, 1) := by decide +kernel
theorem dX9_place_47 : decode cX9_place 47 = .ok (.aload_n 0, 1) := by decide +kernel
theorem dX9_place_48 : decode cX9_place 48 = .ok (.iload_n 1, 1) := by decide +kernel
theorem dX9_place_49 : decode cX9_place 49 = .ok (.iload_n 2, 1) := by decide +kernel
theorem dX9_place_50 : decode cX9_place 50 = .ok (.invokevirtual 112, 3) := by decide +kernel
theorem dX9_place_53 : decode cX9_place 53 = .ok (.ifCond .ne 8, 3) := by decide +kernel
theorem dX9_place_56 : decode cX9_place 56 = .ok (.bipush (-9), 2) := by decide +kernel
theorem dX9_place_58 : decode cX9_place 58 = .ok (.goto 23, 3) := by decide +kernel
theorem dX9_place_61 : decode cX9_place 61 = .ok (.iload 4, 2) := by decide +kernel
theorem dX9_place_63 : decode cX9_place 63 = .ok (.ifCond .ne 12, 3) := by decide +kernel
theorem dX9_place_66 : decode cX9_place 66 = .ok (.aload_n 0, 1) := by decide +kernel
theorem dX9_place_67 : decode cX9_place 67 = .ok (.getfield 34, 3) := by decide +kernel
theorem dX9_place_70 : decode cX9_place 70 = .ok (.iload_n 3, 1) := by decide +kernel
theorem dX9_place_71 : decode cX9_place 71 = .ok (.iaload, 1) := by decide +kernel
theorem dX9_place_72 : decode cX9_place 72 = .ok (.goto 9, 3) := by decide +kernel
theorem dX9_place_75 : decode cX9_place 75 = .ok (.aload_n 0, 1) := by decide +kernel
theorem dX9_place_76 : decode cX9_place 76 = .ok (.getfield 37, 3) := by decide +kernel
theorem dX9_place_79 : decode cX9_place 79 = .ok (.iload_n 3, 1) := by decide +kernel
theorem dX9_place_80 : decode cX9_place 80 = .ok (.iaload, 1) := by decide +kernel
theorem dX9_place_81 : decode cX9_place 81 = .ok (.ireturn, 1) := by decide +kernel
set_option maxRecDepth 20000 in
theorem ggX9_mayStand_X9_isWithin : GoodIn wsX9_mayStand wsX9_isWithin := goodIn_r _ [8, 1, 2, 3, 9, 10, 11, 7, 12, 13, 14, 15, 16, 17, 18, 19, 20, 21, 22, 23, 24, 25, 26, 27, 28, 29, 30, 31, 32, 33, 34, 35, 36, 37, 38, 39] (by decide +kernel) (by decide +kernel)
set_option maxRecDepth 20000 in
theorem gX9_mayStand_X9_isWithin : GoodIn wsX9_mayStand (wsV RX9 112 RX9 yX9_isWithin wsX9_isWithin) := goodIn_app (goodIn_of _ (by decide +kernel)) ggX9_mayStand_X9_isWithin
set_option maxRecDepth 20000 in
theorem ggX9_mayStand_X9_wordAt : GoodIn wsX9_mayStand wsX9_wordAt := goodIn_r _ [12, 13, 14, 15, 16, 17, 18, 19, 20, 21, 22, 23, 24, 25, 26, 27, 28, 29, 30, 31, 32, 33, 34, 35, 36, 37, 38, 39] (by decide +kernel) (by decide +kernel)
set_option maxRecDepth 20000 in
theorem gX9_mayStand_X9_wordAt : GoodIn wsX9_mayStand (wsV RX9 108 RX9 yX9_wordAt wsX9_wordAt) := goodIn_app (goodIn_of _ (by decide +kernel)) ggX9_mayStand_X9_wordAt
theorem dX9_mayStand_0 : decode cX9_mayStand 0 = .ok (.aload_n 0, 1) := by decide +kernel
theorem dX9_mayStand_1 : decode cX9_mayStand 1 = .ok (.iload_n 1, 1) := by decide +kernel
theorem dX9_mayStand_2 : decode cX9_mayStand 2 = .ok (.iload_n 2, 1) := by decide +kernel
theorem dX9_mayStand_3 : decode cX9_mayStand 3 = .ok (.invokevirtual 112, 3) := by decide +kernel
theorem dX9_mayStand_6 : decode cX9_mayStand 6 = .ok (.ifCond .ne 5, 3) := by decide +kernel
theorem dX9_mayStand_9 : decode cX9_mayStand 9 = .ok (.iconst 0, 1) := by decide +kernel
theorem dX9_mayStand_10 : decode cX9_mayStand 10 = .ok (.ireturn, 1) := by decide +kernel
theorem dX9_mayStand_11 : decode cX9_mayStand 11 = .ok (.iconst 0, 1) := by decide +kernel
theorem dX9_mayStand_12 : decode cX9_mayStand 12 = .ok (.istore 4, 2) := by decide +kernel
theorem dX9_mayStand_14 : decode cX9_mayStand 14 = .ok (.iload 4, 2) := by decide +kernel
theorem dX9_mayStand_16 : decode cX9_mayStand 16 = .ok (.aload_n 0, 1) := by decide +kernel
theorem dX9_mayStand_17 : decode cX9_mayStand 17 = .ok (.getfield 22, 3) := by decide +kernel
theorem dX9_mayStand_20 : decode cX9_mayStand 20 = .ok (.iload_n 1, 1) := by decide +kernel
theorem dX9_mayStand_21 : decode cX9_mayStand 21 = .ok (.iaload, 1) := by decide +kernel
theorem dX9_mayStand_22 : decode cX9_mayStand 22 = .ok (.if_icmp .ge 95, 3) := by decide +kernel
theorem dX9_mayStand_25 : decode cX9_mayStand 25 = .ok (.iload 4, 2) := by decide +kernel
theorem dX9_mayStand_27 : decode cX9_mayStand 27 = .ok (.ifCond .eq 16, 3) := by decide +kernel
theorem dX9_mayStand_30 : decode cX9_mayStand 30 = .ok (.aload_n 0, 1) := by decide +kernel
theorem dX9_mayStand_31 : decode cX9_mayStand 31 = .ok (.getfield 34, 3) := by decide +kernel
theorem dX9_mayStand_34 : decode cX9_mayStand 34 = .ok (.iload 4, 2) := by decide +kernel
theorem dX9_mayStand_36 : decode cX9_mayStand 36 = .ok (.iconst 1, 1) := by decide +kernel
theorem dX9_mayStand_37 : decode cX9_mayStand 37 = .ok (.isub, 1) := by decide +kernel
theorem dX9_mayStand_38 : decode cX9_mayStand 38 = .ok (.iaload, 1) := by decide +kernel
theorem dX9_mayStand_39 : decode cX9_mayStand 39 = .ok (.iload_n 3, 1) := by decide +kernel
theorem dX9_mayStand_40 : decode cX9_mayStand 40 = .ok (.if_icmp .ge 7, 3) := by decide +kernel
theorem dX9_mayStand_43 : decode cX9_mayStand 43 = .ok (.iconst 1, 1) := by decide +kernel
theorem dX9_mayStand_44 : decode cX9_mayStand 44 = .ok (.goto 4, 3) := by decide +kernel
theorem dX9_mayStand_47 : decode cX9_mayStand 47 = .ok (.iconst 0, 1) := by decide +kernel
theorem dX9_mayStand_48 : decode cX9_mayStand 48 = .ok (.istore 5, 2) := by decide +kernel
theorem dX9_mayStand_50 : decode cX9_mayStand 50 = .ok (.iload 4, 2) := by decide +kernel
theorem dX9_mayStand_52 : decode cX9_mayStand 52 = .ok (.aload_n 0, 1) := by decide +kernel
theorem dX9_mayStand_53 : decode cX9_mayStand 53 = .ok (.getfield 22, 3) := by decide +kernel
theorem dX9_mayStand_56 : decode cX9_mayStand 56 = .ok (.iload_n 1, 1) := by decide +kernel
theorem dX9_mayStand_57 : decode cX9_mayStand 57 = .ok (.iaload, 1) := by decide +kernel
theorem dX9_mayStand_58 : decode cX9_mayStand 58 = .ok (.iconst 1, 1) := by decide +kernel
theorem dX9_mayStand_59 : decode cX9_mayStand 59 = .ok (.isub, 1) := by decide +kernel
theorem dX9_mayStand_60 : decode cX9_mayStand 60 = .ok (.if_icmp .eq 16, 3) := by decide +kernel
theorem dX9_mayStand_63 : decode cX9_mayStand 63 = .ok (.aload_n 0, 1) := by decide +kernel
theorem dX9_mayStand_64 : decode cX9_mayStand 64 = .ok (.getfield 37, 3) := by decide +kernel
theorem dX9_mayStand_67 : decode cX9_mayStand 67 = .ok (.iload 4, 2) := by decide +kernel
theorem dX9_mayStand_69 : decode cX9_mayStand 69 = .ok (.iconst 1, 1) := by decide +kernel
theorem dX9_mayStand_70 : decode cX9_mayStand 70 = .ok (.iadd, 1) := by decide +kernel
theorem dX9_mayStand_71 : decode cX9_mayStand 71 = .ok (.iaload, 1) := by decide +kernel
theorem dX9_mayStand_72 : decode cX9_mayStand 72 = .ok (.iload_n 3, 1) := by decide +kernel
theorem dX9_mayStand_73 : decode cX9_mayStand 73 = .ok (.if_icmp .le 7, 3) := by decide +kernel
theorem dX9_mayStand_76 : decode cX9_mayStand 76 = .ok (.iconst 1, 1) := by decide +kernel
theorem dX9_mayStand_77 : decode cX9_mayStand 77 = .ok (.goto 4, 3) := by decide +kernel
theorem dX9_mayStand_80 : decode cX9_mayStand 80 = .ok (.iconst 0, 1) := by decide +kernel
theorem dX9_mayStand_81 : decode cX9_mayStand 81 = .ok (.istore 6, 2) := by decide +kernel
theorem dX9_mayStand_83 : decode cX9_mayStand 83 = .ok (.aload_n 0, 1) := by decide +kernel
theorem dX9_mayStand_84 : decode cX9_mayStand 84 = .ok (.iload_n 1, 1) := by decide +kernel
theorem dX9_mayStand_85 : decode cX9_mayStand 85 = .ok (.iload 4, 2) := by decide +kernel
theorem dX9_mayStand_87 : decode cX9_mayStand 87 = .ok (.invokevirtual 108, 3) := by decide +kernel
theorem dX9_mayStand_90 : decode cX9_mayStand 90 = .ok (.aload_n 0, 1) := by decide +kernel
theorem dX9_mayStand_91 : decode cX9_mayStand 91 = .ok (.iload_n 2, 1) := by decide +kernel
theorem dX9_mayStand_92 : decode cX9_mayStand 92 = .ok (.iload_n 3, 1) := by decide +kernel
theorem dX9_mayStand_93 : decode cX9_mayStand 93 = .ok (.invokevirtual 108, 3) := by decide +kernel
theorem dX9_mayStand_96 : decode cX9_mayStand 96 = .ok (.if_icmp .ne 15, 3) := by decide +kernel
theorem dX9_mayStand_99 : decode cX9_mayStand 99 = .ok (.iload 5, 2) := by decide +kernel
theorem dX9_mayStand_101 : decode cX9_mayStand 101 = .ok (.ifCond .eq 10, 3) := by decide +kernel
theorem dX9_mayStand_104 : decode cX9_mayStand 104 = .ok (.iload 6, 2) := by decide +kernel
theorem dX9_mayStand_106 : decode cX9_mayStand 106 = .ok (.ifCond .eq 5, 3) := by decide +kernel
theorem dX9_mayStand_109 : decode cX9_mayStand 109 = .ok (.iconst 1, 1) := by decide +kernel
theorem dX9_mayStand_110 : decode cX9_mayStand 110 = .ok (.ireturn, 1) := by decide +kernel
theorem dX9_mayStand_111 : decode cX9_mayStand 111 = .ok (.iinc 4 1, 3) := by decide +kernel
theorem dX9_mayStand_114 : decode cX9_mayStand 114 = .ok (.goto (-100), 3) := by decide +kernel
theorem dX9_mayStand_117 : decode cX9_mayStand 117 = .ok (.iconst 0, 1) := by decide +kernel
theorem dX9_mayStand_118 : decode cX9_mayStand 118 = .ok (.ireturn, 1) := by decide +kernel
set_option maxRecDepth 20000 in
theorem ggX9_mayBe_X9_inside : GoodIn wsX9_mayBe wsX9_inside := goodIn_r _ [6] (by decide +kernel) (by decide +kernel)
set_option maxRecDepth 20000 in
theorem gX9_mayBe_X9_inside : GoodIn wsX9_mayBe (va_wsS RX9 71 yX9_inside wsX9_inside) := goodIn_app (goodIn_of _ (by decide +kernel)) ggX9_mayBe_X9_inside
set_option maxRecDepth 20000 in
theorem ggX9_mayBe_X9_mayStand : GoodIn wsX9_mayBe wsX9_mayStand := goodIn_r _ [10, 2, 11, 12, 13, 14, 15, 5, 16, 17, 18, 19, 20, 21, 22, 23, 24, 25, 26, 27, 28, 29, 30, 31, 32, 33, 34, 35, 36, 37, 38, 39, 40, 41, 42, 43, 44, 45, 46, 47] (by decide +kernel) (by decide +kernel)
set_option maxRecDepth 20000 in
theorem gX9_mayBe_X9_mayStand : GoodIn wsX9_mayBe (wsV RX9 143 RX9 yX9_mayStand wsX9_mayStand) := goodIn_app (goodIn_of _ (by decide +kernel)) ggX9_mayBe_X9_mayStand
theorem dX9_mayBe_0 : decode cX9_mayBe 0 = .ok (.aload_n 0, 1) := by decide +kernel
theorem dX9_mayBe_1 : decode cX9_mayBe 1 = .ok (.getfield 75, 3) := by decide +kernel
theorem dX9_mayBe_4 : decode cX9_mayBe 4 = .ok (.ifCond .eq 24, 3) := by decide +kernel
theorem dX9_mayBe_7 : decode cX9_mayBe 7 = .ok (.iload_n 1, 1) := by decide +kernel
theorem dX9_mayBe_8 : decode cX9_mayBe 8 = .ok (.iconst 0, 1) := by decide +kernel
theorem dX9_mayBe_9 : decode cX9_mayBe 9 = .ok (.aload_n 0, 1) := by decide +kernel
theorem dX9_mayBe_10 : decode cX9_mayBe 10 = .ok (.getfield 22, 3) := by decide +kernel
theorem dX9_mayBe_13 : decode cX9_mayBe 13 = .ok (.aload_n 0, 1) := by decide +kernel
theorem dX9_mayBe_14 : decode cX9_mayBe 14 = .ok (.getfield 75, 3) := by decide +kernel
theorem dX9_mayBe_17 : decode cX9_mayBe 17 = .ok (.iconst 1, 1) := by decide +kernel
theorem dX9_mayBe_18 : decode cX9_mayBe 18 = .ok (.isub, 1) := by decide +kernel
theorem dX9_mayBe_19 : decode cX9_mayBe 19 = .ok (.iaload, 1) := by decide +kernel
theorem dX9_mayBe_20 : decode cX9_mayBe 20 = .ok (.iconst 1, 1) := by decide +kernel
theorem dX9_mayBe_21 : decode cX9_mayBe 21 = .ok (.isub, 1) := by decide +kernel
theorem dX9_mayBe_22 : decode cX9_mayBe 22 = .ok (.invokestatic 71, 3) := by decide +kernel
theorem dX9_mayBe_25 : decode cX9_mayBe 25 = .ok (.ifCond .ne 5, 3) := by decide +kernel
theorem dX9_mayBe_28 : decode cX9_mayBe 28 = .ok (.iconst (-1), 1) := by decide +kernel
theorem dX9_mayBe_29 : decode cX9_mayBe 29 = .ok (.ireturn, 1) := by decide +kernel
theorem dX9_mayBe_30 : decode cX9_mayBe 30 = .ok (.iconst 0, 1) := by decide +kernel
theorem dX9_mayBe_31 : decode cX9_mayBe 31 = .ok (.istore_n 2, 1) := by decide +kernel
theorem dX9_mayBe_32 : decode cX9_mayBe 32 = .ok (.iconst 0, 1) := by decide +kernel
theorem dX9_mayBe_33 : decode cX9_mayBe 33 = .ok (.istore_n 3, 1) := by decide +kernel
theorem dX9_mayBe_34 : decode cX9_mayBe 34 = .ok (.iload_n 3, 1) := by decide +kernel
theorem dX9_mayBe_35 : decode cX9_mayBe 35 = .ok (.aload_n 0, 1) := by decide +kernel
theorem dX9_mayBe_36 : decode cX9_mayBe 36 = .ok (.getfield 75, 3) := by decide +kernel
theorem dX9_mayBe_39 : decode cX9_mayBe 39 = .ok (.if_icmp .ge 34, 3) := by decide +kernel
theorem dX9_mayBe_42 : decode cX9_mayBe 42 = .ok (.iload_n 2, 1) := by decide +kernel
theorem dX9_mayBe_43 : decode cX9_mayBe 43 = .ok (.aload_n 0, 1) := by decide +kernel
theorem dX9_mayBe_44 : decode cX9_mayBe 44 = .ok (.iload_n 3, 1) := by decide +kernel
theorem dX9_mayBe_45 : decode cX9_mayBe 45 = .ok (.aload_n 0, 1) := by decide +kernel
theorem dX9_mayBe_46 : decode cX9_mayBe 46 = .ok (.getfield 75, 3) := by decide +kernel
theorem dX9_mayBe_49 : decode cX9_mayBe 49 = .ok (.iconst 1, 1) := by decide +kernel
theorem dX9_mayBe_50 : decode cX9_mayBe 50 = .ok (.isub, 1) := by decide +kernel
theorem dX9_mayBe_51 : decode cX9_mayBe 51 = .ok (.iload_n 1, 1) := by decide +kernel
theorem dX9_mayBe_52 : decode cX9_mayBe 52 = .ok (.invokevirtual 143, 3) := by decide +kernel
theorem dX9_mayBe_55 : decode cX9_mayBe 55 = .ok (.ifCond .eq 9, 3) := by decide +kernel
theorem dX9_mayBe_58 : decode cX9_mayBe 58 = .ok (.iconst 1, 1) := by decide +kernel
theorem dX9_mayBe_59 : decode cX9_mayBe 59 = .ok (.iload_n 3, 1) := by decide +kernel
theorem dX9_mayBe_60 : decode cX9_mayBe 60 = .ok (.ishl, 1) := by decide +kernel
theorem dX9_mayBe_61 : decode cX9_mayBe 61 = .ok (.goto 4, 3) := by decide +kernel
theorem dX9_mayBe_64 : decode cX9_mayBe 64 = .ok (.iconst 0, 1) := by decide +kernel
theorem dX9_mayBe_65 : decode cX9_mayBe 65 = .ok (.ior, 1) := by decide +kernel
theorem dX9_mayBe_66 : decode cX9_mayBe 66 = .ok (.istore_n 2, 1) := by decide +kernel
theorem dX9_mayBe_67 : decode cX9_mayBe 67 = .ok (.iinc 3 1, 3) := by decide +kernel
theorem dX9_mayBe_70 : decode cX9_mayBe 70 = .ok (.goto (-36), 3) := by decide +kernel
theorem dX9_mayBe_73 : decode cX9_mayBe 73 = .ok (.iload_n 2, 1) := by decide +kernel
theorem dX9_mayBe_74 : decode cX9_mayBe 74 = .ok (.ireturn, 1) := by decide +kernel
set_option maxRecDepth 20000 in
theorem ggX9_layYet_X9_layOne : GoodIn wsX9_layYet wsX9_layOne := goodIn_r _ [6, 1, 7, 8, 9, 10, 5, 11, 12, 13, 14, 15, 16, 17, 18, 19, 20, 21, 22, 23, 24, 25, 26, 27, 28, 29, 30, 31, 32, 33, 34, 35, 36, 37, 38, 39, 40, 41, 42] (by decide +kernel) (by decide +kernel)
set_option maxRecDepth 20000 in
theorem gX9_layYet_X9_layOne : GoodIn wsX9_layYet (wsV RX9 146 RX9 yX9_layOne wsX9_layOne) := goodIn_app (goodIn_of _ (by decide +kernel)) ggX9_layYet_X9_layOne
theorem dX9_layYet_0 : decode cX9_layYet 0 = .ok (.aload_n 0, 1) := by decide +kernel
theorem dX9_layYet_1 : decode cX9_layYet 1 = .ok (.getfield 22, 3) := by decide +kernel
theorem dX9_layYet_4 : decode cX9_layYet 4 = .ok (.iload_n 1, 1) := by decide +kernel
theorem dX9_layYet_5 : decode cX9_layYet 5 = .ok (.iaload, 1) := by decide +kernel
theorem dX9_layYet_6 : decode cX9_layYet 6 = .ok (.istore_n 3, 1) := by decide +kernel
theorem dX9_layYet_7 : decode cX9_layYet 7 = .ok (.iload_n 3, 1) := by decide +kernel
theorem dX9_layYet_8 : decode cX9_layYet 8 = .ok (.ifCond .lt 37, 3) := by decide +kernel
theorem dX9_layYet_11 : decode cX9_layYet 11 = .ok (.aload_n 0, 1) := by decide +kernel
theorem dX9_layYet_12 : decode cX9_layYet 12 = .ok (.getfield 22, 3) := by decide +kernel
theorem dX9_layYet_15 : decode cX9_layYet 15 = .ok (.iload_n 2, 1) := by decide +kernel
theorem dX9_layYet_16 : decode cX9_layYet 16 = .ok (.iaload, 1) := by decide +kernel
theorem dX9_layYet_17 : decode cX9_layYet 17 = .ok (.istore 4, 2) := by decide +kernel
theorem dX9_layYet_19 : decode cX9_layYet 19 = .ok (.iload 4, 2) := by decide +kernel
theorem dX9_layYet_21 : decode cX9_layYet 21 = .ok (.ifCond .lt 18, 3) := by decide +kernel
theorem dX9_layYet_24 : decode cX9_layYet 24 = .ok (.aload_n 0, 1) := by decide +kernel
theorem dX9_layYet_25 : decode cX9_layYet 25 = .ok (.iload_n 1, 1) := by decide +kernel
theorem dX9_layYet_26 : decode cX9_layYet 26 = .ok (.iload_n 2, 1) := by decide +kernel
theorem dX9_layYet_27 : decode cX9_layYet 27 = .ok (.iload_n 3, 1) := by decide +kernel
theorem dX9_layYet_28 : decode cX9_layYet 28 = .ok (.iload 4, 2) := by decide +kernel
theorem dX9_layYet_30 : decode cX9_layYet 30 = .ok (.invokevirtual 146, 3) := by decide +kernel
theorem dX9_layYet_33 : decode cX9_layYet 33 = .ok (.iinc 4 (-1), 3) := by decide +kernel
theorem dX9_layYet_36 : decode cX9_layYet 36 = .ok (.goto (-17), 3) := by decide +kernel
theorem dX9_layYet_39 : decode cX9_layYet 39 = .ok (.iinc 3 (-1), 3) := by decide +kernel
theorem dX9_layYet_42 : decode cX9_layYet 42 = .ok (.goto (-35), 3) := by decide +kernel
theorem dX9_layYet_45 : decode cX9_layYet 45 = .ok (.return_, 1) := by decide +kernel
set_option maxRecDepth 20000 in
theorem ggX9_layOne_X9_spot : GoodIn wsX9_layOne wsX9_spot := goodIn_r _ [7] (by decide +kernel) (by decide +kernel)
set_option maxRecDepth 20000 in
theorem gX9_layOne_X9_spot : GoodIn wsX9_layOne (va_wsS RX9 140 yX9_spot wsX9_spot) := goodIn_app (goodIn_of _ (by decide +kernel)) ggX9_layOne_X9_spot
set_option maxRecDepth 20000 in
theorem ggX9_layOne_X9_wordAt : GoodIn wsX9_layOne wsX9_wordAt := goodIn_r _ [11, 12, 13, 14, 15, 16, 17, 18, 19, 20, 21, 22, 23, 24, 25, 26, 27, 28, 29, 30, 31, 32, 33, 34, 35, 36, 37, 38] (by decide +kernel) (by decide +kernel)
set_option maxRecDepth 20000 in
theorem gX9_layOne_X9_wordAt : GoodIn wsX9_layOne (wsV RX9 108 RX9 yX9_wordAt wsX9_wordAt) := goodIn_app (goodIn_of _ (by decide +kernel)) ggX9_layOne_X9_wordAt
theorem dX9_layOne_0 : decode cX9_layOne 0 = .ok (.iload_n 3, 1) := by decide +kernel
theorem dX9_layOne_1 : decode cX9_layOne 1 = .ok (.iload 4, 2) := by decide +kernel
theorem dX9_layOne_3 : decode cX9_layOne 3 = .ok (.invokestatic 140, 3) := by decide +kernel
theorem dX9_layOne_6 : decode cX9_layOne 6 = .ok (.istore 5, 2) := by decide +kernel
theorem dX9_layOne_8 : decode cX9_layOne 8 = .ok (.iload_n 3, 1) := by decide +kernel
theorem dX9_layOne_9 : decode cX9_layOne 9 = .ok (.aload_n 0, 1) := by decide +kernel
theorem dX9_layOne_10 : decode cX9_layOne 10 = .ok (.getfield 22, 3) := by decide +kernel
theorem dX9_layOne_13 : decode cX9_layOne 13 = .ok (.iload_n 1, 1) := by decide +kernel
theorem dX9_layOne_14 : decode cX9_layOne 14 = .ok (.iaload, 1) := by decide +kernel
theorem dX9_layOne_15 : decode cX9_layOne 15 = .ok (.if_icmp .eq 14, 3) := by decide +kernel
theorem dX9_layOne_18 : decode cX9_layOne 18 = .ok (.iload 4, 2) := by decide +kernel
theorem dX9_layOne_20 : decode cX9_layOne 20 = .ok (.aload_n 0, 1) := by decide +kernel
theorem dX9_layOne_21 : decode cX9_layOne 21 = .ok (.getfield 22, 3) := by decide +kernel
theorem dX9_layOne_24 : decode cX9_layOne 24 = .ok (.iload_n 2, 1) := by decide +kernel
theorem dX9_layOne_25 : decode cX9_layOne 25 = .ok (.iaload, 1) := by decide +kernel
theorem dX9_layOne_26 : decode cX9_layOne 26 = .ok (.if_icmp .ne 37, 3) := by decide +kernel
theorem dX9_layOne_29 : decode cX9_layOne 29 = .ok (.aload_n 0, 1) := by decide +kernel
theorem dX9_layOne_30 : decode cX9_layOne 30 = .ok (.getfield 47, 3) := by decide +kernel
theorem dX9_layOne_33 : decode cX9_layOne 33 = .ok (.iload 5, 2) := by decide +kernel
theorem dX9_layOne_35 : decode cX9_layOne 35 = .ok (.aload_n 0, 1) := by decide +kernel
theorem dX9_layOne_36 : decode cX9_layOne 36 = .ok (.getfield 22, 3) := by decide +kernel
theorem dX9_layOne_39 : decode cX9_layOne 39 = .ok (.iload_n 1, 1) := by decide +kernel
theorem dX9_layOne_40 : decode cX9_layOne 40 = .ok (.iaload, 1) := by decide +kernel
theorem dX9_layOne_41 : decode cX9_layOne 41 = .ok (.iload_n 3, 1) := by decide +kernel
theorem dX9_layOne_42 : decode cX9_layOne 42 = .ok (.isub, 1) := by decide +kernel
theorem dX9_layOne_43 : decode cX9_layOne 43 = .ok (.aload_n 0, 1) := by decide +kernel
theorem dX9_layOne_44 : decode cX9_layOne 44 = .ok (.getfield 22, 3) := by decide +kernel
theorem dX9_layOne_47 : decode cX9_layOne 47 = .ok (.iload_n 2, 1) := by decide +kernel
theorem dX9_layOne_48 : decode cX9_layOne 48 = .ok (.iaload, 1) := by decide +kernel
theorem dX9_layOne_49 : decode cX9_layOne 49 = .ok (.iadd, 1) := by decide +kernel
theorem dX9_layOne_50 : decode cX9_layOne 50 = .ok (.iload 4, 2) := by decide +kernel
theorem dX9_layOne_52 : decode cX9_layOne 52 = .ok (.isub, 1) := by decide +kernel
theorem dX9_layOne_53 : decode cX9_layOne 53 = .ok (.iastore, 1) := by decide +kernel
theorem dX9_layOne_54 : decode cX9_layOne 54 = .ok (.aload_n 0, 1) := by decide +kernel
theorem dX9_layOne_55 : decode cX9_layOne 55 = .ok (.getfield 50, 3) := by decide +kernel
theorem dX9_layOne_58 : decode cX9_layOne 58 = .ok (.iload 5, 2) := by decide +kernel
theorem dX9_layOne_60 : decode cX9_layOne 60 = .ok (.lconst 1, 1) := by decide +kernel
theorem dX9_layOne_61 : decode cX9_layOne 61 = .ok (.lastore, 1) := by decide +kernel
theorem dX9_layOne_62 : decode cX9_layOne 62 = .ok (.return_, 1) := by decide +kernel
theorem dX9_layOne_63 : decode cX9_layOne 63 = .ok (.aload_n 0, 1) := by decide +kernel
theorem dX9_layOne_64 : decode cX9_layOne 64 = .ok (.iload_n 1, 1) := by decide +kernel
theorem dX9_layOne_65 : decode cX9_layOne 65 = .ok (.iload_n 3, 1) := by decide +kernel
theorem dX9_layOne_66 : decode cX9_layOne 66 = .ok (.invokevirtual 108, 3) := by decide +kernel
theorem dX9_layOne_69 : decode cX9_layOne 69 = .ok (.aload_n 0, 1) := by decide +kernel
theorem dX9_layOne_70 : decode cX9_layOne 70 = .ok (.iload_n 2, 1) := by decide +kernel
theorem dX9_layOne_71 : decode cX9_layOne 71 = .ok (.iload 4, 2) := by decide +kernel
theorem dX9_layOne_73 : decode cX9_layOne 73 = .ok (.invokevirtual 108, 3) := by decide +kernel
theorem dX9_layOne_76 : decode cX9_layOne 76 = .ok (.if_icmp .ne 50, 3) := by decide +kernel
theorem dX9_layOne_79 : decode cX9_layOne 79 = .ok (.aload_n 0, 1) := by decide +kernel
theorem dX9_layOne_80 : decode cX9_layOne 80 = .ok (.getfield 47, 3) := by decide +kernel
theorem dX9_layOne_83 : decode cX9_layOne 83 = .ok (.iload 5, 2) := by decide +kernel
theorem dX9_layOne_85 : decode cX9_layOne 85 = .ok (.iconst 1, 1) := by decide +kernel
theorem dX9_layOne_86 : decode cX9_layOne 86 = .ok (.aload_n 0, 1) := by decide +kernel
theorem dX9_layOne_87 : decode cX9_layOne 87 = .ok (.getfield 47, 3) := by decide +kernel
theorem dX9_layOne_90 : decode cX9_layOne 90 = .ok (.iload_n 3, 1) := by decide +kernel
theorem dX9_layOne_91 : decode cX9_layOne 91 = .ok (.iconst 1, 1) := by decide +kernel
theorem dX9_layOne_92 : decode cX9_layOne 92 = .ok (.iadd, 1) := by decide +kernel
theorem dX9_layOne_93 : decode cX9_layOne 93 = .ok (.iload 4, 2) := by decide +kernel
theorem dX9_layOne_95 : decode cX9_layOne 95 = .ok (.iconst 1, 1) := by decide +kernel
theorem dX9_layOne_96 : decode cX9_layOne 96 = .ok (.iadd, 1) := by decide +kernel
theorem dX9_layOne_97 : decode cX9_layOne 97 = .ok (.invokestatic 140, 3) := by decide +kernel
theorem dX9_layOne_100 : decode cX9_layOne 100 = .ok (.iaload, 1) := by decide +kernel
theorem dX9_layOne_101 : decode cX9_layOne 101 = .ok (.iadd, 1) := by decide +kernel
theorem dX9_layOne_102 : decode cX9_layOne 102 = .ok (.iastore, 1) := by decide +kernel
theorem dX9_layOne_103 : decode cX9_layOne 103 = .ok (.aload_n 0, 1) := by decide +kernel
theorem dX9_layOne_104 : decode cX9_layOne 104 = .ok (.getfield 50, 3) := by decide +kernel
theorem dX9_layOne_107 : decode cX9_layOne 107 = .ok (.iload 5, 2) := by decide +kernel
theorem dX9_layOne_109 : decode cX9_layOne 109 = .ok (.aload_n 0, 1) := by decide +kernel
theorem dX9_layOne_110 : decode cX9_layOne 110 = .ok (.getfield 50, 3) := by decide +kernel
theorem dX9_layOne_113 : decode cX9_layOne 113 = .ok (.iload_n 3, 1) := by decide +kernel
theorem dX9_layOne_114 : decode cX9_layOne 114 = .ok (.iconst 1, 1) := by decide +kernel
theorem dX9_layOne_115 : decode cX9_layOne 115 = .ok (.iadd, 1) := by decide +kernel
theorem dX9_layOne_116 : decode cX9_layOne 116 = .ok (.iload 4, 2) := by decide +kernel
theorem dX9_layOne_118 : decode cX9_layOne 118 = .ok (.iconst 1, 1) := by decide +kernel
theorem dX9_layOne_119 : decode cX9_layOne 119 = .ok (.iadd, 1) := by decide +kernel
theorem dX9_layOne_120 : decode cX9_layOne 120 = .ok (.invokestatic 140, 3) := by decide +kernel
theorem dX9_layOne_123 : decode cX9_layOne 123 = .ok (.laload, 1) := by decide +kernel
theorem dX9_layOne_124 : decode cX9_layOne 124 = .ok (.lastore, 1) := by decide +kernel
theorem dX9_layOne_125 : decode cX9_layOne 125 = .ok (.return_, 1) := by decide +kernel
theorem dX9_layOne_126 : decode cX9_layOne 126 = .ok (.aload_n 0, 1) := by decide +kernel
theorem dX9_layOne_127 : decode cX9_layOne 127 = .ok (.getfield 47, 3) := by decide +kernel
theorem dX9_layOne_130 : decode cX9_layOne 130 = .ok (.iload_n 3, 1) := by decide +kernel
theorem dX9_layOne_131 : decode cX9_layOne 131 = .ok (.iconst 1, 1) := by decide +kernel
theorem dX9_layOne_132 : decode cX9_layOne 132 = .ok (.iadd, 1) := by decide +kernel
theorem dX9_layOne_133 : decode cX9_layOne 133 = .ok (.iload 4, 2) := by decide +kernel
theorem dX9_layOne_135 : decode cX9_layOne 135 = .ok (.invokestatic 140, 3) := by decide +kernel
theorem dX9_layOne_138 : decode cX9_layOne 138 = .ok (.iaload, 1) := by decide +kernel
theorem dX9_layOne_139 : decode cX9_layOne 139 = .ok (.istore 6, 2) := by decide +kernel
theorem dX9_layOne_141 : decode cX9_layOne 141 = .ok (.aload_n 0, 1) := by decide +kernel
theorem dX9_layOne_142 : decode cX9_layOne 142 = .ok (.getfield 47, 3) := by decide +kernel
theorem dX9_layOne_145 : decode cX9_layOne 145 = .ok (.iload_n 3, 1) := by decide +kernel
theorem dX9_layOne_146 : decode cX9_layOne 146 = .ok (.iload 4, 2) := by decide +kernel
theorem dX9_layOne_148 : decode cX9_layOne 148 = .ok (.iconst 1, 1) := by decide +kernel
theorem dX9_layOne_149 : decode cX9_layOne 149 = .ok (.iadd, 1) := by decide +kernel
theorem dX9_layOne_150 : decode cX9_layOne 150 = .ok (.invokestatic 140, 3) := by decide +kernel
theorem dX9_layOne_153 : decode cX9_layOne 153 = .ok (.iaload, 1) := by decide +kernel
theorem dX9_layOne_154 : decode cX9_layOne 154 = .ok (.istore 7, 2) := by decide +kernel
theorem dX9_layOne_156 : decode cX9_layOne 156 = .ok (.aload_n 0, 1) := by decide +kernel
theorem dX9_layOne_157 : decode cX9_layOne 157 = .ok (.getfield 47, 3) := by decide +kernel
theorem dX9_layOne_160 : decode cX9_layOne 160 = .ok (.iload 5, 2) := by decide +kernel
theorem dX9_layOne_162 : decode cX9_layOne 162 = .ok (.iconst 1, 1) := by decide +kernel
theorem dX9_layOne_163 : decode cX9_layOne 163 = .ok (.iload 6, 2) := by decide +kernel
theorem dX9_layOne_165 : decode cX9_layOne 165 = .ok (.iload 7, 2) := by decide +kernel
theorem dX9_layOne_167 : decode cX9_layOne 167 = .ok (.if_icmp .ge 8, 3) := by decide +kernel
theorem dX9_layOne_170 : decode cX9_layOne 170 = .ok (.iload 6, 2) := by decide +kernel
theorem dX9_layOne_172 : decode cX9_layOne 172 = .ok (.goto 5, 3) := by decide +kernel
theorem dX9_layOne_175 : decode cX9_layOne 175 = .ok (.iload 7, 2) := by decide +kernel
theorem dX9_layOne_177 : decode cX9_layOne 177 = .ok (.iadd, 1) := by decide +kernel
theorem dX9_layOne_178 : decode cX9_layOne 178 = .ok (.iastore, 1) := by decide +kernel
theorem dX9_layOne_179 : decode cX9_layOne 179 = .ok (.aload_n 0, 1) := by decide +kernel
theorem dX9_layOne_180 : decode cX9_layOne 180 = .ok (.getfield 50, 3) := by decide +kernel
theorem dX9_layOne_183 : decode cX9_layOne 183 = .ok (.iload 5, 2) := by decide +kernel
theorem dX9_layOne_185 : decode cX9_layOne 185 = .ok (.iload 6, 2) := by decide +kernel
theorem dX9_layOne_187 : decode cX9_layOne 187 = .ok (.iload 7, 2) := by decide +kernel
theorem dX9_layOne_189 : decode cX9_layOne 189 = .ok (.if_icmp .gt 19, 3) := by decide +kernel
theorem dX9_layOne_192 : decode cX9_layOne 192 = .ok (.aload_n 0, 1) := by decide +kernel
theorem dX9_layOne_193 : decode cX9_layOne 193 = .ok (.getfield 50, 3) := by decide +kernel
theorem dX9_layOne_196 : decode cX9_layOne 196 = .ok (.iload_n 3, 1) := by decide +kernel
theorem dX9_layOne_197 : decode cX9_layOne 197 = .ok (.iconst 1, 1) := by decide +kernel
theorem dX9_layOne_198 : decode cX9_layOne 198 = .ok (.iadd, 1) := by decide +kernel
theorem dX9_layOne_199 : decode cX9_layOne 199 = .ok (.iload 4, 2) := by decide +kernel
theorem dX9_layOne_201 : decode cX9_layOne 201 = .ok (.invokestatic 140, 3) := by decide +kernel
theorem dX9_layOne_204 : decode cX9_layOne 204 = .ok (.laload, 1) := by decide +kernel
theorem dX9_layOne_205 : decode cX9_layOne 205 = .ok (.goto 4, 3) := by decide +kernel
theorem dX9_layOne_208 : decode cX9_layOne 208 = .ok (.lconst 0, 1) := by decide +kernel
theorem dX9_layOne_209 : decode cX9_layOne 209 = .ok (.iload 7, 2) := by decide +kernel
theorem dX9_layOne_211 : decode cX9_layOne 211 = .ok (.iload 6, 2) := by decide +kernel
theorem dX9_layOne_213 : decode cX9_layOne 213 = .ok (.if_icmp .gt 19, 3) := by decide +kernel
theorem dX9_layOne_216 : decode cX9_layOne 216 = .ok (.aload_n 0, 1) := by decide +kernel
theorem dX9_layOne_217 : decode cX9_layOne 217 = .ok (.getfield 50, 3) := by decide +kernel
theorem dX9_layOne_220 : decode cX9_layOne 220 = .ok (.iload_n 3, 1) := by decide +kernel
theorem dX9_layOne_221 : decode cX9_layOne 221 = .ok (.iload 4, 2) := by decide +kernel
theorem dX9_layOne_223 : decode cX9_layOne 223 = .ok (.iconst 1, 1) := by decide +kernel
theorem dX9_layOne_224 : decode cX9_layOne 224 = .ok (.iadd, 1) := by decide +kernel
theorem dX9_layOne_225 : decode cX9_layOne 225 = .ok (.invokestatic 140, 3) := by decide +kernel
theorem dX9_layOne_228 : decode cX9_layOne 228 = .ok (.laload, 1) := by decide +kernel
theorem dX9_layOne_229 : decode cX9_layOne 229 = .ok (.goto 4, 3) := by decide +kernel
theorem dX9_layOne_232 : decode cX9_layOne 232 = .ok (.lconst 0, 1) := by decide +kernel
theorem dX9_layOne_233 : decode cX9_layOne 233 = .ok (.ladd, 1) := by decide +kernel
theorem dX9_layOne_234 : decode cX9_layOne 234 = .ok (.lastore, 1) := by decide +kernel
theorem dX9_layOne_235 : decode cX9_layOne 235 = .ok (.return_, 1) := by decide +kernel
set_option maxRecDepth 20000 in
theorem ggX9_both_X9_isDay : GoodIn wsX9_both wsX9_isDay := goodIn_r _ [7, 8, 29, 30, 31, 32, 33, 34, 35, 36, 37, 38, 39, 40, 41, 42, 43, 44, 45, 46, 47, 48, 49, 50, 51, 52, 53, 54] (by decide +kernel) (by decide +kernel)
set_option maxRecDepth 20000 in
theorem gX9_both_X9_isDay : GoodIn wsX9_both (wsV RX9 105 RX9 yX9_isDay wsX9_isDay) := goodIn_app (goodIn_of _ (by decide +kernel)) ggX9_both_X9_isDay
set_option maxRecDepth 20000 in
theorem ggX9_both_X9_inside : GoodIn wsX9_both wsX9_inside := goodIn_r _ [11] (by decide +kernel) (by decide +kernel)
set_option maxRecDepth 20000 in
theorem gX9_both_X9_inside : GoodIn wsX9_both (va_wsS RX9 71 yX9_inside wsX9_inside) := goodIn_app (goodIn_of _ (by decide +kernel)) ggX9_both_X9_inside
set_option maxRecDepth 20000 in
theorem ggX9_both_X9_layYet : GoodIn wsX9_both wsX9_layYet := goodIn_r _ [15, 2, 16, 17, 18, 6, 19, 1, 20, 21, 22, 23, 24, 25, 26, 27, 28, 29, 30, 31, 32, 33, 34, 35, 36, 37, 38, 39, 40, 41, 42, 43, 44, 45, 46, 47, 48, 49, 50, 51, 52, 53, 54] (by decide +kernel) (by decide +kernel)
set_option maxRecDepth 20000 in
theorem gX9_both_X9_layYet : GoodIn wsX9_both (wsV RX9 150 RX9 yX9_layYet wsX9_layYet) := goodIn_app (goodIn_of _ (by decide +kernel)) ggX9_both_X9_layYet
theorem dX9_both_0 : decode cX9_both 0 = .ok (.aload_n 0, 1) := by decide +kernel
theorem dX9_both_1 : decode cX9_both 1 = .ok (.iload_n 1, 1) := by decide +kernel
theorem dX9_both_2 : decode cX9_both 2 = .ok (.invokevirtual 105, 3) := by decide +kernel
