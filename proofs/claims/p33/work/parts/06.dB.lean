theorem dX8_init_114 : decode cX8_init 114 = .ok (.iconst 0, 1) := by decide +kernel
theorem dX8_init_115 : decode cX8_init 115 = .ok (.putfield 77, 3) := by decide +kernel
theorem dX8_init_118 : decode cX8_init 118 = .ok (.iconst 0, 1) := by decide +kernel
theorem dX8_init_119 : decode cX8_init 119 = .ok (.istore_n 1, 1) := by decide +kernel
theorem dX8_init_120 : decode cX8_init 120 = .ok (.iload_n 1, 1) := by decide +kernel
theorem dX8_init_121 : decode cX8_init 121 = .ok (.bipush 6, 2) := by decide +kernel
theorem dX8_init_123 : decode cX8_init 123 = .ok (.if_icmp .ge 22, 3) := by decide +kernel
theorem dX8_init_126 : decode cX8_init 126 = .ok (.aload_n 0, 1) := by decide +kernel
theorem dX8_init_127 : decode cX8_init 127 = .ok (.getfield 17, 3) := by decide +kernel
theorem dX8_init_130 : decode cX8_init 130 = .ok (.iload_n 1, 1) := by decide +kernel
theorem dX8_init_131 : decode cX8_init 131 = .ok (.new 15, 3) := by decide +kernel
theorem dX8_init_134 : decode cX8_init 134 = .ok (.dup, 1) := by decide +kernel
theorem dX8_init_135 : decode cX8_init 135 = .ok (.invokespecial 27, 3) := by decide +kernel
theorem dX8_init_138 : decode cX8_init 138 = .ok (.aastore, 1) := by decide +kernel
theorem dX8_init_139 : decode cX8_init 139 = .ok (.iinc 1 1, 3) := by decide +kernel
theorem dX8_init_142 : decode cX8_init 142 = .ok (.goto (-22), 3) := by decide +kernel
theorem dX8_init_145 : decode cX8_init 145 = .ok (.iconst 0, 1) := by decide +kernel
theorem dX8_init_146 : decode cX8_init 146 = .ok (.istore_n 1, 1) := by decide +kernel
theorem dX8_init_147 : decode cX8_init 147 = .ok (.iload_n 1, 1) := by decide +kernel
theorem dX8_init_148 : decode cX8_init 148 = .ok (.iconst 4, 1) := by decide +kernel
theorem dX8_init_149 : decode cX8_init 149 = .ok (.if_icmp .ge 22, 3) := by decide +kernel
theorem dX8_init_152 : decode cX8_init 152 = .ok (.aload_n 0, 1) := by decide +kernel
theorem dX8_init_153 : decode cX8_init 153 = .ok (.getfield 23, 3) := by decide +kernel
theorem dX8_init_156 : decode cX8_init 156 = .ok (.iload_n 1, 1) := by decide +kernel
theorem dX8_init_157 : decode cX8_init 157 = .ok (.new 21, 3) := by decide +kernel
theorem dX8_init_160 : decode cX8_init 160 = .ok (.dup, 1) := by decide +kernel
theorem dX8_init_161 : decode cX8_init 161 = .ok (.invokespecial 80, 3) := by decide +kernel
theorem dX8_init_164 : decode cX8_init 164 = .ok (.aastore, 1) := by decide +kernel
theorem dX8_init_165 : decode cX8_init 165 = .ok (.iinc 1 1, 3) := by decide +kernel
theorem dX8_init_168 : decode cX8_init 168 = .ok (.goto (-21), 3) := by decide +kernel
theorem dX8_init_171 : decode cX8_init 171 = .ok (.return_, 1) := by decide +kernel
set_option maxRecDepth 20000 in
theorem ggX8_cries_X8_sheetOf : GoodIn wsX8_cries wsX8_sheetOf := goodIn_r _ [7, 8, 82, 83, 84, 85, 86, 87, 88, 89, 90, 91, 92, 93, 94] (by decide +kernel) (by decide +kernel)
set_option maxRecDepth 20000 in
theorem gX8_cries_X8_sheetOf : GoodIn wsX8_cries (wsV RX8 81 RX8 yX8_sheetOf wsX8_sheetOf) := goodIn_app (goodIn_of _ (by decide +kernel)) ggX8_cries_X8_sheetOf
set_option maxRecDepth 20000 in
theorem ggX8_cries_X8_isSort : GoodIn wsX8_cries wsX8_isSort := goodIn_r _ [11] (by decide +kernel) (by decide +kernel)
set_option maxRecDepth 20000 in
theorem gX8_cries_X8_isSort : GoodIn wsX8_cries (va_wsS RX8 85 yX8_isSort wsX8_isSort) := goodIn_app (goodIn_of _ (by decide +kernel)) ggX8_cries_X8_isSort
set_option maxRecDepth 20000 in
theorem ggX8_cries_X8_readingFault : GoodIn wsX8_cries wsX8_readingFault := goodIn_r _ [14, 15, 16, 17, 18, 19, 20, 21, 22, 23, 24, 25, 95, 96, 97] (by decide +kernel) (by decide +kernel)
set_option maxRecDepth 20000 in
theorem gX8_cries_X8_readingFault : GoodIn wsX8_cries (va_wsS RX8 89 yX8_readingFault wsX8_readingFault) := goodIn_app (goodIn_of _ (by decide +kernel)) ggX8_cries_X8_readingFault
set_option maxRecDepth 20000 in
theorem ggX8_cries_X8_fails : GoodIn wsX8_cries wsX8_fails := goodIn_r _ [29, 1, 82, 83, 84, 85, 86, 87, 88, 89, 90, 91, 92, 93, 94] (by decide +kernel) (by decide +kernel)
set_option maxRecDepth 20000 in
theorem gX8_cries_X8_fails : GoodIn wsX8_cries (wsV RX8 93 RX8 yX8_fails wsX8_fails) := goodIn_app (goodIn_of _ (by decide +kernel)) ggX8_cries_X8_fails
set_option maxRecDepth 20000 in
theorem ggX8_cries_X6_hasCells : GoodIn wsX8_cries wsX6_hasCells := goodIn_r _ [33, 20, 95, 96, 97] (by decide +kernel) (by decide +kernel)
set_option maxRecDepth 20000 in
theorem gX8_cries_X6_hasCells : GoodIn wsX8_cries (wsV RX8 97 RX6 yX6_hasCells wsX6_hasCells) := goodIn_app (goodIn_of _ (by decide +kernel)) ggX8_cries_X6_hasCells
set_option maxRecDepth 20000 in
theorem ggX8_cries_X8_firstFaultOf : GoodIn wsX8_cries wsX8_firstFaultOf := goodIn_r _ [36, 37, 38, 39, 18, 40, 41, 42, 31, 32, 33, 20, 43, 44, 6, 45, 95, 96, 97] (by decide +kernel) (by decide +kernel)
set_option maxRecDepth 20000 in
theorem gX8_cries_X8_firstFaultOf : GoodIn wsX8_cries (va_wsS RX8 101 yX8_firstFaultOf wsX8_firstFaultOf) := goodIn_app (goodIn_of _ (by decide +kernel)) ggX8_cries_X8_firstFaultOf
set_option maxRecDepth 20000 in
theorem ggX8_cries_X8_takeText : GoodIn wsX8_cries wsX8_takeText := goodIn_r _ [49, 2, 50, 51, 52, 6, 53, 54, 55, 56, 57, 58, 59, 60, 61, 62, 63, 64, 65, 66, 67, 68, 37, 38, 39, 18, 40, 41, 42, 31, 32, 33, 20, 43, 44, 45, 69, 70, 71, 72, 73, 74, 75, 76, 77, 78, 79, 80, 81, 82, 83, 84, 85, 86, 87, 88, 89, 90, 91, 92, 93, 94, 98, 99, 95, 96, 97] (by decide +kernel) (by decide +kernel)
set_option maxRecDepth 20000 in
theorem gX8_cries_X8_takeText : GoodIn wsX8_cries (wsV RX8 105 RX8 yX8_takeText wsX8_takeText) := goodIn_app (goodIn_of _ (by decide +kernel)) ggX8_cries_X8_takeText
theorem dX8_cries_0 : decode cX8_cries 0 = .ok (.aload_n 0, 1) := by decide +kernel
theorem dX8_cries_1 : decode cX8_cries 1 = .ok (.iconst 0, 1) := by decide +kernel
theorem dX8_cries_2 : decode cX8_cries 2 = .ok (.putfield 77, 3) := by decide +kernel
theorem dX8_cries_5 : decode cX8_cries 5 = .ok (.aload_n 0, 1) := by decide +kernel
theorem dX8_cries_6 : decode cX8_cries 6 = .ok (.iload_n 1, 1) := by decide +kernel
theorem dX8_cries_7 : decode cX8_cries 7 = .ok (.invokevirtual 81, 3) := by decide +kernel
theorem dX8_cries_10 : decode cX8_cries 10 = .ok (.astore 5, 2) := by decide +kernel
theorem dX8_cries_12 : decode cX8_cries 12 = .ok (.aload 5, 2) := by decide +kernel
theorem dX8_cries_14 : decode cX8_cries 14 = .ok (.ifnonnull 5, 3) := by decide +kernel
theorem dX8_cries_17 : decode cX8_cries 17 = .ok (.iconst (-1), 1) := by decide +kernel
theorem dX8_cries_18 : decode cX8_cries 18 = .ok (.ireturn, 1) := by decide +kernel
theorem dX8_cries_19 : decode cX8_cries 19 = .ok (.iload_n 2, 1) := by decide +kernel
theorem dX8_cries_20 : decode cX8_cries 20 = .ok (.invokestatic 85, 3) := by decide +kernel
theorem dX8_cries_23 : decode cX8_cries 23 = .ok (.ifCond .ne 6, 3) := by decide +kernel
theorem dX8_cries_26 : decode cX8_cries 26 = .ok (.bipush (-2), 2) := by decide +kernel
theorem dX8_cries_28 : decode cX8_cries 28 = .ok (.ireturn, 1) := by decide +kernel
theorem dX8_cries_29 : decode cX8_cries 29 = .ok (.aload 5, 2) := by decide +kernel
theorem dX8_cries_31 : decode cX8_cries 31 = .ok (.iload_n 2, 1) := by decide +kernel
theorem dX8_cries_32 : decode cX8_cries 32 = .ok (.invokestatic 89, 3) := by decide +kernel
theorem dX8_cries_35 : decode cX8_cries 35 = .ok (.istore 6, 2) := by decide +kernel
theorem dX8_cries_37 : decode cX8_cries 37 = .ok (.iload 6, 2) := by decide +kernel
theorem dX8_cries_39 : decode cX8_cries 39 = .ok (.ifCond .eq 10, 3) := by decide +kernel
theorem dX8_cries_42 : decode cX8_cries 42 = .ok (.aload_n 0, 1) := by decide +kernel
theorem dX8_cries_43 : decode cX8_cries 43 = .ok (.iload 6, 2) := by decide +kernel
theorem dX8_cries_45 : decode cX8_cries 45 = .ok (.invokevirtual 93, 3) := by decide +kernel
theorem dX8_cries_48 : decode cX8_cries 48 = .ok (.ireturn, 1) := by decide +kernel
theorem dX8_cries_49 : decode cX8_cries 49 = .ok (.iload 4, 2) := by decide +kernel
theorem dX8_cries_51 : decode cX8_cries 51 = .ok (.ifCond .ge 9, 3) := by decide +kernel
theorem dX8_cries_54 : decode cX8_cries 54 = .ok (.aload_n 0, 1) := by decide +kernel
theorem dX8_cries_55 : decode cX8_cries 55 = .ok (.iconst 4, 1) := by decide +kernel
theorem dX8_cries_56 : decode cX8_cries 56 = .ok (.invokevirtual 93, 3) := by decide +kernel
theorem dX8_cries_59 : decode cX8_cries 59 = .ok (.ireturn, 1) := by decide +kernel
theorem dX8_cries_60 : decode cX8_cries 60 = .ok (.aload 5, 2) := by decide +kernel
theorem dX8_cries_62 : decode cX8_cries 62 = .ok (.iload_n 3, 1) := by decide +kernel
theorem dX8_cries_63 : decode cX8_cries 63 = .ok (.iload 4, 2) := by decide +kernel
theorem dX8_cries_65 : decode cX8_cries 65 = .ok (.invokevirtual 97, 3) := by decide +kernel
theorem dX8_cries_68 : decode cX8_cries 68 = .ok (.ifCond .ne 9, 3) := by decide +kernel
theorem dX8_cries_71 : decode cX8_cries 71 = .ok (.aload_n 0, 1) := by decide +kernel
theorem dX8_cries_72 : decode cX8_cries 72 = .ok (.iconst 3, 1) := by decide +kernel
theorem dX8_cries_73 : decode cX8_cries 73 = .ok (.invokevirtual 93, 3) := by decide +kernel
theorem dX8_cries_76 : decode cX8_cries 76 = .ok (.ireturn, 1) := by decide +kernel
theorem dX8_cries_77 : decode cX8_cries 77 = .ok (.aload 5, 2) := by decide +kernel
theorem dX8_cries_79 : decode cX8_cries 79 = .ok (.iload_n 3, 1) := by decide +kernel
theorem dX8_cries_80 : decode cX8_cries 80 = .ok (.iload 4, 2) := by decide +kernel
theorem dX8_cries_82 : decode cX8_cries 82 = .ok (.invokestatic 101, 3) := by decide +kernel
theorem dX8_cries_85 : decode cX8_cries 85 = .ok (.istore 7, 2) := by decide +kernel
theorem dX8_cries_87 : decode cX8_cries 87 = .ok (.iload 7, 2) := by decide +kernel
theorem dX8_cries_89 : decode cX8_cries 89 = .ok (.bipush (-9), 2) := by decide +kernel
theorem dX8_cries_91 : decode cX8_cries 91 = .ok (.if_icmp .eq 9, 3) := by decide +kernel
theorem dX8_cries_94 : decode cX8_cries 94 = .ok (.bipush (-100), 2) := by decide +kernel
theorem dX8_cries_96 : decode cX8_cries 96 = .ok (.iload 7, 2) := by decide +kernel
theorem dX8_cries_98 : decode cX8_cries 98 = .ok (.isub, 1) := by decide +kernel
theorem dX8_cries_99 : decode cX8_cries 99 = .ok (.ireturn, 1) := by decide +kernel
theorem dX8_cries_100 : decode cX8_cries 100 = .ok (.aload_n 0, 1) := by decide +kernel
theorem dX8_cries_101 : decode cX8_cries 101 = .ok (.aload 5, 2) := by decide +kernel
theorem dX8_cries_103 : decode cX8_cries 103 = .ok (.iload_n 3, 1) := by decide +kernel
theorem dX8_cries_104 : decode cX8_cries 104 = .ok (.iload 4, 2) := by decide +kernel
theorem dX8_cries_106 : decode cX8_cries 106 = .ok (.invokevirtual 105, 3) := by decide +kernel
theorem dX8_cries_109 : decode cX8_cries 109 = .ok (.aload_n 0, 1) := by decide +kernel
theorem dX8_cries_110 : decode cX8_cries 110 = .ok (.getfield 70, 3) := by decide +kernel
theorem dX8_cries_113 : decode cX8_cries 113 = .ok (.ireturn, 1) := by decide +kernel
set_option maxRecDepth 20000 in
theorem ggX8_kind_X8_isWord : GoodIn wsX8_kind wsX8_isWord := goodIn_r _ [5] (by decide +kernel) (by decide +kernel)
set_option maxRecDepth 20000 in
theorem gX8_kind_X8_isWord : GoodIn wsX8_kind (va_wsS RX8 109 yX8_isWord wsX8_isWord) := goodIn_app (goodIn_of _ (by decide +kernel)) ggX8_kind_X8_isWord
set_option maxRecDepth 20000 in
theorem ggX8_kind_X8_isKind : GoodIn wsX8_kind wsX8_isKind := goodIn_r _ [8] (by decide +kernel) (by decide +kernel)
set_option maxRecDepth 20000 in
theorem gX8_kind_X8_isKind : GoodIn wsX8_kind (va_wsS RX8 112 yX8_isKind wsX8_isKind) := goodIn_app (goodIn_of _ (by decide +kernel)) ggX8_kind_X8_isKind
theorem dX8_kind_0 : decode cX8_kind 0 = .ok (.iload_n 1, 1) := by decide +kernel
theorem dX8_kind_1 : decode cX8_kind 1 = .ok (.invokestatic 109, 3) := by decide +kernel
theorem dX8_kind_4 : decode cX8_kind 4 = .ok (.ifCond .ne 5, 3) := by decide +kernel
theorem dX8_kind_7 : decode cX8_kind 7 = .ok (.iconst (-1), 1) := by decide +kernel
theorem dX8_kind_8 : decode cX8_kind 8 = .ok (.ireturn, 1) := by decide +kernel
theorem dX8_kind_9 : decode cX8_kind 9 = .ok (.iload_n 2, 1) := by decide +kernel
theorem dX8_kind_10 : decode cX8_kind 10 = .ok (.invokestatic 112, 3) := by decide +kernel
theorem dX8_kind_13 : decode cX8_kind 13 = .ok (.ifCond .ne 6, 3) := by decide +kernel
theorem dX8_kind_16 : decode cX8_kind 16 = .ok (.bipush (-2), 2) := by decide +kernel
theorem dX8_kind_18 : decode cX8_kind 18 = .ok (.ireturn, 1) := by decide +kernel
theorem dX8_kind_19 : decode cX8_kind 19 = .ok (.aload_n 0, 1) := by decide +kernel
theorem dX8_kind_20 : decode cX8_kind 20 = .ok (.getfield 11, 3) := by decide +kernel
theorem dX8_kind_23 : decode cX8_kind 23 = .ok (.iload_n 1, 1) := by decide +kernel
theorem dX8_kind_24 : decode cX8_kind 24 = .ok (.iaload, 1) := by decide +kernel
theorem dX8_kind_25 : decode cX8_kind 25 = .ok (.istore_n 3, 1) := by decide +kernel
theorem dX8_kind_26 : decode cX8_kind 26 = .ok (.aload_n 0, 1) := by decide +kernel
theorem dX8_kind_27 : decode cX8_kind 27 = .ok (.getfield 11, 3) := by decide +kernel
theorem dX8_kind_30 : decode cX8_kind 30 = .ok (.iload_n 1, 1) := by decide +kernel
theorem dX8_kind_31 : decode cX8_kind 31 = .ok (.iload_n 2, 1) := by decide +kernel
theorem dX8_kind_32 : decode cX8_kind 32 = .ok (.iastore, 1) := by decide +kernel
theorem dX8_kind_33 : decode cX8_kind 33 = .ok (.iload_n 3, 1) := by decide +kernel
theorem dX8_kind_34 : decode cX8_kind 34 = .ok (.ireturn, 1) := by decide +kernel
set_option maxRecDepth 20000 in
theorem ggX8_ofDay_X8_cryOf : GoodIn wsX8_ofDay wsX8_cryOf := goodIn_r _ [5, 6, 7, 24, 25, 26, 27, 28, 29, 30, 31, 32, 33, 34, 35, 36] (by decide +kernel) (by decide +kernel)
set_option maxRecDepth 20000 in
theorem gX8_ofDay_X8_cryOf : GoodIn wsX8_ofDay (wsV RX8 115 RX8 yX8_cryOf wsX8_cryOf) := goodIn_app (goodIn_of _ (by decide +kernel)) ggX8_ofDay_X8_cryOf
set_option maxRecDepth 20000 in
theorem ggX8_ofDay_X2_size : GoodIn wsX8_ofDay wsX2_size := goodIn_r _ [12, 13, 37, 38] (by decide +kernel) (by decide +kernel)
set_option maxRecDepth 20000 in
theorem gX8_ofDay_X2_size : GoodIn wsX8_ofDay (wsV RX8 119 RX2 yX2_size wsX2_size) := goodIn_app (goodIn_of _ (by decide +kernel)) ggX8_ofDay_X2_size
set_option maxRecDepth 20000 in
theorem ggX8_ofDay_X2_has : GoodIn wsX8_ofDay wsX2_has := goodIn_r _ [17, 13, 37, 38] (by decide +kernel) (by decide +kernel)
set_option maxRecDepth 20000 in
theorem gX8_ofDay_X2_has : GoodIn wsX8_ofDay (wsV RX8 123 RX2 yX2_has wsX2_has) := goodIn_app (goodIn_of _ (by decide +kernel)) ggX8_ofDay_X2_has
set_option maxRecDepth 20000 in
theorem ggX8_ofDay_X2_at : GoodIn wsX8_ofDay wsX2_at := goodIn_r _ [21, 22, 23, 15, 16, 11, 17, 13, 37, 38] (by decide +kernel) (by decide +kernel)
set_option maxRecDepth 20000 in
theorem gX8_ofDay_X2_at : GoodIn wsX8_ofDay (wsV RX8 126 RX2 yX2_at wsX2_at) := goodIn_app (goodIn_of _ (by decide +kernel)) ggX8_ofDay_X2_at
theorem dX8_ofDay_0 : decode cX8_ofDay 0 = .ok (.aload_n 0, 1) := by decide +kernel
theorem dX8_ofDay_1 : decode cX8_ofDay 1 = .ok (.iload_n 1, 1) := by decide +kernel
theorem dX8_ofDay_2 : decode cX8_ofDay 2 = .ok (.invokevirtual 115, 3) := by decide +kernel
theorem dX8_ofDay_5 : decode cX8_ofDay 5 = .ok (.astore_n 3, 1) := by decide +kernel
theorem dX8_ofDay_6 : decode cX8_ofDay 6 = .ok (.aload_n 3, 1) := by decide +kernel
theorem dX8_ofDay_7 : decode cX8_ofDay 7 = .ok (.ifnonnull 5, 3) := by decide +kernel
theorem dX8_ofDay_10 : decode cX8_ofDay 10 = .ok (.iconst (-1), 1) := by decide +kernel
theorem dX8_ofDay_11 : decode cX8_ofDay 11 = .ok (.ireturn, 1) := by decide +kernel
theorem dX8_ofDay_12 : decode cX8_ofDay 12 = .ok (.iload_n 2, 1) := by decide +kernel
theorem dX8_ofDay_13 : decode cX8_ofDay 13 = .ok (.iconst (-1), 1) := by decide +kernel
theorem dX8_ofDay_14 : decode cX8_ofDay 14 = .ok (.if_icmp .ne 8, 3) := by decide +kernel
theorem dX8_ofDay_17 : decode cX8_ofDay 17 = .ok (.aload_n 3, 1) := by decide +kernel
theorem dX8_ofDay_18 : decode cX8_ofDay 18 = .ok (.invokevirtual 119, 3) := by decide +kernel
theorem dX8_ofDay_21 : decode cX8_ofDay 21 = .ok (.ireturn, 1) := by decide +kernel
theorem dX8_ofDay_22 : decode cX8_ofDay 22 = .ok (.aload_n 3, 1) := by decide +kernel
theorem dX8_ofDay_23 : decode cX8_ofDay 23 = .ok (.iload_n 2, 1) := by decide +kernel
theorem dX8_ofDay_24 : decode cX8_ofDay 24 = .ok (.invokevirtual 123, 3) := by decide +kernel
theorem dX8_ofDay_27 : decode cX8_ofDay 27 = .ok (.ifCond .eq 11, 3) := by decide +kernel
theorem dX8_ofDay_30 : decode cX8_ofDay 30 = .ok (.aload_n 3, 1) := by decide +kernel
theorem dX8_ofDay_31 : decode cX8_ofDay 31 = .ok (.iload_n 2, 1) := by decide +kernel
theorem dX8_ofDay_32 : decode cX8_ofDay 32 = .ok (.invokevirtual 126, 3) := by decide +kernel
theorem dX8_ofDay_35 : decode cX8_ofDay 35 = .ok (.goto 4, 3) := by decide +kernel
theorem dX8_ofDay_38 : decode cX8_ofDay 38 = .ok (.iconst (-1), 1) := by decide +kernel
theorem dX8_ofDay_39 : decode cX8_ofDay 39 = .ok (.ireturn, 1) := by decide +kernel
set_option maxRecDepth 20000 in
theorem ggX8_within_X8_cryOf : GoodIn wsX8_within wsX8_cryOf := goodIn_r _ [6, 7, 8, 32, 33, 34, 35, 36, 37, 38, 39, 40, 41, 42, 43, 44] (by decide +kernel) (by decide +kernel)
set_option maxRecDepth 20000 in
theorem gX8_within_X8_cryOf : GoodIn wsX8_within (wsV RX8 115 RX8 yX8_cryOf wsX8_cryOf) := goodIn_app (goodIn_of _ (by decide +kernel)) ggX8_within_X8_cryOf
set_option maxRecDepth 20000 in
theorem ggX8_within_X3_make : GoodIn wsX8_within wsX3_make := goodIn_r _ [13, 14, 15, 16, 17, 18, 19, 20, 21, 22, 23, 24, 25, 26, 27, 28, 29, 30, 31, 45, 46, 47, 48, 49] (by decide +kernel) (by decide +kernel)
set_option maxRecDepth 20000 in
theorem gX8_within_X3_make : GoodIn wsX8_within (wsV RX8 141 RX3 yX3_make wsX3_make) := goodIn_app (goodIn_of _ (by decide +kernel)) ggX8_within_X3_make
theorem dX8_within_0 : decode cX8_within 0 = .ok (.aload_n 0, 1) := by decide +kernel
theorem dX8_within_1 : decode cX8_within 1 = .ok (.iload_n 1, 1) := by decide +kernel
theorem dX8_within_2 : decode cX8_within 2 = .ok (.invokevirtual 115, 3) := by decide +kernel
theorem dX8_within_5 : decode cX8_within 5 = .ok (.astore_n 3, 1) := by decide +kernel
theorem dX8_within_6 : decode cX8_within 6 = .ok (.aload_n 0, 1) := by decide +kernel
theorem dX8_within_7 : decode cX8_within 7 = .ok (.iload_n 2, 1) := by decide +kernel
theorem dX8_within_8 : decode cX8_within 8 = .ok (.invokevirtual 115, 3) := by decide +kernel
theorem dX8_within_11 : decode cX8_within 11 = .ok (.astore 4, 2) := by decide +kernel
theorem dX8_within_13 : decode cX8_within 13 = .ok (.aload_n 3, 1) := by decide +kernel
theorem dX8_within_14 : decode cX8_within 14 = .ok (.ifnull 8, 3) := by decide +kernel
theorem dX8_within_17 : decode cX8_within 17 = .ok (.aload 4, 2) := by decide +kernel
theorem dX8_within_19 : decode cX8_within 19 = .ok (.ifnonnull 5, 3) := by decide +kernel
theorem dX8_within_22 : decode cX8_within 22 = .ok (.iconst (-1), 1) := by decide +kernel
theorem dX8_within_23 : decode cX8_within 23 = .ok (.ireturn, 1) := by decide +kernel
theorem dX8_within_24 : decode cX8_within 24 = .ok (.aload_n 0, 1) := by decide +kernel
theorem dX8_within_25 : decode cX8_within 25 = .ok (.getfield 35, 3) := by decide +kernel
theorem dX8_within_28 : decode cX8_within 28 = .ok (.aload_n 3, 1) := by decide +kernel
theorem dX8_within_29 : decode cX8_within 29 = .ok (.aload 4, 2) := by decide +kernel
theorem dX8_within_31 : decode cX8_within 31 = .ok (.invokevirtual 141, 3) := by decide +kernel
theorem dX8_within_34 : decode cX8_within 34 = .ok (.ifCond .eq 7, 3) := by decide +kernel
theorem dX8_within_37 : decode cX8_within 37 = .ok (.iconst 1, 1) := by decide +kernel
theorem dX8_within_38 : decode cX8_within 38 = .ok (.goto 4, 3) := by decide +kernel
theorem dX8_within_41 : decode cX8_within 41 = .ok (.iconst 0, 1) := by decide +kernel
theorem dX8_within_42 : decode cX8_within 42 = .ok (.ireturn, 1) := by decide +kernel
set_option maxRecDepth 20000 in
theorem ggX8_leftOut_X8_cryOf : GoodIn wsX8_leftOut wsX8_cryOf := goodIn_r _ [7, 1, 8, 32, 33, 34, 35, 36, 37, 38, 39, 40, 41, 42, 43, 44] (by decide +kernel) (by decide +kernel)
set_option maxRecDepth 20000 in
theorem gX8_leftOut_X8_cryOf : GoodIn wsX8_leftOut (wsV RX8 115 RX8 yX8_cryOf wsX8_cryOf) := goodIn_app (goodIn_of _ (by decide +kernel)) ggX8_leftOut_X8_cryOf
set_option maxRecDepth 20000 in
theorem ggX8_leftOut_X3_make : GoodIn wsX8_leftOut wsX3_make := goodIn_r _ [13, 14, 15, 16, 17, 18, 19, 20, 21, 22, 23, 24, 25, 26, 27, 28, 29, 30, 31, 45, 46, 47, 48, 49] (by decide +kernel) (by decide +kernel)
set_option maxRecDepth 20000 in
theorem gX8_leftOut_X3_make : GoodIn wsX8_leftOut (wsV RX8 141 RX3 yX3_make wsX3_make) := goodIn_app (goodIn_of _ (by decide +kernel)) ggX8_leftOut_X3_make
theorem dX8_leftOut_0 : decode cX8_leftOut 0 = .ok (.iconst 1, 1) := by decide +kernel
theorem dX8_leftOut_1 : decode cX8_leftOut 1 = .ok (.istore_n 1, 1) := by decide +kernel
theorem dX8_leftOut_2 : decode cX8_leftOut 2 = .ok (.iload_n 1, 1) := by decide +kernel
theorem dX8_leftOut_3 : decode cX8_leftOut 3 = .ok (.aload_n 0, 1) := by decide +kernel
theorem dX8_leftOut_4 : decode cX8_leftOut 4 = .ok (.getfield 70, 3) := by decide +kernel
theorem dX8_leftOut_7 : decode cX8_leftOut 7 = .ok (.if_icmp .ge 45, 3) := by decide +kernel
theorem dX8_leftOut_10 : decode cX8_leftOut 10 = .ok (.aload_n 0, 1) := by decide +kernel
theorem dX8_leftOut_11 : decode cX8_leftOut 11 = .ok (.iload_n 1, 1) := by decide +kernel
theorem dX8_leftOut_12 : decode cX8_leftOut 12 = .ok (.iconst 1, 1) := by decide +kernel
theorem dX8_leftOut_13 : decode cX8_leftOut 13 = .ok (.isub, 1) := by decide +kernel
theorem dX8_leftOut_14 : decode cX8_leftOut 14 = .ok (.invokevirtual 115, 3) := by decide +kernel
theorem dX8_leftOut_17 : decode cX8_leftOut 17 = .ok (.astore_n 2, 1) := by decide +kernel
theorem dX8_leftOut_18 : decode cX8_leftOut 18 = .ok (.aload_n 0, 1) := by decide +kernel
theorem dX8_leftOut_19 : decode cX8_leftOut 19 = .ok (.iload_n 1, 1) := by decide +kernel
theorem dX8_leftOut_20 : decode cX8_leftOut 20 = .ok (.invokevirtual 115, 3) := by decide +kernel
theorem dX8_leftOut_23 : decode cX8_leftOut 23 = .ok (.astore_n 3, 1) := by decide +kernel
theorem dX8_leftOut_24 : decode cX8_leftOut 24 = .ok (.aload_n 2, 1) := by decide +kernel
theorem dX8_leftOut_25 : decode cX8_leftOut 25 = .ok (.ifnull 21, 3) := by decide +kernel
theorem dX8_leftOut_28 : decode cX8_leftOut 28 = .ok (.aload_n 3, 1) := by decide +kernel
theorem dX8_leftOut_29 : decode cX8_leftOut 29 = .ok (.ifnull 17, 3) := by decide +kernel
theorem dX8_leftOut_32 : decode cX8_leftOut 32 = .ok (.aload_n 0, 1) := by decide +kernel
theorem dX8_leftOut_33 : decode cX8_leftOut 33 = .ok (.getfield 35, 3) := by decide +kernel
theorem dX8_leftOut_36 : decode cX8_leftOut 36 = .ok (.aload_n 2, 1) := by decide +kernel
theorem dX8_leftOut_37 : decode cX8_leftOut 37 = .ok (.aload_n 3, 1) := by decide +kernel
theorem dX8_leftOut_38 : decode cX8_leftOut 38 = .ok (.invokevirtual 141, 3) := by decide +kernel
theorem dX8_leftOut_41 : decode cX8_leftOut 41 = .ok (.ifCond .ne 5, 3) := by decide +kernel
theorem dX8_leftOut_44 : decode cX8_leftOut 44 = .ok (.iload_n 1, 1) := by decide +kernel
theorem dX8_leftOut_45 : decode cX8_leftOut 45 = .ok (.ireturn, 1) := by decide +kernel
theorem dX8_leftOut_46 : decode cX8_leftOut 46 = .ok (.iinc 1 1, 3) := by decide +kernel
theorem dX8_leftOut_49 : decode cX8_leftOut 49 = .ok (.goto (-47), 3) := by decide +kernel
theorem dX8_leftOut_52 : decode cX8_leftOut 52 = .ok (.bipush (-9), 2) := by decide +kernel
theorem dX8_leftOut_54 : decode cX8_leftOut 54 = .ok (.ireturn, 1) := by decide +kernel
set_option maxRecDepth 20000 in
theorem ggX8_said_X8_cryOf : GoodIn wsX8_said wsX8_cryOf := goodIn_r _ [6, 7, 8, 31, 32, 33, 34, 35, 36, 37, 38, 39, 40, 41, 42, 43] (by decide +kernel) (by decide +kernel)
set_option maxRecDepth 20000 in
theorem gX8_said_X8_cryOf : GoodIn wsX8_said (wsV RX8 115 RX8 yX8_cryOf wsX8_cryOf) := goodIn_app (goodIn_of _ (by decide +kernel)) ggX8_said_X8_cryOf
set_option maxRecDepth 20000 in
theorem ggX8_said_X5_isSaid : GoodIn wsX8_said wsX5_isSaid := goodIn_r _ [12, 13, 14, 15, 16, 17, 18, 19, 20, 21, 22, 23, 24, 25, 26, 27, 28, 29, 11, 30, 44, 45] (by decide +kernel) (by decide +kernel)
set_option maxRecDepth 20000 in
theorem gX8_said_X5_isSaid : GoodIn wsX8_said (va_wsS RX8 145 yX5_isSaid wsX5_isSaid) := goodIn_app (goodIn_of _ (by decide +kernel)) ggX8_said_X5_isSaid
theorem dX8_said_0 : decode cX8_said 0 = .ok (.aload_n 0, 1) := by decide +kernel
theorem dX8_said_1 : decode cX8_said 1 = .ok (.iload_n 1, 1) := by decide +kernel
theorem dX8_said_2 : decode cX8_said 2 = .ok (.invokevirtual 115, 3) := by decide +kernel
theorem dX8_said_5 : decode cX8_said 5 = .ok (.astore_n 2, 1) := by decide +kernel
theorem dX8_said_6 : decode cX8_said 6 = .ok (.aload_n 2, 1) := by decide +kernel
theorem dX8_said_7 : decode cX8_said 7 = .ok (.ifnonnull 5, 3) := by decide +kernel
theorem dX8_said_10 : decode cX8_said 10 = .ok (.iconst (-1), 1) := by decide +kernel
theorem dX8_said_11 : decode cX8_said 11 = .ok (.ireturn, 1) := by decide +kernel
theorem dX8_said_12 : decode cX8_said 12 = .ok (.iconst 0, 1) := by decide +kernel
theorem dX8_said_13 : decode cX8_said 13 = .ok (.istore_n 3, 1) := by decide +kernel
theorem dX8_said_14 : decode cX8_said 14 = .ok (.iconst 0, 1) := by decide +kernel
theorem dX8_said_15 : decode cX8_said 15 = .ok (.istore 4, 2) := by decide +kernel
theorem dX8_said_17 : decode cX8_said 17 = .ok (.iload 4, 2) := by decide +kernel
theorem dX8_said_19 : decode cX8_said 19 = .ok (.bipush 8, 2) := by decide +kernel
theorem dX8_said_21 : decode cX8_said 21 = .ok (.if_icmp .ge 39, 3) := by decide +kernel
theorem dX8_said_24 : decode cX8_said 24 = .ok (.aload_n 0, 1) := by decide +kernel
theorem dX8_said_25 : decode cX8_said 25 = .ok (.getfield 11, 3) := by decide +kernel
theorem dX8_said_28 : decode cX8_said 28 = .ok (.iload 4, 2) := by decide +kernel
theorem dX8_said_30 : decode cX8_said 30 = .ok (.iaload, 1) := by decide +kernel
theorem dX8_said_31 : decode cX8_said 31 = .ok (.ifCond .ne 23, 3) := by decide +kernel
theorem dX8_said_34 : decode cX8_said 34 = .ok (.aload_n 2, 1) := by decide +kernel
theorem dX8_said_35 : decode cX8_said 35 = .ok (.aload_n 0, 1) := by decide +kernel
theorem dX8_said_36 : decode cX8_said 36 = .ok (.getfield 11, 3) := by decide +kernel
theorem dX8_said_39 : decode cX8_said 39 = .ok (.iload 4, 2) := by decide +kernel
theorem dX8_said_41 : decode cX8_said 41 = .ok (.invokestatic 145, 3) := by decide +kernel
theorem dX8_said_44 : decode cX8_said 44 = .ok (.ifCond .eq 10, 3) := by decide +kernel
theorem dX8_said_47 : decode cX8_said 47 = .ok (.iload_n 3, 1) := by decide +kernel
theorem dX8_said_48 : decode cX8_said 48 = .ok (.iconst 1, 1) := by decide +kernel
theorem dX8_said_49 : decode cX8_said 49 = .ok (.iload 4, 2) := by decide +kernel
theorem dX8_said_51 : decode cX8_said 51 = .ok (.ishl, 1) := by decide +kernel
theorem dX8_said_52 : decode cX8_said 52 = .ok (.ior, 1) := by decide +kernel
theorem dX8_said_53 : decode cX8_said 53 = .ok (.istore_n 3, 1) := by decide +kernel
theorem dX8_said_54 : decode cX8_said 54 = .ok (.iinc 4 1, 3) := by decide +kernel
theorem dX8_said_57 : decode cX8_said 57 = .ok (.goto (-40), 3) := by decide +kernel
theorem dX8_said_60 : decode cX8_said 60 = .ok (.iload_n 3, 1) := by decide +kernel
theorem dX8_said_61 : decode cX8_said 61 = .ok (.ireturn, 1) := by decide +kernel
set_option maxRecDepth 20000 in
theorem ggX8_ways_X8_cryOf : GoodIn wsX8_ways wsX8_cryOf := goodIn_r _ [7, 8, 9, 39, 40, 41, 42, 43, 44, 45, 46, 47, 48, 49, 50, 51] (by decide +kernel) (by decide +kernel)
set_option maxRecDepth 20000 in
theorem gX8_ways_X8_cryOf : GoodIn wsX8_ways (wsV RX8 115 RX8 yX8_cryOf wsX8_cryOf) := goodIn_app (goodIn_of _ (by decide +kernel)) ggX8_ways_X8_cryOf
set_option maxRecDepth 20000 in
theorem ggX8_ways_X3_choices : GoodIn wsX8_ways wsX3_choices := goodIn_r _ [14, 15, 16, 17, 18, 19, 20, 21, 22, 23, 24, 25, 26, 27, 28, 29, 30, 31, 32, 33, 34, 35, 36, 37, 38, 52, 53, 54, 55, 56] (by decide +kernel) (by decide +kernel)
set_option maxRecDepth 20000 in
theorem gX8_ways_X3_choices : GoodIn wsX8_ways (wsV RX8 158 RX3 yX3_choices wsX3_choices) := goodIn_app (goodIn_of _ (by decide +kernel)) ggX8_ways_X3_choices
theorem dX8_ways_0 : decode cX8_ways 0 = .ok (.aload_n 0, 1) := by decide +kernel
theorem dX8_ways_1 : decode cX8_ways 1 = .ok (.iload_n 1, 1) := by decide +kernel
theorem dX8_ways_2 : decode cX8_ways 2 = .ok (.invokevirtual 115, 3) := by decide +kernel
theorem dX8_ways_5 : decode cX8_ways 5 = .ok (.astore_n 3, 1) := by decide +kernel
theorem dX8_ways_6 : decode cX8_ways 6 = .ok (.aload_n 0, 1) := by decide +kernel
theorem dX8_ways_7 : decode cX8_ways 7 = .ok (.iload_n 2, 1) := by decide +kernel
theorem dX8_ways_8 : decode cX8_ways 8 = .ok (.invokevirtual 115, 3) := by decide +kernel
theorem dX8_ways_11 : decode cX8_ways 11 = .ok (.astore 4, 2) := by decide +kernel
theorem dX8_ways_13 : decode cX8_ways 13 = .ok (.aload_n 3, 1) := by decide +kernel
theorem dX8_ways_14 : decode cX8_ways 14 = .ok (.ifnull 8, 3) := by decide +kernel
theorem dX8_ways_17 : decode cX8_ways 17 = .ok (.aload 4, 2) := by decide +kernel
theorem dX8_ways_19 : decode cX8_ways 19 = .ok (.ifnonnull 7, 3) := by decide +kernel
theorem dX8_ways_22 : decode cX8_ways 22 = .ok (.ldc2_w 156, 3) := by decide +kernel
theorem dX8_ways_25 : decode cX8_ways 25 = .ok (.lreturn, 1) := by decide +kernel
theorem dX8_ways_26 : decode cX8_ways 26 = .ok (.aload_n 0, 1) := by decide +kernel
theorem dX8_ways_27 : decode cX8_ways 27 = .ok (.getfield 35, 3) := by decide +kernel
theorem dX8_ways_30 : decode cX8_ways 30 = .ok (.aload_n 3, 1) := by decide +kernel
theorem dX8_ways_31 : decode cX8_ways 31 = .ok (.aload 4, 2) := by decide +kernel
theorem dX8_ways_33 : decode cX8_ways 33 = .ok (.invokevirtual 158, 3) := by decide +kernel
theorem dX8_ways_36 : decode cX8_ways 36 = .ok (.lreturn, 1) := by decide +kernel
set_option maxRecDepth 20000 in
theorem ggX8_place_X8_cryOf : GoodIn wsX8_place wsX8_cryOf := goodIn_r _ [6, 7, 8, 44, 45, 46, 47, 48, 49, 50, 51, 52, 53, 54, 55, 56] (by decide +kernel) (by decide +kernel)
set_option maxRecDepth 20000 in
theorem gX8_place_X8_cryOf : GoodIn wsX8_place (wsV RX8 115 RX8 yX8_cryOf wsX8_cryOf) := goodIn_app (goodIn_of _ (by decide +kernel)) ggX8_place_X8_cryOf
set_option maxRecDepth 20000 in
theorem ggX8_place_X2_has : GoodIn wsX8_place wsX2_has := goodIn_r _ [13, 14, 57, 58] (by decide +kernel) (by decide +kernel)
set_option maxRecDepth 20000 in
theorem gX8_place_X2_has : GoodIn wsX8_place (wsV RX8 123 RX2 yX2_has wsX2_has) := goodIn_app (goodIn_of _ (by decide +kernel)) ggX8_place_X2_has
set_option maxRecDepth 20000 in
theorem ggX8_place_X8_isFirstOrSecond : GoodIn wsX8_place wsX8_isFirstOrSecond := goodIn_r _ [17] (by decide +kernel) (by decide +kernel)
set_option maxRecDepth 20000 in
theorem gX8_place_X8_isFirstOrSecond : GoodIn wsX8_place (va_wsS RX8 162 yX8_isFirstOrSecond wsX8_isFirstOrSecond) := goodIn_app (goodIn_of _ (by decide +kernel)) ggX8_place_X8_isFirstOrSecond
set_option maxRecDepth 20000 in
theorem ggX8_place_X3_make : GoodIn wsX8_place wsX3_make := goodIn_r _ [22, 23, 24, 25, 26, 27, 12, 28, 14, 29, 10, 11, 13, 30, 31, 32, 33, 34, 35, 59, 60, 61, 57, 58] (by decide +kernel) (by decide +kernel)
set_option maxRecDepth 20000 in
theorem gX8_place_X3_make : GoodIn wsX8_place (wsV RX8 141 RX3 yX3_make wsX3_make) := goodIn_app (goodIn_of _ (by decide +kernel)) ggX8_place_X3_make
set_option maxRecDepth 20000 in
theorem ggX8_place_X3_first : GoodIn wsX8_place wsX3_first := goodIn_r _ [39, 23, 59, 60, 61] (by decide +kernel) (by decide +kernel)
set_option maxRecDepth 20000 in
theorem gX8_place_X3_first : GoodIn wsX8_place (wsV RX8 165 RX3 yX3_first wsX3_first) := goodIn_app (goodIn_of _ (by decide +kernel)) ggX8_place_X3_first
set_option maxRecDepth 20000 in
theorem ggX8_place_X3_last : GoodIn wsX8_place wsX3_last := goodIn_r _ [43, 24, 59, 60, 61] (by decide +kernel) (by decide +kernel)
set_option maxRecDepth 20000 in
theorem gX8_place_X3_last : GoodIn wsX8_place (wsV RX8 168 RX3 yX3_last wsX3_last) := goodIn_app (goodIn_of _ (by decide +kernel)) ggX8_place_X3_last
theorem dX8_place_0 : decode cX8_place 0 = .ok (.aload_n 0, 1) := by decide +kernel
theorem dX8_place_1 : decode cX8_place 1 = .ok (.iload_n 1, 1) := by decide +kernel
theorem dX8_place_2 : decode cX8_place 2 = .ok (.invokevirtual 115, 3) := by decide +kernel
theorem dX8_place_5 : decode cX8_place 5 = .ok (.astore 5, 2) := by decide +kernel
theorem dX8_place_7 : decode cX8_place 7 = .ok (.aload_n 0, 1) := by decide +kernel
theorem dX8_place_8 : decode cX8_place 8 = .ok (.iload_n 2, 1) := by decide +kernel
theorem dX8_place_9 : decode cX8_place 9 = .ok (.invokevirtual 115, 3) := by decide +kernel
theorem dX8_place_12 : decode cX8_place 12 = .ok (.astore 6, 2) := by decide +kernel
theorem dX8_place_14 : decode cX8_place 14 = .ok (.aload 5, 2) := by decide +kernel
theorem dX8_place_16 : decode cX8_place 16 = .ok (.ifnull 17, 3) := by decide +kernel
theorem dX8_place_19 : decode cX8_place 19 = .ok (.aload 6, 2) := by decide +kernel
theorem dX8_place_21 : decode cX8_place 21 = .ok (.ifnull 12, 3) := by decide +kernel
theorem dX8_place_24 : decode cX8_place 24 = .ok (.aload 5, 2) := by decide +kernel
theorem dX8_place_26 : decode cX8_place 26 = .ok (.iload_n 3, 1) := by decide +kernel
theorem dX8_place_27 : decode cX8_place 27 = .ok (.invokevirtual 123, 3) := by decide +kernel
theorem dX8_place_30 : decode cX8_place 30 = .ok (.ifCond .ne 5, 3) := by decide +kernel
theorem dX8_place_33 : decode cX8_place 33 = .ok (.iconst (-1), 1) := by decide +kernel
theorem dX8_place_34 : decode cX8_place 34 = .ok (.ireturn, 1) := by decide +kernel
theorem dX8_place_35 : decode cX8_place 35 = .ok (.iload 4, 2) := by decide +kernel
theorem dX8_place_37 : decode cX8_place 37 = .ok (.invokestatic 162, 3) := by decide +kernel
theorem dX8_place_40 : decode cX8_place 40 = .ok (.ifCond .ne 6, 3) := by decide +kernel
theorem dX8_place_43 : decode cX8_place 43 = .ok (.bipush (-2), 2) := by decide +kernel
theorem dX8_place_45 : decode cX8_place 45 = .ok (.ireturn, 1) := by decide +kernel
theorem dX8_place_46 : decode cX8_place 46 = .ok (.aload_n 0, 1) := by decide +kernel
theorem dX8_place_47 : decode cX8_place 47 = .ok (.getfield 35, 3) := by decide +kernel
theorem dX8_place_50 : decode cX8_place 50 = .ok (.aload 5, 2) := by decide +kernel
theorem dX8_place_52 : decode cX8_place 52 = .ok (.aload 6, 2) := by decide +kernel
theorem dX8_place_54 : decode cX8_place 54 = .ok (.invokevirtual 141, 3) := by decide +kernel
theorem dX8_place_57 : decode cX8_place 57 = .ok (.ifCond .ne 6, 3) := by decide +kernel
theorem dX8_place_60 : decode cX8_place 60 = .ok (.bipush (-9), 2) := by decide +kernel
theorem dX8_place_62 : decode cX8_place 62 = .ok (.ireturn, 1) := by decide +kernel
theorem dX8_place_63 : decode cX8_place 63 = .ok (.iload 4, 2) := by decide +kernel
theorem dX8_place_65 : decode cX8_place 65 = .ok (.ifCond .ne 14, 3) := by decide +kernel
theorem dX8_place_68 : decode cX8_place 68 = .ok (.aload_n 0, 1) := by decide +kernel
theorem dX8_place_69 : decode cX8_place 69 = .ok (.getfield 35, 3) := by decide +kernel
theorem dX8_place_72 : decode cX8_place 72 = .ok (.iload_n 3, 1) := by decide +kernel
theorem dX8_place_73 : decode cX8_place 73 = .ok (.invokevirtual 165, 3) := by decide +kernel
theorem dX8_place_76 : decode cX8_place 76 = .ok (.goto 11, 3) := by decide +kernel
theorem dX8_place_79 : decode cX8_place 79 = .ok (.aload_n 0, 1) := by decide +kernel
theorem dX8_place_80 : decode cX8_place 80 = .ok (.getfield 35, 3) := by decide +kernel
theorem dX8_place_83 : decode cX8_place 83 = .ok (.iload_n 3, 1) := by decide +kernel
theorem dX8_place_84 : decode cX8_place 84 = .ok (.invokevirtual 168, 3) := by decide +kernel
theorem dX8_place_87 : decode cX8_place 87 = .ok (.ireturn, 1) := by decide +kernel
set_option maxRecDepth 20000 in
theorem ggX8_mayBe_X8_lastCry : GoodIn wsX8_mayBe wsX8_lastCry := goodIn_r _ [7, 1, 8, 9, 10, 6, 11, 12, 49, 50, 51, 52, 53, 54, 55, 56, 57, 58, 59, 60, 61] (by decide +kernel) (by decide +kernel)
set_option maxRecDepth 20000 in
theorem gX8_mayBe_X8_lastCry : GoodIn wsX8_mayBe (wsV RX8 129 RX8 yX8_lastCry wsX8_lastCry) := goodIn_app (goodIn_of _ (by decide +kernel)) ggX8_mayBe_X8_lastCry
set_option maxRecDepth 20000 in
theorem ggX8_mayBe_X2_has : GoodIn wsX8_mayBe wsX2_has := goodIn_r _ [17, 18, 62, 63] (by decide +kernel) (by decide +kernel)
set_option maxRecDepth 20000 in
theorem gX8_mayBe_X2_has : GoodIn wsX8_mayBe (wsV RX8 123 RX2 yX2_has wsX2_has) := goodIn_app (goodIn_of _ (by decide +kernel)) ggX8_mayBe_X2_has
set_option maxRecDepth 20000 in
theorem ggX8_mayBe_X8_cryOf : GoodIn wsX8_mayBe wsX8_cryOf := goodIn_r _ [11, 1, 12, 49, 50, 51, 52, 53, 54, 55, 56, 57, 58, 59, 60, 61] (by decide +kernel) (by decide +kernel)
set_option maxRecDepth 20000 in
theorem gX8_mayBe_X8_cryOf : GoodIn wsX8_mayBe (wsV RX8 115 RX8 yX8_cryOf wsX8_cryOf) := goodIn_app (goodIn_of _ (by decide +kernel)) ggX8_mayBe_X8_cryOf
set_option maxRecDepth 20000 in
theorem ggX8_mayBe_X3_canStand : GoodIn wsX8_mayBe wsX3_canStand := goodIn_r _ [23, 24, 25, 26, 22, 27, 28, 29, 30, 31, 32, 16, 33, 18, 34, 14, 15, 17, 35, 36, 37, 38, 39, 40, 41, 42, 43, 44, 45, 46, 47, 48, 64, 65, 66, 62, 63] (by decide +kernel) (by decide +kernel)
set_option maxRecDepth 20000 in
theorem gX8_mayBe_X3_canStand : GoodIn wsX8_mayBe (wsV RX8 171 RX3 yX3_canStand wsX3_canStand) := goodIn_app (goodIn_of _ (by decide +kernel)) ggX8_mayBe_X3_canStand
theorem dX8_mayBe_0 : decode cX8_mayBe 0 = .ok (.aload_n 0, 1) := by decide +kernel
theorem dX8_mayBe_1 : decode cX8_mayBe 1 = .ok (.invokevirtual 129, 3) := by decide +kernel
theorem dX8_mayBe_4 : decode cX8_mayBe 4 = .ok (.astore_n 2, 1) := by decide +kernel
theorem dX8_mayBe_5 : decode cX8_mayBe 5 = .ok (.aload_n 2, 1) := by decide +kernel
theorem dX8_mayBe_6 : decode cX8_mayBe 6 = .ok (.ifnull 11, 3) := by decide +kernel
theorem dX8_mayBe_9 : decode cX8_mayBe 9 = .ok (.aload_n 2, 1) := by decide +kernel
theorem dX8_mayBe_10 : decode cX8_mayBe 10 = .ok (.iload_n 1, 1) := by decide +kernel
theorem dX8_mayBe_11 : decode cX8_mayBe 11 = .ok (.invokevirtual 123, 3) := by decide +kernel
theorem dX8_mayBe_14 : decode cX8_mayBe 14 = .ok (.ifCond .ne 5, 3) := by decide +kernel
theorem dX8_mayBe_17 : decode cX8_mayBe 17 = .ok (.iconst (-1), 1) := by decide +kernel
theorem dX8_mayBe_18 : decode cX8_mayBe 18 = .ok (.ireturn, 1) := by decide +kernel
theorem dX8_mayBe_19 : decode cX8_mayBe 19 = .ok (.iconst 0, 1) := by decide +kernel
theorem dX8_mayBe_20 : decode cX8_mayBe 20 = .ok (.istore_n 3, 1) := by decide +kernel
theorem dX8_mayBe_21 : decode cX8_mayBe 21 = .ok (.iconst 0, 1) := by decide +kernel
theorem dX8_mayBe_22 : decode cX8_mayBe 22 = .ok (.istore 4, 2) := by decide +kernel
theorem dX8_mayBe_24 : decode cX8_mayBe 24 = .ok (.iload 4, 2) := by decide +kernel
theorem dX8_mayBe_26 : decode cX8_mayBe 26 = .ok (.aload_n 0, 1) := by decide +kernel
theorem dX8_mayBe_27 : decode cX8_mayBe 27 = .ok (.getfield 70, 3) := by decide +kernel
theorem dX8_mayBe_30 : decode cX8_mayBe 30 = .ok (.if_icmp .ge 43, 3) := by decide +kernel
theorem dX8_mayBe_33 : decode cX8_mayBe 33 = .ok (.aload_n 0, 1) := by decide +kernel
theorem dX8_mayBe_34 : decode cX8_mayBe 34 = .ok (.iload 4, 2) := by decide +kernel
theorem dX8_mayBe_36 : decode cX8_mayBe 36 = .ok (.invokevirtual 115, 3) := by decide +kernel
theorem dX8_mayBe_39 : decode cX8_mayBe 39 = .ok (.astore 5, 2) := by decide +kernel
theorem dX8_mayBe_41 : decode cX8_mayBe 41 = .ok (.aload 5, 2) := by decide +kernel
theorem dX8_mayBe_43 : decode cX8_mayBe 43 = .ok (.ifnull 24, 3) := by decide +kernel
theorem dX8_mayBe_46 : decode cX8_mayBe 46 = .ok (.aload_n 0, 1) := by decide +kernel
theorem dX8_mayBe_47 : decode cX8_mayBe 47 = .ok (.getfield 35, 3) := by decide +kernel
theorem dX8_mayBe_50 : decode cX8_mayBe 50 = .ok (.aload 5, 2) := by decide +kernel
theorem dX8_mayBe_52 : decode cX8_mayBe 52 = .ok (.aload_n 2, 1) := by decide +kernel
theorem dX8_mayBe_53 : decode cX8_mayBe 53 = .ok (.iload_n 1, 1) := by decide +kernel
theorem dX8_mayBe_54 : decode cX8_mayBe 54 = .ok (.invokevirtual 171, 3) := by decide +kernel
theorem dX8_mayBe_57 : decode cX8_mayBe 57 = .ok (.ifCond .eq 10, 3) := by decide +kernel
theorem dX8_mayBe_60 : decode cX8_mayBe 60 = .ok (.iload_n 3, 1) := by decide +kernel
theorem dX8_mayBe_61 : decode cX8_mayBe 61 = .ok (.iconst 1, 1) := by decide +kernel
theorem dX8_mayBe_62 : decode cX8_mayBe 62 = .ok (.iload 4, 2) := by decide +kernel
theorem dX8_mayBe_64 : decode cX8_mayBe 64 = .ok (.ishl, 1) := by decide +kernel
theorem dX8_mayBe_65 : decode cX8_mayBe 65 = .ok (.ior, 1) := by decide +kernel
theorem dX8_mayBe_66 : decode cX8_mayBe 66 = .ok (.istore_n 3, 1) := by decide +kernel
theorem dX8_mayBe_67 : decode cX8_mayBe 67 = .ok (.iinc 4 1, 3) := by decide +kernel
theorem dX8_mayBe_70 : decode cX8_mayBe 70 = .ok (.goto (-46), 3) := by decide +kernel
theorem dX8_mayBe_73 : decode cX8_mayBe 73 = .ok (.iload_n 3, 1) := by decide +kernel
theorem dX8_mayBe_74 : decode cX8_mayBe 74 = .ok (.ireturn, 1) := by decide +kernel
set_option maxRecDepth 20000 in
theorem ggX8_sheet_X8_sheetOf : GoodIn wsX8_sheet wsX8_sheetOf := goodIn_r _ [6, 7, 27, 28, 29, 30, 31, 32, 33, 34, 35, 36, 37, 38, 39] (by decide +kernel) (by decide +kernel)
set_option maxRecDepth 20000 in
theorem gX8_sheet_X8_sheetOf : GoodIn wsX8_sheet (wsV RX8 81 RX8 yX8_sheetOf wsX8_sheetOf) := goodIn_app (goodIn_of _ (by decide +kernel)) ggX8_sheet_X8_sheetOf
set_option maxRecDepth 20000 in
theorem ggX8_sheet_X8_isSort : GoodIn wsX8_sheet wsX8_isSort := goodIn_r _ [10] (by decide +kernel) (by decide +kernel)
set_option maxRecDepth 20000 in
theorem gX8_sheet_X8_isSort : GoodIn wsX8_sheet (va_wsS RX8 85 yX8_isSort wsX8_isSort) := goodIn_app (goodIn_of _ (by decide +kernel)) ggX8_sheet_X8_isSort
set_option maxRecDepth 20000 in
theorem ggX8_sheet_X8_fails : GoodIn wsX8_sheet wsX8_fails := goodIn_r _ [14, 1, 27, 28, 29, 30, 31, 32, 33, 34, 35, 36, 37, 38, 39] (by decide +kernel) (by decide +kernel)
set_option maxRecDepth 20000 in
theorem gX8_sheet_X8_fails : GoodIn wsX8_sheet (wsV RX8 93 RX8 yX8_fails wsX8_fails) := goodIn_app (goodIn_of _ (by decide +kernel)) ggX8_sheet_X8_fails
set_option maxRecDepth 20000 in
theorem ggX8_sheet_X6_renew : GoodIn wsX8_sheet wsX6_renew := goodIn_r _ [19, 20, 21, 22, 23, 24, 25, 26, 40, 41, 42] (by decide +kernel) (by decide +kernel)
set_option maxRecDepth 20000 in
theorem gX8_sheet_X6_renew : GoodIn wsX8_sheet (wsV RX8 204 RX6 yX6_renew wsX6_renew) := goodIn_app (goodIn_of _ (by decide +kernel)) ggX8_sheet_X6_renew
theorem dX8_sheet_0 : decode cX8_sheet 0 = .ok (.aload_n 0, 1) := by decide +kernel
theorem dX8_sheet_1 : decode cX8_sheet 1 = .ok (.iconst 0, 1) := by decide +kernel
theorem dX8_sheet_2 : decode cX8_sheet 2 = .ok (.putfield 77, 3) := by decide +kernel
theorem dX8_sheet_5 : decode cX8_sheet 5 = .ok (.aload_n 0, 1) := by decide +kernel
theorem dX8_sheet_6 : decode cX8_sheet 6 = .ok (.iload_n 1, 1) := by decide +kernel
theorem dX8_sheet_7 : decode cX8_sheet 7 = .ok (.invokevirtual 81, 3) := by decide +kernel
theorem dX8_sheet_10 : decode cX8_sheet 10 = .ok (.astore 4, 2) := by decide +kernel
theorem dX8_sheet_12 : decode cX8_sheet 12 = .ok (.aload 4, 2) := by decide +kernel
theorem dX8_sheet_14 : decode cX8_sheet 14 = .ok (.ifnonnull 5, 3) := by decide +kernel
theorem dX8_sheet_17 : decode cX8_sheet 17 = .ok (.iconst (-1), 1) := by decide +kernel
theorem dX8_sheet_18 : decode cX8_sheet 18 = .ok (.ireturn, 1) := by decide +kernel
theorem dX8_sheet_19 : decode cX8_sheet 19 = .ok (.iload_n 2, 1) := by decide +kernel
theorem dX8_sheet_20 : decode cX8_sheet 20 = .ok (.invokestatic 85, 3) := by decide +kernel
theorem dX8_sheet_23 : decode cX8_sheet 23 = .ok (.ifCond .eq 9, 3) := by decide +kernel
theorem dX8_sheet_26 : decode cX8_sheet 26 = .ok (.iload_n 3, 1) := by decide +kernel
theorem dX8_sheet_27 : decode cX8_sheet 27 = .ok (.bipush 80, 2) := by decide +kernel
theorem dX8_sheet_29 : decode cX8_sheet 29 = .ok (.if_icmp .le 6, 3) := by decide +kernel
theorem dX8_sheet_32 : decode cX8_sheet 32 = .ok (.bipush (-2), 2) := by decide +kernel
theorem dX8_sheet_34 : decode cX8_sheet 34 = .ok (.ireturn, 1) := by decide +kernel
theorem dX8_sheet_35 : decode cX8_sheet 35 = .ok (.iload_n 3, 1) := by decide +kernel
theorem dX8_sheet_36 : decode cX8_sheet 36 = .ok (.ifCond .ge 9, 3) := by decide +kernel
theorem dX8_sheet_39 : decode cX8_sheet 39 = .ok (.aload_n 0, 1) := by decide +kernel
theorem dX8_sheet_40 : decode cX8_sheet 40 = .ok (.iconst 4, 1) := by decide +kernel
theorem dX8_sheet_41 : decode cX8_sheet 41 = .ok (.invokevirtual 93, 3) := by decide +kernel
theorem dX8_sheet_44 : decode cX8_sheet 44 = .ok (.ireturn, 1) := by decide +kernel
theorem dX8_sheet_45 : decode cX8_sheet 45 = .ok (.aload 4, 2) := by decide +kernel
theorem dX8_sheet_47 : decode cX8_sheet 47 = .ok (.iload_n 2, 1) := by decide +kernel
theorem dX8_sheet_48 : decode cX8_sheet 48 = .ok (.iload_n 3, 1) := by decide +kernel
theorem dX8_sheet_49 : decode cX8_sheet 49 = .ok (.invokevirtual 204, 3) := by decide +kernel
theorem dX8_sheet_52 : decode cX8_sheet 52 = .ok (.iconst 1, 1) := by decide +kernel
theorem dX8_sheet_53 : decode cX8_sheet 53 = .ok (.ireturn, 1) := by decide +kernel
set_option maxRecDepth 20000 in
theorem ggX8_put_X8_sheetOf : GoodIn wsX8_put wsX8_sheetOf := goodIn_r _ [6, 7, 33, 34, 35, 36, 37, 38, 39, 40, 41, 42, 43, 44, 45] (by decide +kernel) (by decide +kernel)
set_option maxRecDepth 20000 in
theorem gX8_put_X8_sheetOf : GoodIn wsX8_put (wsV RX8 81 RX8 yX8_sheetOf wsX8_sheetOf) := goodIn_app (goodIn_of _ (by decide +kernel)) ggX8_put_X8_sheetOf
set_option maxRecDepth 20000 in
theorem ggX8_put_X6_isNothing : GoodIn wsX8_put wsX6_isNothing := goodIn_r _ [12, 13, 46, 47, 48] (by decide +kernel) (by decide +kernel)
set_option maxRecDepth 20000 in
theorem gX8_put_X6_isNothing : GoodIn wsX8_put (wsV RX8 207 RX6 yX6_isNothing wsX6_isNothing) := goodIn_app (goodIn_of _ (by decide +kernel)) ggX8_put_X6_isNothing
set_option maxRecDepth 20000 in
theorem ggX8_put_X8_fails : GoodIn wsX8_put wsX8_fails := goodIn_r _ [17, 1, 33, 34, 35, 36, 37, 38, 39, 40, 41, 42, 43, 44, 45] (by decide +kernel) (by decide +kernel)
set_option maxRecDepth 20000 in
theorem gX8_put_X8_fails : GoodIn wsX8_put (wsV RX8 93 RX8 yX8_fails wsX8_fails) := goodIn_app (goodIn_of _ (by decide +kernel)) ggX8_put_X8_fails
set_option maxRecDepth 20000 in
theorem ggX8_put_X6_hasCells : GoodIn wsX8_put wsX6_hasCells := goodIn_r _ [21, 13, 46, 47, 48] (by decide +kernel) (by decide +kernel)
set_option maxRecDepth 20000 in
theorem gX8_put_X6_hasCells : GoodIn wsX8_put (wsV RX8 97 RX6 yX6_hasCells wsX6_hasCells) := goodIn_app (goodIn_of _ (by decide +kernel)) ggX8_put_X6_hasCells
set_option maxRecDepth 20000 in
theorem ggX8_put_X6_write : GoodIn wsX8_put wsX6_write := goodIn_r _ [25, 26, 27, 19, 20, 11, 21, 13, 28, 29, 30, 31, 32, 46, 47, 48] (by decide +kernel) (by decide +kernel)
set_option maxRecDepth 20000 in
theorem gX8_put_X6_write : GoodIn wsX8_put (wsV RX8 213 RX6 yX6_write wsX6_write) := goodIn_app (goodIn_of _ (by decide +kernel)) ggX8_put_X6_write
theorem dX8_put_0 : decode cX8_put 0 = .ok (.aload_n 0, 1) := by decide +kernel
theorem dX8_put_1 : decode cX8_put 1 = .ok (.iconst 0, 1) := by decide +kernel
theorem dX8_put_2 : decode cX8_put 2 = .ok (.putfield 77, 3) := by decide +kernel
theorem dX8_put_5 : decode cX8_put 5 = .ok (.aload_n 0, 1) := by decide +kernel
theorem dX8_put_6 : decode cX8_put 6 = .ok (.iload_n 1, 1) := by decide +kernel
theorem dX8_put_7 : decode cX8_put 7 = .ok (.invokevirtual 81, 3) := by decide +kernel
theorem dX8_put_10 : decode cX8_put 10 = .ok (.astore 4, 2) := by decide +kernel
theorem dX8_put_12 : decode cX8_put 12 = .ok (.aload 4, 2) := by decide +kernel
theorem dX8_put_14 : decode cX8_put 14 = .ok (.ifnonnull 5, 3) := by decide +kernel
theorem dX8_put_17 : decode cX8_put 17 = .ok (.iconst (-1), 1) := by decide +kernel
theorem dX8_put_18 : decode cX8_put 18 = .ok (.ireturn, 1) := by decide +kernel
theorem dX8_put_19 : decode cX8_put 19 = .ok (.aload 4, 2) := by decide +kernel
theorem dX8_put_21 : decode cX8_put 21 = .ok (.invokevirtual 207, 3) := by decide +kernel
theorem dX8_put_24 : decode cX8_put 24 = .ok (.ifCond .eq 9, 3) := by decide +kernel
theorem dX8_put_27 : decode cX8_put 27 = .ok (.aload_n 0, 1) := by decide +kernel
theorem dX8_put_28 : decode cX8_put 28 = .ok (.iconst 1, 1) := by decide +kernel
theorem dX8_put_29 : decode cX8_put 29 = .ok (.invokevirtual 93, 3) := by decide +kernel
theorem dX8_put_32 : decode cX8_put 32 = .ok (.ireturn, 1) := by decide +kernel
theorem dX8_put_33 : decode cX8_put 33 = .ok (.aload 4, 2) := by decide +kernel
theorem dX8_put_35 : decode cX8_put 35 = .ok (.iload_n 2, 1) := by decide +kernel
theorem dX8_put_36 : decode cX8_put 36 = .ok (.iconst 1, 1) := by decide +kernel
theorem dX8_put_37 : decode cX8_put 37 = .ok (.invokevirtual 97, 3) := by decide +kernel
theorem dX8_put_40 : decode cX8_put 40 = .ok (.ifCond .ne 9, 3) := by decide +kernel
theorem dX8_put_43 : decode cX8_put 43 = .ok (.aload_n 0, 1) := by decide +kernel
theorem dX8_put_44 : decode cX8_put 44 = .ok (.iconst 3, 1) := by decide +kernel
theorem dX8_put_45 : decode cX8_put 45 = .ok (.invokevirtual 93, 3) := by decide +kernel
theorem dX8_put_48 : decode cX8_put 48 = .ok (.ireturn, 1) := by decide +kernel
theorem dX8_put_49 : decode cX8_put 49 = .ok (.aload 4, 2) := by decide +kernel
theorem dX8_put_51 : decode cX8_put 51 = .ok (.iload_n 2, 1) := by decide +kernel
theorem dX8_put_52 : decode cX8_put 52 = .ok (.iload_n 3, 1) := by decide +kernel
theorem dX8_put_53 : decode cX8_put 53 = .ok (.invokevirtual 213, 3) := by decide +kernel
theorem dX8_put_56 : decode cX8_put 56 = .ok (.iconst 1, 1) := by decide +kernel
theorem dX8_put_57 : decode cX8_put 57 = .ok (.ireturn, 1) := by decide +kernel
theorem dX8_many_0 : decode cX8_many 0 = .ok (.aload_n 0, 1) := by decide +kernel
theorem dX8_many_1 : decode cX8_many 1 = .ok (.getfield 70, 3) := by decide +kernel
theorem dX8_many_4 : decode cX8_many 4 = .ok (.ireturn, 1) := by decide +kernel
theorem dX8_isWord_0 : decode cX8_isWord 0 = .ok (.iload_n 0, 1) := by decide +kernel
theorem dX8_isWord_1 : decode cX8_isWord 1 = .ok (.ifCond .lt 13, 3) := by decide +kernel
theorem dX8_isWord_4 : decode cX8_isWord 4 = .ok (.iload_n 0, 1) := by decide +kernel
theorem dX8_isWord_5 : decode cX8_isWord 5 = .ok (.bipush 8, 2) := by decide +kernel
theorem dX8_isWord_7 : decode cX8_isWord 7 = .ok (.if_icmp .ge 7, 3) := by decide +kernel
theorem dX8_isWord_10 : decode cX8_isWord 10 = .ok (.iconst 1, 1) := by decide +kernel
theorem dX8_isWord_11 : decode cX8_isWord 11 = .ok (.goto 4, 3) := by decide +kernel
theorem dX8_isWord_14 : decode cX8_isWord 14 = .ok (.iconst 0, 1) := by decide +kernel
theorem dX8_isWord_15 : decode cX8_isWord 15 = .ok (.ireturn, 1) := by decide +kernel
theorem dX8_isKind_0 : decode cX8_isKind 0 = .ok (.iload_n 0, 1) := by decide +kernel
theorem dX8_isKind_1 : decode cX8_isKind 1 = .ok (.ifCond .lt 12, 3) := by decide +kernel
theorem dX8_isKind_4 : decode cX8_isKind 4 = .ok (.iload_n 0, 1) := by decide +kernel
theorem dX8_isKind_5 : decode cX8_isKind 5 = .ok (.iconst 3, 1) := by decide +kernel
theorem dX8_isKind_6 : decode cX8_isKind 6 = .ok (.if_icmp .ge 7, 3) := by decide +kernel
theorem dX8_isKind_9 : decode cX8_isKind 9 = .ok (.iconst 1, 1) := by decide +kernel
theorem dX8_isKind_10 : decode cX8_isKind 10 = .ok (.goto 4, 3) := by decide +kernel
theorem dX8_isKind_13 : decode cX8_isKind 13 = .ok (.iconst 0, 1) := by decide +kernel
theorem dX8_isKind_14 : decode cX8_isKind 14 = .ok (.ireturn, 1) := by decide +kernel
theorem dX8_isSort_0 : decode cX8_isSort 0 = .ok (.iload_n 0, 1) := by decide +kernel
theorem dX8_isSort_1 : decode cX8_isSort 1 = .ok (.ifCond .lt 12, 3) := by decide +kernel
theorem dX8_isSort_4 : decode cX8_isSort 4 = .ok (.iload_n 0, 1) := by decide +kernel
theorem dX8_isSort_5 : decode cX8_isSort 5 = .ok (.iconst 3, 1) := by decide +kernel
theorem dX8_isSort_6 : decode cX8_isSort 6 = .ok (.if_icmp .ge 7, 3) := by decide +kernel
theorem dX8_isSort_9 : decode cX8_isSort 9 = .ok (.iconst 1, 1) := by decide +kernel
theorem dX8_isSort_10 : decode cX8_isSort 10 = .ok (.goto 4, 3) := by decide +kernel
theorem dX8_isSort_13 : decode cX8_isSort 13 = .ok (.iconst 0, 1) := by decide +kernel
theorem dX8_isSort_14 : decode cX8_isSort 14 = .ok (.ireturn, 1) := by decide +kernel
theorem dX8_isFirstOrSecond_0 : decode cX8_isFirstOrSecond 0 = .ok (.iload_n 0, 1) := by decide +kernel
theorem dX8_isFirstOrSecond_1 : decode cX8_isFirstOrSecond 1 = .ok (.ifCond .eq 8, 3) := by decide +kernel
theorem dX8_isFirstOrSecond_4 : decode cX8_isFirstOrSecond 4 = .ok (.iload_n 0, 1) := by decide +kernel
theorem dX8_isFirstOrSecond_5 : decode cX8_isFirstOrSecond 5 = .ok (.iconst 1, 1) := by decide +kernel
theorem dX8_isFirstOrSecond_6 : decode cX8_isFirstOrSecond 6 = .ok (.if_icmp .ne 7, 3) := by decide +kernel
theorem dX8_isFirstOrSecond_9 : decode cX8_isFirstOrSecond 9 = .ok (.iconst 1, 1) := by decide +kernel
theorem dX8_isFirstOrSecond_10 : decode cX8_isFirstOrSecond 10 = .ok (.goto 4, 3) := by decide +kernel
theorem dX8_isFirstOrSecond_13 : decode cX8_isFirstOrSecond 13 = .ok (.iconst 0, 1) := by decide +kernel
theorem dX8_isFirstOrSecond_14 : decode cX8_isFirstOrSecond 14 = .ok (.ireturn, 1) := by decide +kernel
theorem dX8_cryOf_0 : decode cX8_cryOf 0 = .ok (.iload_n 1, 1) := by decide +kernel
theorem dX8_cryOf_1 : decode cX8_cryOf 1 = .ok (.ifCond .lt 26, 3) := by decide +kernel
theorem dX8_cryOf_4 : decode cX8_cryOf 4 = .ok (.iload_n 1, 1) := by decide +kernel
theorem dX8_cryOf_5 : decode cX8_cryOf 5 = .ok (.aload_n 0, 1) := by decide +kernel
theorem dX8_cryOf_6 : decode cX8_cryOf 6 = .ok (.getfield 70, 3) := by decide +kernel
theorem dX8_cryOf_9 : decode cX8_cryOf 9 = .ok (.if_icmp .ge 18, 3) := by decide +kernel
theorem dX8_cryOf_12 : decode cX8_cryOf 12 = .ok (.iload_n 1, 1) := by decide +kernel
theorem dX8_cryOf_13 : decode cX8_cryOf 13 = .ok (.bipush 6, 2) := by decide +kernel
theorem dX8_cryOf_15 : decode cX8_cryOf 15 = .ok (.if_icmp .ge 12, 3) := by decide +kernel
theorem dX8_cryOf_18 : decode cX8_cryOf 18 = .ok (.aload_n 0, 1) := by decide +kernel
theorem dX8_cryOf_19 : decode cX8_cryOf 19 = .ok (.getfield 17, 3) := by decide +kernel
theorem dX8_cryOf_22 : decode cX8_cryOf 22 = .ok (.iload_n 1, 1) := by decide +kernel
theorem dX8_cryOf_23 : decode cX8_cryOf 23 = .ok (.aaload, 1) := by decide +kernel
theorem dX8_cryOf_24 : decode cX8_cryOf 24 = .ok (.goto 4, 3) := by decide +kernel
theorem dX8_cryOf_27 : decode cX8_cryOf 27 = .ok (.aconst_null, 1) := by decide +kernel
theorem dX8_cryOf_28 : decode cX8_cryOf 28 = .ok (.areturn, 1) := by decide +kernel
set_option maxRecDepth 20000 in
theorem ggX8_lastCry_X8_cryOf : GoodIn wsX8_lastCry wsX8_cryOf := goodIn_r _ [6, 1, 7, 8, 9, 10, 11, 12, 13, 14, 15, 16, 17, 18, 19, 20] (by decide +kernel) (by decide +kernel)
set_option maxRecDepth 20000 in
theorem gX8_lastCry_X8_cryOf : GoodIn wsX8_lastCry (wsV RX8 115 RX8 yX8_cryOf wsX8_cryOf) := goodIn_app (goodIn_of _ (by decide +kernel)) ggX8_lastCry_X8_cryOf
theorem dX8_lastCry_0 : decode cX8_lastCry 0 = .ok (.aload_n 0, 1) := by decide +kernel
theorem dX8_lastCry_1 : decode cX8_lastCry 1 = .ok (.aload_n 0, 1) := by decide +kernel
theorem dX8_lastCry_2 : decode cX8_lastCry 2 = .ok (.getfield 70, 3) := by decide +kernel
theorem dX8_lastCry_5 : decode cX8_lastCry 5 = .ok (.iconst 1, 1) := by decide +kernel
theorem dX8_lastCry_6 : decode cX8_lastCry 6 = .ok (.isub, 1) := by decide +kernel
theorem dX8_lastCry_7 : decode cX8_lastCry 7 = .ok (.invokevirtual 115, 3) := by decide +kernel
theorem dX8_lastCry_10 : decode cX8_lastCry 10 = .ok (.areturn, 1) := by decide +kernel
theorem dX8_sheetOf_0 : decode cX8_sheetOf 0 = .ok (.iload_n 1, 1) := by decide +kernel
theorem dX8_sheetOf_1 : decode cX8_sheetOf 1 = .ok (.ifCond .lt 17, 3) := by decide +kernel
theorem dX8_sheetOf_4 : decode cX8_sheetOf 4 = .ok (.iload_n 1, 1) := by decide +kernel
theorem dX8_sheetOf_5 : decode cX8_sheetOf 5 = .ok (.iconst 4, 1) := by decide +kernel
theorem dX8_sheetOf_6 : decode cX8_sheetOf 6 = .ok (.if_icmp .ge 12, 3) := by decide +kernel
theorem dX8_sheetOf_9 : decode cX8_sheetOf 9 = .ok (.aload_n 0, 1) := by decide +kernel
theorem dX8_sheetOf_10 : decode cX8_sheetOf 10 = .ok (.getfield 23, 3) := by decide +kernel
theorem dX8_sheetOf_13 : decode cX8_sheetOf 13 = .ok (.iload_n 1, 1) := by decide +kernel
theorem dX8_sheetOf_14 : decode cX8_sheetOf 14 = .ok (.aaload, 1) := by decide +kernel
theorem dX8_sheetOf_15 : decode cX8_sheetOf 15 = .ok (.goto 4, 3) := by decide +kernel
theorem dX8_sheetOf_18 : decode cX8_sheetOf 18 = .ok (.aconst_null, 1) := by decide +kernel
theorem dX8_sheetOf_19 : decode cX8_sheetOf 19 = .ok (.areturn, 1) := by decide +kernel
theorem dX8_fails_0 : decode cX8_fails 0 = .ok (.aload_n 0, 1) := by decide +kernel
theorem dX8_fails_1 : decode cX8_fails 1 = .ok (.iload_n 1, 1) := by decide +kernel
theorem dX8_fails_2 : decode cX8_fails 2 = .ok (.putfield 77, 3) := by decide +kernel
theorem dX8_fails_5 : decode cX8_fails 5 = .ok (.bipush (-10), 2) := by decide +kernel
theorem dX8_fails_7 : decode cX8_fails 7 = .ok (.iload_n 1, 1) := by decide +kernel
theorem dX8_fails_8 : decode cX8_fails 8 = .ok (.isub, 1) := by decide +kernel
theorem dX8_fails_9 : decode cX8_fails 9 = .ok (.ireturn, 1) := by decide +kernel
set_option maxRecDepth 20000 in
theorem ggX8_readingFault_X6_isNothing : GoodIn wsX8_readingFault wsX6_isNothing := goodIn_r _ [5, 6, 12, 13, 14] (by decide +kernel) (by decide +kernel)
set_option maxRecDepth 20000 in
theorem gX8_readingFault_X6_isNothing : GoodIn wsX8_readingFault (wsV RX8 207 RX6 yX6_isNothing wsX6_isNothing) := goodIn_app (goodIn_of _ (by decide +kernel)) ggX8_readingFault_X6_isNothing
set_option maxRecDepth 20000 in
theorem ggX8_readingFault_X6_sort : GoodIn wsX8_readingFault wsX6_sort := goodIn_r _ [10, 11, 12, 13, 14] (by decide +kernel) (by decide +kernel)
set_option maxRecDepth 20000 in
theorem gX8_readingFault_X6_sort : GoodIn wsX8_readingFault (wsV RX8 217 RX6 yX6_sort wsX6_sort) := goodIn_app (goodIn_of _ (by decide +kernel)) ggX8_readingFault_X6_sort
theorem dX8_readingFault_0 : decode cX8_readingFault 0 = .ok (.aload_n 0, 1) := by decide +kernel
theorem dX8_readingFault_1 : decode cX8_readingFault 1 = .ok (.invokevirtual 207, 3) := by decide +kernel
theorem dX8_readingFault_4 : decode cX8_readingFault 4 = .ok (.ifCond .eq 5, 3) := by decide +kernel
theorem dX8_readingFault_7 : decode cX8_readingFault 7 = .ok (.iconst 1, 1) := by decide +kernel
theorem dX8_readingFault_8 : decode cX8_readingFault 8 = .ok (.ireturn, 1) := by decide +kernel
theorem dX8_readingFault_9 : decode cX8_readingFault 9 = .ok (.aload_n 0, 1) := by decide +kernel
theorem dX8_readingFault_10 : decode cX8_readingFault 10 = .ok (.invokevirtual 217, 3) := by decide +kernel
theorem dX8_readingFault_13 : decode cX8_readingFault 13 = .ok (.iload_n 1, 1) := by decide +kernel
theorem dX8_readingFault_14 : decode cX8_readingFault 14 = .ok (.if_icmp .ne 7, 3) := by decide +kernel
theorem dX8_readingFault_17 : decode cX8_readingFault 17 = .ok (.iconst 0, 1) := by decide +kernel
theorem dX8_readingFault_18 : decode cX8_readingFault 18 = .ok (.goto 4, 3) := by decide +kernel
theorem dX8_readingFault_21 : decode cX8_readingFault 21 = .ok (.iconst 2, 1) := by decide +kernel
theorem dX8_readingFault_22 : decode cX8_readingFault 22 = .ok (.ireturn, 1) := by decide +kernel
theorem dX8_isLetter_0 : decode cX8_isLetter 0 = .ok (.iload_n 0, 1) := by decide +kernel
theorem dX8_isLetter_1 : decode cX8_isLetter 1 = .ok (.bipush 97, 2) := by decide +kernel
theorem dX8_isLetter_3 : decode cX8_isLetter 3 = .ok (.if_icmp .lt 13, 3) := by decide +kernel
theorem dX8_isLetter_6 : decode cX8_isLetter 6 = .ok (.iload_n 0, 1) := by decide +kernel
theorem dX8_isLetter_7 : decode cX8_isLetter 7 = .ok (.bipush 105, 2) := by decide +kernel
theorem dX8_isLetter_9 : decode cX8_isLetter 9 = .ok (.if_icmp .ge 7, 3) := by decide +kernel
theorem dX8_isLetter_12 : decode cX8_isLetter 12 = .ok (.iconst 1, 1) := by decide +kernel
theorem dX8_isLetter_13 : decode cX8_isLetter 13 = .ok (.goto 4, 3) := by decide +kernel
theorem dX8_isLetter_16 : decode cX8_isLetter 16 = .ok (.iconst 0, 1) := by decide +kernel
theorem dX8_isLetter_17 : decode cX8_isLetter 17 = .ok (.ireturn, 1) := by decide +kernel
set_option maxRecDepth 20000 in
theorem ggX8_firstFaultOf_X6_at : GoodIn wsX8_firstFaultOf wsX6_at := goodIn_r _ [5, 6, 7, 8, 9, 4, 10, 11, 16, 17, 18] (by decide +kernel) (by decide +kernel)
set_option maxRecDepth 20000 in
theorem gX8_firstFaultOf_X6_at : GoodIn wsX8_firstFaultOf (wsV RX8 216 RX6 yX6_at wsX6_at) := goodIn_app (goodIn_of _ (by decide +kernel)) ggX8_firstFaultOf_X6_at
set_option maxRecDepth 20000 in
theorem ggX8_firstFaultOf_X8_isLetter : GoodIn wsX8_firstFaultOf wsX8_isLetter := goodIn_r _ [15] (by decide +kernel) (by decide +kernel)
set_option maxRecDepth 20000 in
theorem gX8_firstFaultOf_X8_isLetter : GoodIn wsX8_firstFaultOf (va_wsS RX8 239 yX8_isLetter wsX8_isLetter) := goodIn_app (goodIn_of _ (by decide +kernel)) ggX8_firstFaultOf_X8_isLetter
