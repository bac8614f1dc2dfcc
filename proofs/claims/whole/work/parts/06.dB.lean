theorem dX8_init_0 : decode cX8_init 0 = .ok (.aload_n 0, 1) := by decide +kernel
theorem dX8_init_1 : decode cX8_init 1 = .ok (.invokespecial 5, 3) := by decide +kernel
theorem dX8_init_4 : decode cX8_init 4 = .ok (.aload_n 0, 1) := by decide +kernel
theorem dX8_init_5 : decode cX8_init 5 = .ok (.bipush 8, 2) := by decide +kernel
theorem dX8_init_7 : decode cX8_init 7 = .ok (.newarray .int, 2) := by decide +kernel
theorem dX8_init_9 : decode cX8_init 9 = .ok (.putfield 11, 3) := by decide +kernel
theorem dX8_init_12 : decode cX8_init 12 = .ok (.aload_n 0, 1) := by decide +kernel
theorem dX8_init_13 : decode cX8_init 13 = .ok (.bipush 6, 2) := by decide +kernel
theorem dX8_init_15 : decode cX8_init 15 = .ok (.anewarray 15, 3) := by decide +kernel
theorem dX8_init_18 : decode cX8_init 18 = .ok (.putfield 17, 3) := by decide +kernel
theorem dX8_init_21 : decode cX8_init 21 = .ok (.aload_n 0, 1) := by decide +kernel
theorem dX8_init_22 : decode cX8_init 22 = .ok (.iconst 4, 1) := by decide +kernel
theorem dX8_init_23 : decode cX8_init 23 = .ok (.anewarray 21, 3) := by decide +kernel
theorem dX8_init_26 : decode cX8_init 26 = .ok (.putfield 23, 3) := by decide +kernel
theorem dX8_init_29 : decode cX8_init 29 = .ok (.aload_n 0, 1) := by decide +kernel
theorem dX8_init_30 : decode cX8_init 30 = .ok (.new 15, 3) := by decide +kernel
theorem dX8_init_33 : decode cX8_init 33 = .ok (.dup, 1) := by decide +kernel
theorem dX8_init_34 : decode cX8_init 34 = .ok (.invokespecial 27, 3) := by decide +kernel
theorem dX8_init_37 : decode cX8_init 37 = .ok (.putfield 28, 3) := by decide +kernel
theorem dX8_init_40 : decode cX8_init 40 = .ok (.aload_n 0, 1) := by decide +kernel
theorem dX8_init_41 : decode cX8_init 41 = .ok (.new 32, 3) := by decide +kernel
theorem dX8_init_44 : decode cX8_init 44 = .ok (.dup, 1) := by decide +kernel
theorem dX8_init_45 : decode cX8_init 45 = .ok (.invokespecial 34, 3) := by decide +kernel
theorem dX8_init_48 : decode cX8_init 48 = .ok (.putfield 35, 3) := by decide +kernel
theorem dX8_init_51 : decode cX8_init 51 = .ok (.aload_n 0, 1) := by decide +kernel
theorem dX8_init_52 : decode cX8_init 52 = .ok (.new 39, 3) := by decide +kernel
theorem dX8_init_55 : decode cX8_init 55 = .ok (.dup, 1) := by decide +kernel
theorem dX8_init_56 : decode cX8_init 56 = .ok (.invokespecial 41, 3) := by decide +kernel
theorem dX8_init_59 : decode cX8_init 59 = .ok (.putfield 42, 3) := by decide +kernel
theorem dX8_init_62 : decode cX8_init 62 = .ok (.aload_n 0, 1) := by decide +kernel
theorem dX8_init_63 : decode cX8_init 63 = .ok (.new 46, 3) := by decide +kernel
theorem dX8_init_66 : decode cX8_init 66 = .ok (.dup, 1) := by decide +kernel
theorem dX8_init_67 : decode cX8_init 67 = .ok (.invokespecial 48, 3) := by decide +kernel
theorem dX8_init_70 : decode cX8_init 70 = .ok (.putfield 49, 3) := by decide +kernel
theorem dX8_init_73 : decode cX8_init 73 = .ok (.aload_n 0, 1) := by decide +kernel
theorem dX8_init_74 : decode cX8_init 74 = .ok (.new 53, 3) := by decide +kernel
theorem dX8_init_77 : decode cX8_init 77 = .ok (.dup, 1) := by decide +kernel
theorem dX8_init_78 : decode cX8_init 78 = .ok (.invokespecial 55, 3) := by decide +kernel
theorem dX8_init_81 : decode cX8_init 81 = .ok (.putfield 56, 3) := by decide +kernel
theorem dX8_init_84 : decode cX8_init 84 = .ok (.aload_n 0, 1) := by decide +kernel
theorem dX8_init_85 : decode cX8_init 85 = .ok (.new 60, 3) := by decide +kernel
theorem dX8_init_88 : decode cX8_init 88 = .ok (.dup, 1) := by decide +kernel
theorem dX8_init_89 : decode cX8_init 89 = .ok (.invokespecial 62, 3) := by decide +kernel
theorem dX8_init_92 : decode cX8_init 92 = .ok (.putfield 63, 3) := by decide +kernel
theorem dX8_init_95 : decode cX8_init 95 = .ok (.aload_n 0, 1) := by decide +kernel
theorem dX8_init_96 : decode cX8_init 96 = .ok (.bipush 13, 2) := by decide +kernel
theorem dX8_init_98 : decode cX8_init 98 = .ok (.newarray .int, 2) := by decide +kernel
theorem dX8_init_100 : decode cX8_init 100 = .ok (.putfield 67, 3) := by decide +kernel
theorem dX8_init_103 : decode cX8_init 103 = .ok (.aload_n 0, 1) := by decide +kernel
theorem dX8_init_104 : decode cX8_init 104 = .ok (.iconst 0, 1) := by decide +kernel
theorem dX8_init_105 : decode cX8_init 105 = .ok (.putfield 70, 3) := by decide +kernel
theorem dX8_init_108 : decode cX8_init 108 = .ok (.aload_n 0, 1) := by decide +kernel
theorem dX8_init_109 : decode cX8_init 109 = .ok (.iconst 0, 1) := by decide +kernel
theorem dX8_init_110 : decode cX8_init 110 = .ok (.putfield 74, 3) := by decide +kernel
theorem dX8_init_113 : decode cX8_init 113 = .ok (.aload_n 0, 1) := by decide +kernel
theorem dX8_init_114 : decode cX8_init 114 = .ok (.iconst 0, 1) := by decide +kernel
theorem dX8_init_115 : decode cX8_init 115 = .ok (.putfield 77, 3) := by decide +kernel
theorem dX8_init_118 : decode cX8_init 118 = .ok (.iconst 0, 1) := by decide +kernel
theorem dX8_init_119 : decode cX8_init 119 = .ok (.istore_n 1, 1) := by decide +kernel
theorem dX8_init_120 : decode cX8_init 120 = .ok (.iload_n 1, 1) := by decide +kernel
theorem dX8_init_121 : decode cX8_init 121 = .ok (.bipush 6, 2) := by decide +kernel
theorem dX8_init_123 : decode cX8_init 123 = .ok (.if_icmp .ge 22, 3) := by decide +kernel
theorem dX8_init_126 : decode cX8_init 126 = .ok (.aload_n 0, 1) := by decide +kernel
theorem dX8_init_127 : decode cX8_init 127 = .ok (.getfield 17, 3) := by decide +kernel
theorem dX8_init_130 : decode cX8_init 130 = .ok (.iload_n 1, 1) := by decide +kernel
theorem dX8_init_131 : decode cX8_init 131 = .ok (.new 15, 3) := by decide +kernel
theorem dX8_init_134 : decode cX8_init 134 = .ok (.dup, 1) := by decide +kernel
theorem dX8_init_135 : decode cX8_init 135 = .ok (.invokespecial 27, 3) := by decide +kernel
theorem dX8_init_138 : decode cX8_init 138 = .ok (.aastore, 1) := by decide +kernel
theorem dX8_init_139 : decode cX8_init 139 = .ok (.iinc 1 1, 3) := by decide +kernel
theorem dX8_init_142 : decode cX8_init 142 = .ok (.goto (-22), 3) := by decide +kernel
theorem dX8_init_145 : decode cX8_init 145 = .ok (.iconst 0, 1) := by decide +kernel
theorem dX8_init_146 : decode cX8_init 146 = .ok (.istore_n 1, 1) := by decide +kernel
theorem dX8_init_147 : decode cX8_init 147 = .ok (.iload_n 1, 1) := by decide +kernel
theorem dX8_init_148 : decode cX8_init 148 = .ok (.iconst 4, 1) := by decide +kernel
theorem dX8_init_149 : decode cX8_init 149 = .ok (.if_icmp .ge 22, 3) := by decide +kernel
theorem dX8_init_152 : decode cX8_init 152 = .ok (.aload_n 0, 1) := by decide +kernel
theorem dX8_init_153 : decode cX8_init 153 = .ok (.getfield 23, 3) := by decide +kernel
theorem dX8_init_156 : decode cX8_init 156 = .ok (.iload_n 1, 1) := by decide +kernel
theorem dX8_init_157 : decode cX8_init 157 = .ok (.new 21, 3) := by decide +kernel
theorem dX8_init_160 : decode cX8_init 160 = .ok (.dup, 1) := by decide +kernel
theorem dX8_init_161 : decode cX8_init 161 = .ok (.invokespecial 80, 3) := by decide +kernel
theorem dX8_init_164 : decode cX8_init 164 = .ok (.aastore, 1) := by decide +kernel
theorem dX8_init_165 : decode cX8_init 165 = .ok (.iinc 1 1, 3) := by decide +kernel
theorem dX8_init_168 : decode cX8_init 168 = .ok (.goto (-21), 3) := by decide +kernel
theorem dX8_init_171 : decode cX8_init 171 = .ok (.return_, 1) := by decide +kernel
set_option maxRecDepth 20000 in
theorem ggX8_cries_X8_sheetOf : GoodIn wsX8_cries wsX8_sheetOf := goodIn_r _ [7, 8, 82, 83, 84, 85, 86, 87, 88, 89, 90, 91, 92, 93, 94] (by decide +kernel) (by decide +kernel)
set_option maxRecDepth 20000 in
theorem gX8_cries_X8_sheetOf : GoodIn wsX8_cries (wsV RX8 81 RX8 yX8_sheetOf wsX8_sheetOf) := goodIn_app (goodIn_of _ (by decide +kernel)) ggX8_cries_X8_sheetOf
set_option maxRecDepth 20000 in
theorem ggX8_cries_X8_isSort : GoodIn wsX8_cries wsX8_isSort := goodIn_r _ [11] (by decide +kernel) (by decide +kernel)
set_option maxRecDepth 20000 in
theorem gX8_cries_X8_isSort : GoodIn wsX8_cries (va_wsS RX8 85 yX8_isSort wsX8_isSort) := goodIn_app (goodIn_of _ (by decide +kernel)) ggX8_cries_X8_isSort
set_option maxRecDepth 20000 in
theorem ggX8_cries_X8_readingFault : GoodIn wsX8_cries wsX8_readingFault := goodIn_r _ [14, 15, 16, 17, 18, 19, 20, 21, 22, 23, 24, 25, 95, 96, 97] (by decide +kernel) (by decide +kernel)
set_option maxRecDepth 20000 in
theorem gX8_cries_X8_readingFault : GoodIn wsX8_cries (va_wsS RX8 89 yX8_readingFault wsX8_readingFault) := goodIn_app (goodIn_of _ (by decide +kernel)) ggX8_cries_X8_readingFault
set_option maxRecDepth 20000 in
theorem ggX8_cries_X8_fails : GoodIn wsX8_cries wsX8_fails := goodIn_r _ [29, 1, 82, 83, 84, 85, 86, 87, 88, 89, 90, 91, 92, 93, 94] (by decide +kernel) (by decide +kernel)
set_option maxRecDepth 20000 in
theorem gX8_cries_X8_fails : GoodIn wsX8_cries (wsV RX8 93 RX8 yX8_fails wsX8_fails) := goodIn_app (goodIn_of _ (by decide +kernel)) ggX8_cries_X8_fails
set_option maxRecDepth 20000 in
theorem ggX8_cries_X6_hasCells : GoodIn wsX8_cries wsX6_hasCells := goodIn_r _ [33, 20, 95, 96, 97] (by decide +kernel) (by decide +kernel)
set_option maxRecDepth 20000 in
theorem gX8_cries_X6_hasCells : GoodIn wsX8_cries (wsV RX8 97 RX6 yX6_hasCells wsX6_hasCells) := goodIn_app (goodIn_of _ (by decide +kernel)) ggX8_cries_X6_hasCells
set_option maxRecDepth 20000 in
theorem ggX8_cries_X8_firstFaultOf : GoodIn wsX8_cries wsX8_firstFaultOf := goodIn_r _ [36, 37, 38, 39, 18, 40, 41, 42, 31, 32, 33, 20, 43, 44, 6, 45, 95, 96, 97] (by decide +kernel) (by decide +kernel)
set_option maxRecDepth 20000 in
theorem gX8_cries_X8_firstFaultOf : GoodIn wsX8_cries (va_wsS RX8 101 yX8_firstFaultOf wsX8_firstFaultOf) := goodIn_app (goodIn_of _ (by decide +kernel)) ggX8_cries_X8_firstFaultOf
set_option maxRecDepth 20000 in
theorem ggX8_cries_X8_takeText : GoodIn wsX8_cries wsX8_takeText := goodIn_r _ [49, 2, 50, 51, 52, 6, 53, 54, 55, 56, 57, 58, 59, 60, 61, 62, 63, 64, 65, 66, 67, 68, 37, 38, 39, 18, 40, 41, 42, 31, 32, 33, 20, 43, 44, 45, 69, 70, 71, 72, 73, 74, 75, 76, 77, 78, 79, 80, 81, 82, 83, 84, 85, 86, 87, 88, 89, 90, 91, 92, 93, 94, 98, 99, 95, 96, 97] (by decide +kernel) (by decide +kernel)
set_option maxRecDepth 20000 in
theorem gX8_cries_X8_takeText : GoodIn wsX8_cries (wsV RX8 105 RX8 yX8_takeText wsX8_takeText) := goodIn_app (goodIn_of _ (by decide +kernel)) ggX8_cries_X8_takeText
theorem dX8_cries_0 : decode cX8_cries 0 = .ok (.aload_n 0, 1) := by decide +kernel
theorem dX8_cries_1 : decode cX8_cries 1 = .ok (.iconst 0, 1) := by decide +kernel
theorem dX8_cries_2 : decode cX8_cries 2 = .ok (.putfield 77, 3) := by decide +kernel
theorem dX8_cries_5 : decode cX8_cries 5 = .ok (.aload_n 0, 1) := by decide +kernel
theorem dX8_cries_6 : decode cX8_cries 6 = .ok (.iload_n 1, 1) := by decide +kernel
theorem dX8_cries_7 : decode cX8_cries 7 = .ok (.invokevirtual 81, 3) := by decide +kernel
theorem dX8_cries_10 : decode cX8_cries 10 = .ok (.astore 5, 2) := by decide +kernel
theorem dX8_cries_12 : decode cX8_cries 12 = .ok (.aload 5, 2) := by decide +kernel
theorem dX8_cries_14 : decode cX8_cries 14 = .ok (.ifnonnull 5, 3) := by decide +kernel
theorem dX8_cries_17 : decode cX8_cries 17 = .ok (.iconst (-1), 1) := by decide +kernel
theorem dX8_cries_18 : decode cX8_cries 18 = .ok (.ireturn, 1) := by decide +kernel
theorem dX8_cries_19 : decode cX8_cries 19 = .ok (.iload_n 2, 1) := by decide +kernel
theorem dX8_cries_20 : decode cX8_cries 20 = .ok (.invokestatic 85, 3) := by decide +kernel
theorem dX8_cries_23 : decode cX8_cries 23 = .ok (.ifCond .ne 6, 3) := by decide +kernel
theorem dX8_cries_26 : decode cX8_cries 26 = .ok (.bipush (-2), 2) := by decide +kernel
theorem dX8_cries_28 : decode cX8_cries 28 = .ok (.ireturn, 1) := by decide +kernel
theorem dX8_cries_29 : decode cX8_cries 29 = .ok (.aload 5, 2) := by decide +kernel
theorem dX8_cries_31 : decode cX8_cries 31 = .ok (.iload_n 2, 1) := by decide +kernel
theorem dX8_cries_32 : decode cX8_cries 32 = .ok (.invokestatic 89, 3) := by decide +kernel
theorem dX8_cries_35 : decode cX8_cries 35 = .ok (.istore 6, 2) := by decide +kernel
theorem dX8_cries_37 : decode cX8_cries 37 = .ok (.iload 6, 2) := by decide +kernel
theorem dX8_cries_39 : decode cX8_cries 39 = .ok (.ifCond .eq 10, 3) := by decide +kernel
theorem dX8_cries_42 : decode cX8_cries 42 = .ok (.aload_n 0, 1) := by decide +kernel
theorem dX8_cries_43 : decode cX8_cries 43 = .ok (.iload 6, 2) := by decide +kernel
theorem dX8_cries_45 : decode cX8_cries 45 = .ok (.invokevirtual 93, 3) := by decide +kernel
theorem dX8_cries_48 : decode cX8_cries 48 = .ok (.ireturn, 1) := by decide +kernel
theorem dX8_cries_49 : decode cX8_cries 49 = .ok (.iload 4, 2) := by decide +kernel
theorem dX8_cries_51 : decode cX8_cries 51 = .ok (.ifCond .ge 9, 3) := by decide +kernel
theorem dX8_cries_54 : decode cX8_cries 54 = .ok (.aload_n 0, 1) := by decide +kernel
theorem dX8_cries_55 : decode cX8_cries 55 = .ok (.iconst 4, 1) := by decide +kernel
theorem dX8_cries_56 : decode cX8_cries 56 = .ok (.invokevirtual 93, 3) := by decide +kernel
theorem dX8_cries_59 : decode cX8_cries 59 = .ok (.ireturn, 1) := by decide +kernel
theorem dX8_cries_60 : decode cX8_cries 60 = .ok (.aload 5, 2) := by decide +kernel
theorem dX8_cries_62 : decode cX8_cries 62 = .ok (.iload_n 3, 1) := by decide +kernel
theorem dX8_cries_63 : decode cX8_cries 63 = .ok (.iload 4, 2) := by decide +kernel
theorem dX8_cries_65 : decode cX8_cries 65 = .ok (.invokevirtual 97, 3) := by decide +kernel
theorem dX8_cries_68 : decode cX8_cries 68 = .ok (.ifCond .ne 9, 3) := by decide +kernel
theorem dX8_cries_71 : decode cX8_cries 71 = .ok (.aload_n 0, 1) := by decide +kernel
theorem dX8_cries_72 : decode cX8_cries 72 = .ok (.iconst 3, 1) := by decide +kernel
theorem dX8_cries_73 : decode cX8_cries 73 = .ok (.invokevirtual 93, 3) := by decide +kernel
theorem dX8_cries_76 : decode cX8_cries 76 = .ok (.ireturn, 1) := by decide +kernel
theorem dX8_cries_77 : decode cX8_cries 77 = .ok (.aload 5, 2) := by decide +kernel
theorem dX8_cries_79 : decode cX8_cries 79 = .ok (.iload_n 3, 1) := by decide +kernel
theorem dX8_cries_80 : decode cX8_cries 80 = .ok (.iload 4, 2) := by decide +kernel
theorem dX8_cries_82 : decode cX8_cries 82 = .ok (.invokestatic 101, 3) := by decide +kernel
theorem dX8_cries_85 : decode cX8_cries 85 = .ok (.istore 7, 2) := by decide +kernel
theorem dX8_cries_87 : decode cX8_cries 87 = .ok (.iload 7, 2) := by decide +kernel
theorem dX8_cries_89 : decode cX8_cries 89 = .ok (.bipush (-9), 2) := by decide +kernel
theorem dX8_cries_91 : decode cX8_cries 91 = .ok (.if_icmp .eq 9, 3) := by decide +kernel
theorem dX8_cries_94 : decode cX8_cries 94 = .ok (.bipush (-100), 2) := by decide +kernel
theorem dX8_cries_96 : decode cX8_cries 96 = .ok (.iload 7, 2) := by decide +kernel
theorem dX8_cries_98 : decode cX8_cries 98 = .ok (.isub, 1) := by decide +kernel
theorem dX8_cries_99 : decode cX8_cries 99 = .ok (.ireturn, 1) := by decide +kernel
theorem dX8_cries_100 : decode cX8_cries 100 = .ok (.aload_n 0, 1) := by decide +kernel
theorem dX8_cries_101 : decode cX8_cries 101 = .ok (.aload 5, 2) := by decide +kernel
theorem dX8_cries_103 : decode cX8_cries 103 = .ok (.iload_n 3, 1) := by decide +kernel
theorem dX8_cries_104 : decode cX8_cries 104 = .ok (.iload 4, 2) := by decide +kernel
theorem dX8_cries_106 : decode cX8_cries 106 = .ok (.invokevirtual 105, 3) := by decide +kernel
theorem dX8_cries_109 : decode cX8_cries 109 = .ok (.aload_n 0, 1) := by decide +kernel
theorem dX8_cries_110 : decode cX8_cries 110 = .ok (.getfield 70, 3) := by decide +kernel
theorem dX8_cries_113 : decode cX8_cries 113 = .ok (.ireturn, 1) := by decide +kernel
set_option maxRecDepth 20000 in
theorem ggX8_kind_X8_isWord : GoodIn wsX8_kind wsX8_isWord := goodIn_r _ [5] (by decide +kernel) (by decide +kernel)
set_option maxRecDepth 20000 in
theorem gX8_kind_X8_isWord : GoodIn wsX8_kind (va_wsS RX8 109 yX8_isWord wsX8_isWord) := goodIn_app (goodIn_of _ (by decide +kernel)) ggX8_kind_X8_isWord
set_option maxRecDepth 20000 in
theorem ggX8_kind_X8_isKind : GoodIn wsX8_kind wsX8_isKind := goodIn_r _ [8] (by decide +kernel) (by decide +kernel)
set_option maxRecDepth 20000 in
theorem gX8_kind_X8_isKind : GoodIn wsX8_kind (va_wsS RX8 112 yX8_isKind wsX8_isKind) := goodIn_app (goodIn_of _ (by decide +kernel)) ggX8_kind_X8_isKind
theorem dX8_kind_0 : decode cX8_kind 0 = .ok (.iload_n 1, 1) := by decide +kernel
theorem dX8_kind_1 : decode cX8_kind 1 = .ok (.invokestatic 109, 3) := by decide +kernel
theorem dX8_kind_4 : decode cX8_kind 4 = .ok (.ifCond .ne 5, 3) := by decide +kernel
theorem dX8_kind_7 : decode cX8_kind 7 = .ok (.iconst (-1), 1) := by decide +kernel
theorem dX8_kind_8 : decode cX8_kind 8 = .ok (.ireturn, 1) := by decide +kernel
theorem dX8_kind_9 : decode cX8_kind 9 = .ok (.iload_n 2, 1) := by decide +kernel
theorem dX8_kind_10 : decode cX8_kind 10 = .ok (.invokestatic 112, 3) := by decide +kernel
theorem dX8_kind_13 : decode cX8_kind 13 = .ok (.ifCond .ne 6, 3) := by decide +kernel
theorem dX8_kind_16 : decode cX8_kind 16 = .ok (.bipush (-2), 2) := by decide +kernel
theorem dX8_kind_18 : decode cX8_kind 18 = .ok (.ireturn, 1) := by decide +kernel
theorem dX8_kind_19 : decode cX8_kind 19 = .ok (.aload_n 0, 1) := by decide +kernel
theorem dX8_kind_20 : decode cX8_kind 20 = .ok (.getfield 11, 3) := by decide +kernel
theorem dX8_kind_23 : decode cX8_kind 23 = .ok (.iload_n 1, 1) := by decide +kernel
theorem dX8_kind_24 : decode cX8_kind 24 = .ok (.iaload, 1) := by decide +kernel
theorem dX8_kind_25 : decode cX8_kind 25 = .ok (.istore_n 3, 1) := by decide +kernel
theorem dX8_kind_26 : decode cX8_kind 26 = .ok (.aload_n 0, 1) := by decide +kernel
theorem dX8_kind_27 : decode cX8_kind 27 = .ok (.getfield 11, 3) := by decide +kernel
theorem dX8_kind_30 : decode cX8_kind 30 = .ok (.iload_n 1, 1) := by decide +kernel
theorem dX8_kind_31 : decode cX8_kind 31 = .ok (.iload_n 2, 1) := by decide +kernel
theorem dX8_kind_32 : decode cX8_kind 32 = .ok (.iastore, 1) := by decide +kernel
theorem dX8_kind_33 : decode cX8_kind 33 = .ok (.iload_n 3, 1) := by decide +kernel
theorem dX8_kind_34 : decode cX8_kind 34 = .ok (.ireturn, 1) := by decide +kernel
set_option maxRecDepth 20000 in
theorem ggX8_ofDay_X8_cryOf : GoodIn wsX8_ofDay wsX8_cryOf := goodIn_r _ [5, 6, 7, 24, 25, 26, 27, 28, 29, 30, 31, 32, 33, 34, 35, 36] (by decide +kernel) (by decide +kernel)
set_option maxRecDepth 20000 in
theorem gX8_ofDay_X8_cryOf : GoodIn wsX8_ofDay (wsV RX8 115 RX8 yX8_cryOf wsX8_cryOf) := goodIn_app (goodIn_of _ (by decide +kernel)) ggX8_ofDay_X8_cryOf
set_option maxRecDepth 20000 in
theorem ggX8_ofDay_X2_size : GoodIn wsX8_ofDay wsX2_size := goodIn_r _ [12, 13, 37, 38] (by decide +kernel) (by decide +kernel)
set_option maxRecDepth 20000 in
theorem gX8_ofDay_X2_size : GoodIn wsX8_ofDay (wsV RX8 119 RX2 yX2_size wsX2_size) := goodIn_app (goodIn_of _ (by decide +kernel)) ggX8_ofDay_X2_size
set_option maxRecDepth 20000 in
theorem ggX8_ofDay_X2_has : GoodIn wsX8_ofDay wsX2_has := goodIn_r _ [17, 13, 37, 38] (by decide +kernel) (by decide +kernel)
set_option maxRecDepth 20000 in
theorem gX8_ofDay_X2_has : GoodIn wsX8_ofDay (wsV RX8 123 RX2 yX2_has wsX2_has) := goodIn_app (goodIn_of _ (by decide +kernel)) ggX8_ofDay_X2_has
set_option maxRecDepth 20000 in
theorem ggX8_ofDay_X2_at : GoodIn wsX8_ofDay wsX2_at := goodIn_r _ [21, 22, 23, 15, 16, 11, 17, 13, 37, 38] (by decide +kernel) (by decide +kernel)
set_option maxRecDepth 20000 in
theorem gX8_ofDay_X2_at : GoodIn wsX8_ofDay (wsV RX8 126 RX2 yX2_at wsX2_at) := goodIn_app (goodIn_of _ (by decide +kernel)) ggX8_ofDay_X2_at
theorem dX8_ofDay_0 : decode cX8_ofDay 0 = .ok (.aload_n 0, 1) := by decide +kernel
theorem dX8_ofDay_1 : decode cX8_ofDay 1 = .ok (.iload_n 1, 1) := by decide +kernel
theorem dX8_ofDay_2 : decode cX8_ofDay 2 = .ok (.invokevirtual 115, 3) := by decide +kernel
theorem dX8_ofDay_5 : decode cX8_ofDay 5 = .ok (.astore_n 3, 1) := by decide +kernel
theorem dX8_ofDay_6 : decode cX8_ofDay 6 = .ok (.aload_n 3, 1) := by decide +kernel
theorem dX8_ofDay_7 : decode cX8_ofDay 7 = .ok (.ifnonnull 5, 3) := by decide +kernel
theorem dX8_ofDay_10 : decode cX8_ofDay 10 = .ok (.iconst (-1), 1) := by decide +kernel
theorem dX8_ofDay_11 : decode cX8_ofDay 11 = .ok (.ireturn, 1) := by decide +kernel
theorem dX8_ofDay_12 : decode cX8_ofDay 12 = .ok (.iload_n 2, 1) := by decide +kernel
theorem dX8_ofDay_13 : decode cX8_ofDay 13 = .ok (.iconst (-1), 1) := by decide +kernel
theorem dX8_ofDay_14 : decode cX8_ofDay 14 = .ok (.if_icmp .ne 8, 3) := by decide +kernel
theorem dX8_ofDay_17 : decode cX8_ofDay 17 = .ok (.aload_n 3, 1) := by decide +kernel
theorem dX8_ofDay_18 : decode cX8_ofDay 18 = .ok (.invokevirtual 119, 3) := by decide +kernel
theorem dX8_ofDay_21 : decode cX8_ofDay 21 = .ok (.ireturn, 1) := by decide +kernel
theorem dX8_ofDay_22 : decode cX8_ofDay 22 = .ok (.aload_n 3, 1) := by decide +kernel
theorem dX8_ofDay_23 : decode cX8_ofDay 23 = .ok (.iload_n 2, 1) := by decide +kernel
theorem dX8_ofDay_24 : decode cX8_ofDay 24 = .ok (.invokevirtual 123, 3) := by decide +kernel
theorem dX8_ofDay_27 : decode cX8_ofDay 27 = .ok (.ifCond .eq 11, 3) := by decide +kernel
theorem dX8_ofDay_30 : decode cX8_ofDay 30 = .ok (.aload_n 3, 1) := by decide +kernel
theorem dX8_ofDay_31 : decode cX8_ofDay 31 = .ok (.iload_n 2, 1) := by decide +kernel
theorem dX8_ofDay_32 : decode cX8_ofDay 32 = .ok (.invokevirtual 126, 3) := by decide +kernel
theorem dX8_ofDay_35 : decode cX8_ofDay 35 = .ok (.goto 4, 3) := by decide +kernel
theorem dX8_ofDay_38 : decode cX8_ofDay 38 = .ok (.iconst (-1), 1) := by decide +kernel
theorem dX8_ofDay_39 : decode cX8_ofDay 39 = .ok (.ireturn, 1) := by decide +kernel
set_option maxRecDepth 20000 in
theorem ggX8_add_X8_lastCry : GoodIn wsX8_add wsX8_lastCry := goodIn_r _ [5, 6, 7, 8, 9, 4, 10, 11, 31, 32, 33, 34, 35, 36, 37, 38, 39, 40, 41, 42, 43] (by decide +kernel) (by decide +kernel)
set_option maxRecDepth 20000 in
theorem gX8_add_X8_lastCry : GoodIn wsX8_add (wsV RX8 129 RX8 yX8_lastCry wsX8_lastCry) := goodIn_app (goodIn_of _ (by decide +kernel)) ggX8_add_X8_lastCry
set_option maxRecDepth 20000 in
theorem ggX8_add_X8_isWord : GoodIn wsX8_add wsX8_isWord := goodIn_r _ [14] (by decide +kernel) (by decide +kernel)
set_option maxRecDepth 20000 in
theorem gX8_add_X8_isWord : GoodIn wsX8_add (va_wsS RX8 109 yX8_isWord wsX8_isWord) := goodIn_app (goodIn_of _ (by decide +kernel)) ggX8_add_X8_isWord
set_option maxRecDepth 20000 in
theorem ggX8_add_X2_size : GoodIn wsX8_add wsX2_size := goodIn_r _ [19, 20, 44, 45] (by decide +kernel) (by decide +kernel)
set_option maxRecDepth 20000 in
theorem gX8_add_X2_size : GoodIn wsX8_add (wsV RX8 119 RX2 yX2_size wsX2_size) := goodIn_app (goodIn_of _ (by decide +kernel)) ggX8_add_X2_size
set_option maxRecDepth 20000 in
theorem ggX8_add_X2_isFull : GoodIn wsX8_add wsX2_isFull := goodIn_r _ [24, 20, 44, 45] (by decide +kernel) (by decide +kernel)
set_option maxRecDepth 20000 in
theorem gX8_add_X2_isFull : GoodIn wsX8_add (wsV RX8 133 RX2 yX2_isFull wsX2_isFull) := goodIn_app (goodIn_of _ (by decide +kernel)) ggX8_add_X2_isFull
set_option maxRecDepth 20000 in
theorem ggX8_add_X2_insert : GoodIn wsX8_add wsX2_insert := goodIn_r _ [28, 20, 29, 30, 22, 23, 18, 24, 44, 45] (by decide +kernel) (by decide +kernel)
set_option maxRecDepth 20000 in
theorem gX8_add_X2_insert : GoodIn wsX8_add (wsV RX8 137 RX2 yX2_insert wsX2_insert) := goodIn_app (goodIn_of _ (by decide +kernel)) ggX8_add_X2_insert
theorem dX8_add_0 : decode cX8_add 0 = .ok (.aload_n 0, 1) := by decide +kernel
theorem dX8_add_1 : decode cX8_add 1 = .ok (.invokevirtual 129, 3) := by decide +kernel
theorem dX8_add_4 : decode cX8_add 4 = .ok (.astore_n 3, 1) := by decide +kernel
theorem dX8_add_5 : decode cX8_add 5 = .ok (.iload_n 2, 1) := by decide +kernel
theorem dX8_add_6 : decode cX8_add 6 = .ok (.invokestatic 109, 3) := by decide +kernel
theorem dX8_add_9 : decode cX8_add 9 = .ok (.ifCond .eq 7, 3) := by decide +kernel
theorem dX8_add_12 : decode cX8_add 12 = .ok (.iload_n 1, 1) := by decide +kernel
theorem dX8_add_13 : decode cX8_add 13 = .ok (.ifCond .ge 5, 3) := by decide +kernel
theorem dX8_add_16 : decode cX8_add 16 = .ok (.iconst (-1), 1) := by decide +kernel
theorem dX8_add_17 : decode cX8_add 17 = .ok (.ireturn, 1) := by decide +kernel
theorem dX8_add_18 : decode cX8_add 18 = .ok (.aload_n 3, 1) := by decide +kernel
theorem dX8_add_19 : decode cX8_add 19 = .ok (.ifnonnull 6, 3) := by decide +kernel
theorem dX8_add_22 : decode cX8_add 22 = .ok (.bipush (-3), 2) := by decide +kernel
theorem dX8_add_24 : decode cX8_add 24 = .ok (.ireturn, 1) := by decide +kernel
theorem dX8_add_25 : decode cX8_add 25 = .ok (.iload_n 1, 1) := by decide +kernel
theorem dX8_add_26 : decode cX8_add 26 = .ok (.aload_n 3, 1) := by decide +kernel
theorem dX8_add_27 : decode cX8_add 27 = .ok (.invokevirtual 119, 3) := by decide +kernel
theorem dX8_add_30 : decode cX8_add 30 = .ok (.if_icmp .le 5, 3) := by decide +kernel
theorem dX8_add_33 : decode cX8_add 33 = .ok (.iconst (-1), 1) := by decide +kernel
theorem dX8_add_34 : decode cX8_add 34 = .ok (.ireturn, 1) := by decide +kernel
theorem dX8_add_35 : decode cX8_add 35 = .ok (.aload_n 3, 1) := by decide +kernel
theorem dX8_add_36 : decode cX8_add 36 = .ok (.invokevirtual 133, 3) := by decide +kernel
theorem dX8_add_39 : decode cX8_add 39 = .ok (.ifCond .eq 6, 3) := by decide +kernel
theorem dX8_add_42 : decode cX8_add 42 = .ok (.bipush (-4), 2) := by decide +kernel
theorem dX8_add_44 : decode cX8_add 44 = .ok (.ireturn, 1) := by decide +kernel
theorem dX8_add_45 : decode cX8_add 45 = .ok (.aload_n 3, 1) := by decide +kernel
theorem dX8_add_46 : decode cX8_add 46 = .ok (.iload_n 1, 1) := by decide +kernel
theorem dX8_add_47 : decode cX8_add 47 = .ok (.iload_n 2, 1) := by decide +kernel
theorem dX8_add_48 : decode cX8_add 48 = .ok (.invokevirtual 137, 3) := by decide +kernel
theorem dX8_add_51 : decode cX8_add 51 = .ok (.aload_n 3, 1) := by decide +kernel
theorem dX8_add_52 : decode cX8_add 52 = .ok (.invokevirtual 119, 3) := by decide +kernel
theorem dX8_add_55 : decode cX8_add 55 = .ok (.ireturn, 1) := by decide +kernel
set_option maxRecDepth 20000 in
theorem ggX8_within_X8_cryOf : GoodIn wsX8_within wsX8_cryOf := goodIn_r _ [6, 7, 8, 32, 33, 34, 35, 36, 37, 38, 39, 40, 41, 42, 43, 44] (by decide +kernel) (by decide +kernel)
set_option maxRecDepth 20000 in
theorem gX8_within_X8_cryOf : GoodIn wsX8_within (wsV RX8 115 RX8 yX8_cryOf wsX8_cryOf) := goodIn_app (goodIn_of _ (by decide +kernel)) ggX8_within_X8_cryOf
set_option maxRecDepth 20000 in
theorem ggX8_within_X3_make : GoodIn wsX8_within wsX3_make := goodIn_r _ [13, 14, 15, 16, 17, 18, 19, 20, 21, 22, 23, 24, 25, 26, 27, 28, 29, 30, 31, 45, 46, 47, 48, 49] (by decide +kernel) (by decide +kernel)
set_option maxRecDepth 20000 in
theorem gX8_within_X3_make : GoodIn wsX8_within (wsV RX8 141 RX3 yX3_make wsX3_make) := goodIn_app (goodIn_of _ (by decide +kernel)) ggX8_within_X3_make
theorem dX8_within_0 : decode cX8_within 0 = .ok (.aload_n 0, 1) := by decide +kernel
theorem dX8_within_1 : decode cX8_within 1 = .ok (.iload_n 1, 1) := by decide +kernel
theorem dX8_within_2 : decode cX8_within 2 = .ok (.invokevirtual 115, 3) := by decide +kernel
theorem dX8_within_5 : decode cX8_within 5 = .ok (.astore_n 3, 1) := by decide +kernel
theorem dX8_within_6 : decode cX8_within 6 = .ok (.aload_n 0, 1) := by decide +kernel
theorem dX8_within_7 : decode cX8_within 7 = .ok (.iload_n 2, 1) := by decide +kernel
theorem dX8_within_8 : decode cX8_within 8 = .ok (.invokevirtual 115, 3) := by decide +kernel
theorem dX8_within_11 : decode cX8_within 11 = .ok (.astore 4, 2) := by decide +kernel
theorem dX8_within_13 : decode cX8_within 13 = .ok (.aload_n 3, 1) := by decide +kernel
theorem dX8_within_14 : decode cX8_within 14 = .ok (.ifnull 8, 3) := by decide +kernel
theorem dX8_within_17 : decode cX8_within 17 = .ok (.aload 4, 2) := by decide +kernel
theorem dX8_within_19 : decode cX8_within 19 = .ok (.ifnonnull 5, 3) := by decide +kernel
theorem dX8_within_22 : decode cX8_within 22 = .ok (.iconst (-1), 1) := by decide +kernel
theorem dX8_within_23 : decode cX8_within 23 = .ok (.ireturn, 1) := by decide +kernel
theorem dX8_within_24 : decode cX8_within 24 = .ok (.aload_n 0, 1) := by decide +kernel
theorem dX8_within_25 : decode cX8_within 25 = .ok (.getfield 35, 3) := by decide +kernel
theorem dX8_within_28 : decode cX8_within 28 = .ok (.aload_n 3, 1) := by decide +kernel
theorem dX8_within_29 : decode cX8_within 29 = .ok (.aload 4, 2) := by decide +kernel
theorem dX8_within_31 : decode cX8_within 31 = .ok (.invokevirtual 141, 3) := by decide +kernel
theorem dX8_within_34 : decode cX8_within 34 = .ok (.ifCond .eq 7, 3) := by decide +kernel
theorem dX8_within_37 : decode cX8_within 37 = .ok (.iconst 1, 1) := by decide +kernel
theorem dX8_within_38 : decode cX8_within 38 = .ok (.goto 4, 3) := by decide +kernel
theorem dX8_within_41 : decode cX8_within 41 = .ok (.iconst 0, 1) := by decide +kernel
theorem dX8_within_42 : decode cX8_within 42 = .ok (.ireturn, 1) := by decide +kernel
set_option maxRecDepth 20000 in
theorem ggX8_leftOut_X8_cryOf : GoodIn wsX8_leftOut wsX8_cryOf := goodIn_r _ [7, 1, 8, 32, 33, 34, 35, 36, 37, 38, 39, 40, 41, 42, 43, 44] (by decide +kernel) (by decide +kernel)
set_option maxRecDepth 20000 in
theorem gX8_leftOut_X8_cryOf : GoodIn wsX8_leftOut (wsV RX8 115 RX8 yX8_cryOf wsX8_cryOf) := goodIn_app (goodIn_of _ (by decide +kernel)) ggX8_leftOut_X8_cryOf
set_option maxRecDepth 20000 in
theorem ggX8_leftOut_X3_make : GoodIn wsX8_leftOut wsX3_make := goodIn_r _ [13, 14, 15, 16, 17, 18, 19, 20, 21, 22, 23, 24, 25, 26, 27, 28, 29, 30, 31, 45, 46, 47, 48, 49] (by decide +kernel) (by decide +kernel)
set_option maxRecDepth 20000 in
theorem gX8_leftOut_X3_make : GoodIn wsX8_leftOut (wsV RX8 141 RX3 yX3_make wsX3_make) := goodIn_app (goodIn_of _ (by decide +kernel)) ggX8_leftOut_X3_make
theorem dX8_leftOut_0 : decode cX8_leftOut 0 = .ok (.iconst 1, 1) := by decide +kernel
theorem dX8_leftOut_1 : decode cX8_leftOut 1 = .ok (.istore_n 1, 1) := by decide +kernel
theorem dX8_leftOut_2 : decode cX8_leftOut 2 = .ok (.iload_n 1, 1) := by decide +kernel
theorem dX8_leftOut_3 : decode cX8_leftOut 3 = .ok (.aload_n 0, 1) := by decide +kernel
theorem dX8_leftOut_4 : decode cX8_leftOut 4 = .ok (.getfield 70, 3) := by decide +kernel
theorem dX8_leftOut_7 : decode cX8_leftOut 7 = .ok (.if_icmp .ge 45, 3) := by decide +kernel
theorem dX8_leftOut_10 : decode cX8_leftOut 10 = .ok (.aload_n 0, 1) := by decide +kernel
theorem dX8_leftOut_11 : decode cX8_leftOut 11 = .ok (.iload_n 1, 1) := by decide +kernel
theorem dX8_leftOut_12 : decode cX8_leftOut 12 = .ok (.iconst 1, 1) := by decide +kernel
theorem dX8_leftOut_13 : decode cX8_leftOut 13 = .ok (.isub, 1) := by decide +kernel
theorem dX8_leftOut_14 : decode cX8_leftOut 14 = .ok (.invokevirtual 115, 3) := by decide +kernel
theorem dX8_leftOut_17 : decode cX8_leftOut 17 = .ok (.astore_n 2, 1) := by decide +kernel
theorem dX8_leftOut_18 : decode cX8_leftOut 18 = .ok (.aload_n 0, 1) := by decide +kernel
theorem dX8_leftOut_19 : decode cX8_leftOut 19 = .ok (.iload_n 1, 1) := by decide +kernel
theorem dX8_leftOut_20 : decode cX8_leftOut 20 = .ok (.invokevirtual 115, 3) := by decide +kernel
theorem dX8_leftOut_23 : decode cX8_leftOut 23 = .ok (.astore_n 3, 1) := by decide +kernel
theorem dX8_leftOut_24 : decode cX8_leftOut 24 = .ok (.aload_n 2, 1) := by decide +kernel
theorem dX8_leftOut_25 : decode cX8_leftOut 25 = .ok (.ifnull 21, 3) := by decide +kernel
theorem dX8_leftOut_28 : decode cX8_leftOut 28 = .ok (.aload_n 3, 1) := by decide +kernel
theorem dX8_leftOut_29 : decode cX8_leftOut 29 = .ok (.ifnull 17, 3) := by decide +kernel
theorem dX8_leftOut_32 : decode cX8_leftOut 32 = .ok (.aload_n 0, 1) := by decide +kernel
theorem dX8_leftOut_33 : decode cX8_leftOut 33 = .ok (.getfield 35, 3) := by decide +kernel
theorem dX8_leftOut_36 : decode cX8_leftOut 36 = .ok (.aload_n 2, 1) := by decide +kernel
theorem dX8_leftOut_37 : decode cX8_leftOut 37 = .ok (.aload_n 3, 1) := by decide +kernel
theorem dX8_leftOut_38 : decode cX8_leftOut 38 = .ok (.invokevirtual 141, 3) := by decide +kernel
theorem dX8_leftOut_41 : decode cX8_leftOut 41 = .ok (.ifCond .ne 5, 3) := by decide +kernel
theorem dX8_leftOut_44 : decode cX8_leftOut 44 = .ok (.iload_n 1, 1) := by decide +kernel
theorem dX8_leftOut_45 : decode cX8_leftOut 45 = .ok (.ireturn, 1) := by decide +kernel
theorem dX8_leftOut_46 : decode cX8_leftOut 46 = .ok (.iinc 1 1, 3) := by decide +kernel
theorem dX8_leftOut_49 : decode cX8_leftOut 49 = .ok (.goto (-47), 3) := by decide +kernel
theorem dX8_leftOut_52 : decode cX8_leftOut 52 = .ok (.bipush (-9), 2) := by decide +kernel
theorem dX8_leftOut_54 : decode cX8_leftOut 54 = .ok (.ireturn, 1) := by decide +kernel
set_option maxRecDepth 20000 in
theorem ggX8_said_X8_cryOf : GoodIn wsX8_said wsX8_cryOf := goodIn_r _ [6, 7, 8, 31, 32, 33, 34, 35, 36, 37, 38, 39, 40, 41, 42, 43] (by decide +kernel) (by decide +kernel)
set_option maxRecDepth 20000 in
theorem gX8_said_X8_cryOf : GoodIn wsX8_said (wsV RX8 115 RX8 yX8_cryOf wsX8_cryOf) := goodIn_app (goodIn_of _ (by decide +kernel)) ggX8_said_X8_cryOf
set_option maxRecDepth 20000 in
theorem ggX8_said_X5_isSaid : GoodIn wsX8_said wsX5_isSaid := goodIn_r _ [12, 13, 14, 15, 16, 17, 18, 19, 20, 21, 22, 23, 24, 25, 26, 27, 28, 29, 11, 30, 44, 45] (by decide +kernel) (by decide +kernel)
set_option maxRecDepth 20000 in
theorem gX8_said_X5_isSaid : GoodIn wsX8_said (va_wsS RX8 145 yX5_isSaid wsX5_isSaid) := goodIn_app (goodIn_of _ (by decide +kernel)) ggX8_said_X5_isSaid
theorem dX8_said_0 : decode cX8_said 0 = .ok (.aload_n 0, 1) := by decide +kernel
theorem dX8_said_1 : decode cX8_said 1 = .ok (.iload_n 1, 1) := by decide +kernel
theorem dX8_said_2 : decode cX8_said 2 = .ok (.invokevirtual 115, 3) := by decide +kernel
theorem dX8_said_5 : decode cX8_said 5 = .ok (.astore_n 2, 1) := by decide +kernel
theorem dX8_said_6 : decode cX8_said 6 = .ok (.aload_n 2, 1) := by decide +kernel
theorem dX8_said_7 : decode cX8_said 7 = .ok (.ifnonnull 5, 3) := by decide +kernel
theorem dX8_said_10 : decode cX8_said 10 = .ok (.iconst (-1), 1) := by decide +kernel
theorem dX8_said_11 : decode cX8_said 11 = .ok (.ireturn, 1) := by decide +kernel
theorem dX8_said_12 : decode cX8_said 12 = .ok (.iconst 0, 1) := by decide +kernel
theorem dX8_said_13 : decode cX8_said 13 = .ok (.istore_n 3, 1) := by decide +kernel
theorem dX8_said_14 : decode cX8_said 14 = .ok (.iconst 0, 1) := by decide +kernel
theorem dX8_said_15 : decode cX8_said 15 = .ok (.istore 4, 2) := by decide +kernel
theorem dX8_said_17 : decode cX8_said 17 = .ok (.iload 4, 2) := by decide +kernel
theorem dX8_said_19 : decode cX8_said 19 = .ok (.bipush 8, 2) := by decide +kernel
theorem dX8_said_21 : decode cX8_said 21 = .ok (.if_icmp .ge 39, 3) := by decide +kernel
theorem dX8_said_24 : decode cX8_said 24 = .ok (.aload_n 0, 1) := by decide +kernel
theorem dX8_said_25 : decode cX8_said 25 = .ok (.getfield 11, 3) := by decide +kernel
theorem dX8_said_28 : decode cX8_said 28 = .ok (.iload 4, 2) := by decide +kernel
theorem dX8_said_30 : decode cX8_said 30 = .ok (.iaload, 1) := by decide +kernel
theorem dX8_said_31 : decode cX8_said 31 = .ok (.ifCond .ne 23, 3) := by decide +kernel
theorem dX8_said_34 : decode cX8_said 34 = .ok (.aload_n 2, 1) := by decide +kernel
theorem dX8_said_35 : decode cX8_said 35 = .ok (.aload_n 0, 1) := by decide +kernel
theorem dX8_said_36 : decode cX8_said 36 = .ok (.getfield 11, 3) := by decide +kernel
theorem dX8_said_39 : decode cX8_said 39 = .ok (.iload 4, 2) := by decide +kernel
theorem dX8_said_41 : decode cX8_said 41 = .ok (.invokestatic 145, 3) := by decide +kernel
theorem dX8_said_44 : decode cX8_said 44 = .ok (.ifCond .eq 10, 3) := by decide +kernel
theorem dX8_said_47 : decode cX8_said 47 = .ok (.iload_n 3, 1) := by decide +kernel
theorem dX8_said_48 : decode cX8_said 48 = .ok (.iconst 1, 1) := by decide +kernel
theorem dX8_said_49 : decode cX8_said 49 = .ok (.iload 4, 2) := by decide +kernel
theorem dX8_said_51 : decode cX8_said 51 = .ok (.ishl, 1) := by decide +kernel
theorem dX8_said_52 : decode cX8_said 52 = .ok (.ior, 1) := by decide +kernel
theorem dX8_said_53 : decode cX8_said 53 = .ok (.istore_n 3, 1) := by decide +kernel
theorem dX8_said_54 : decode cX8_said 54 = .ok (.iinc 4 1, 3) := by decide +kernel
theorem dX8_said_57 : decode cX8_said 57 = .ok (.goto (-40), 3) := by decide +kernel
theorem dX8_said_60 : decode cX8_said 60 = .ok (.iload_n 3, 1) := by decide +kernel
theorem dX8_said_61 : decode cX8_said 61 = .ok (.ireturn, 1) := by decide +kernel
set_option maxRecDepth 20000 in
theorem ggX8_putIn_X8_cryOf : GoodIn wsX8_putIn wsX8_cryOf := goodIn_r _ [7, 8, 9, 66, 67, 68, 69, 70, 71, 72, 73, 74, 75, 76, 77, 78] (by decide +kernel) (by decide +kernel)
set_option maxRecDepth 20000 in
theorem gX8_putIn_X8_cryOf : GoodIn wsX8_putIn (wsV RX8 115 RX8 yX8_cryOf wsX8_cryOf) := goodIn_app (goodIn_of _ (by decide +kernel)) ggX8_putIn_X8_cryOf
set_option maxRecDepth 20000 in
theorem ggX8_putIn_X8_isWord : GoodIn wsX8_putIn wsX8_isWord := goodIn_r _ [12] (by decide +kernel) (by decide +kernel)
set_option maxRecDepth 20000 in
theorem gX8_putIn_X8_isWord : GoodIn wsX8_putIn (va_wsS RX8 109 yX8_isWord wsX8_isWord) := goodIn_app (goodIn_of _ (by decide +kernel)) ggX8_putIn_X8_isWord
set_option maxRecDepth 20000 in
theorem ggX8_putIn_X5_fewest : GoodIn wsX8_putIn wsX5_fewest := goodIn_r _ [17, 18, 19, 20, 16, 21, 22, 23, 24, 25, 26, 27, 28, 29, 30, 31, 32, 33, 34, 35, 36, 37, 38, 39, 40, 41, 42, 43, 44, 45, 46, 47, 48, 49, 50, 51, 52, 53, 54, 55, 56, 57, 58, 59, 60, 61, 79, 80, 81, 82] (by decide +kernel) (by decide +kernel)
set_option maxRecDepth 20000 in
theorem gX8_putIn_X5_fewest : GoodIn wsX8_putIn (wsV RX8 149 RX5 yX5_fewest wsX5_fewest) := goodIn_app (goodIn_of _ (by decide +kernel)) ggX8_putIn_X5_fewest
set_option maxRecDepth 20000 in
theorem ggX8_putIn_X5_found : GoodIn wsX8_putIn wsX5_found := goodIn_r _ [65, 57, 79, 80] (by decide +kernel) (by decide +kernel)
set_option maxRecDepth 20000 in
theorem gX8_putIn_X5_found : GoodIn wsX8_putIn (wsV RX8 153 RX5 yX5_found wsX5_found) := goodIn_app (goodIn_of _ (by decide +kernel)) ggX8_putIn_X5_found
theorem dX8_putIn_0 : decode cX8_putIn 0 = .ok (.aload_n 0, 1) := by decide +kernel
theorem dX8_putIn_1 : decode cX8_putIn 1 = .ok (.iload_n 1, 1) := by decide +kernel
theorem dX8_putIn_2 : decode cX8_putIn 2 = .ok (.invokevirtual 115, 3) := by decide +kernel
theorem dX8_putIn_5 : decode cX8_putIn 5 = .ok (.astore 5, 2) := by decide +kernel
theorem dX8_putIn_7 : decode cX8_putIn 7 = .ok (.aload 5, 2) := by decide +kernel
theorem dX8_putIn_9 : decode cX8_putIn 9 = .ok (.ifnull 22, 3) := by decide +kernel
theorem dX8_putIn_12 : decode cX8_putIn 12 = .ok (.iload_n 2, 1) := by decide +kernel
theorem dX8_putIn_13 : decode cX8_putIn 13 = .ok (.invokestatic 109, 3) := by decide +kernel
theorem dX8_putIn_16 : decode cX8_putIn 16 = .ok (.ifCond .eq 15, 3) := by decide +kernel
theorem dX8_putIn_19 : decode cX8_putIn 19 = .ok (.iload 4, 2) := by decide +kernel
theorem dX8_putIn_21 : decode cX8_putIn 21 = .ok (.iconst (-1), 1) := by decide +kernel
theorem dX8_putIn_22 : decode cX8_putIn 22 = .ok (.if_icmp .lt 9, 3) := by decide +kernel
theorem dX8_putIn_25 : decode cX8_putIn 25 = .ok (.iload 4, 2) := by decide +kernel
theorem dX8_putIn_27 : decode cX8_putIn 27 = .ok (.iconst 1, 1) := by decide +kernel
theorem dX8_putIn_28 : decode cX8_putIn 28 = .ok (.if_icmp .le 5, 3) := by decide +kernel
theorem dX8_putIn_31 : decode cX8_putIn 31 = .ok (.iconst (-1), 1) := by decide +kernel
theorem dX8_putIn_32 : decode cX8_putIn 32 = .ok (.ireturn, 1) := by decide +kernel
theorem dX8_putIn_33 : decode cX8_putIn 33 = .ok (.aload_n 0, 1) := by decide +kernel
theorem dX8_putIn_34 : decode cX8_putIn 34 = .ok (.getfield 11, 3) := by decide +kernel
theorem dX8_putIn_37 : decode cX8_putIn 37 = .ok (.iload_n 2, 1) := by decide +kernel
theorem dX8_putIn_38 : decode cX8_putIn 38 = .ok (.iaload, 1) := by decide +kernel
theorem dX8_putIn_39 : decode cX8_putIn 39 = .ok (.ifCond .eq 6, 3) := by decide +kernel
theorem dX8_putIn_42 : decode cX8_putIn 42 = .ok (.bipush (-3), 2) := by decide +kernel
theorem dX8_putIn_44 : decode cX8_putIn 44 = .ok (.ireturn, 1) := by decide +kernel
theorem dX8_putIn_45 : decode cX8_putIn 45 = .ok (.aload_n 0, 1) := by decide +kernel
theorem dX8_putIn_46 : decode cX8_putIn 46 = .ok (.getfield 42, 3) := by decide +kernel
theorem dX8_putIn_49 : decode cX8_putIn 49 = .ok (.aload 5, 2) := by decide +kernel
theorem dX8_putIn_51 : decode cX8_putIn 51 = .ok (.aload_n 0, 1) := by decide +kernel
theorem dX8_putIn_52 : decode cX8_putIn 52 = .ok (.getfield 11, 3) := by decide +kernel
theorem dX8_putIn_55 : decode cX8_putIn 55 = .ok (.iload_n 2, 1) := by decide +kernel
theorem dX8_putIn_56 : decode cX8_putIn 56 = .ok (.iload_n 3, 1) := by decide +kernel
theorem dX8_putIn_57 : decode cX8_putIn 57 = .ok (.invokevirtual 149, 3) := by decide +kernel
theorem dX8_putIn_60 : decode cX8_putIn 60 = .ok (.istore 6, 2) := by decide +kernel
theorem dX8_putIn_62 : decode cX8_putIn 62 = .ok (.iload 4, 2) := by decide +kernel
theorem dX8_putIn_64 : decode cX8_putIn 64 = .ok (.iconst (-1), 1) := by decide +kernel
theorem dX8_putIn_65 : decode cX8_putIn 65 = .ok (.if_icmp .ne 6, 3) := by decide +kernel
theorem dX8_putIn_68 : decode cX8_putIn 68 = .ok (.iload 6, 2) := by decide +kernel
theorem dX8_putIn_70 : decode cX8_putIn 70 = .ok (.ireturn, 1) := by decide +kernel
theorem dX8_putIn_71 : decode cX8_putIn 71 = .ok (.iload 4, 2) := by decide +kernel
theorem dX8_putIn_73 : decode cX8_putIn 73 = .ok (.iload 6, 2) := by decide +kernel
theorem dX8_putIn_75 : decode cX8_putIn 75 = .ok (.if_icmp .ge 15, 3) := by decide +kernel
theorem dX8_putIn_78 : decode cX8_putIn 78 = .ok (.aload_n 0, 1) := by decide +kernel
theorem dX8_putIn_79 : decode cX8_putIn 79 = .ok (.getfield 42, 3) := by decide +kernel
theorem dX8_putIn_82 : decode cX8_putIn 82 = .ok (.iload 4, 2) := by decide +kernel
theorem dX8_putIn_84 : decode cX8_putIn 84 = .ok (.invokevirtual 153, 3) := by decide +kernel
theorem dX8_putIn_87 : decode cX8_putIn 87 = .ok (.goto 5, 3) := by decide +kernel
theorem dX8_putIn_90 : decode cX8_putIn 90 = .ok (.bipush (-9), 2) := by decide +kernel
theorem dX8_putIn_92 : decode cX8_putIn 92 = .ok (.ireturn, 1) := by decide +kernel
set_option maxRecDepth 20000 in
theorem ggX8_ways_X8_cryOf : GoodIn wsX8_ways wsX8_cryOf := goodIn_r _ [7, 8, 9, 39, 40, 41, 42, 43, 44, 45, 46, 47, 48, 49, 50, 51] (by decide +kernel) (by decide +kernel)
set_option maxRecDepth 20000 in
theorem gX8_ways_X8_cryOf : GoodIn wsX8_ways (wsV RX8 115 RX8 yX8_cryOf wsX8_cryOf) := goodIn_app (goodIn_of _ (by decide +kernel)) ggX8_ways_X8_cryOf
set_option maxRecDepth 20000 in
theorem ggX8_ways_X3_choices : GoodIn wsX8_ways wsX3_choices := goodIn_r _ [14, 15, 16, 17, 18, 19, 20, 21, 22, 23, 24, 25, 26, 27, 28, 29, 30, 31, 32, 33, 34, 35, 36, 37, 38, 52, 53, 54, 55, 56] (by decide +kernel) (by decide +kernel)
set_option maxRecDepth 20000 in
theorem gX8_ways_X3_choices : GoodIn wsX8_ways (wsV RX8 158 RX3 yX3_choices wsX3_choices) := goodIn_app (goodIn_of _ (by decide +kernel)) ggX8_ways_X3_choices
theorem dX8_ways_0 : decode cX8_ways 0 = .ok (.aload_n 0, 1) := by decide +kernel
theorem dX8_ways_1 : decode cX8_ways 1 = .ok (.iload_n 1, 1) := by decide +kernel
theorem dX8_ways_2 : decode cX8_ways 2 = .ok (.invokevirtual 115, 3) := by decide +kernel
theorem dX8_ways_5 : decode cX8_ways 5 = .ok (.astore_n 3, 1) := by decide +kernel
theorem dX8_ways_6 : decode cX8_ways 6 = .ok (.aload_n 0, 1) := by decide +kernel
theorem dX8_ways_7 : decode cX8_ways 7 = .ok (.iload_n 2, 1) := by decide +kernel
theorem dX8_ways_8 : decode cX8_ways 8 = .ok (.invokevirtual 115, 3) := by decide +kernel
theorem dX8_ways_11 : decode cX8_ways 11 = .ok (.astore 4, 2) := by decide +kernel
theorem dX8_ways_13 : decode cX8_ways 13 = .ok (.aload_n 3, 1) := by decide +kernel
theorem dX8_ways_14 : decode cX8_ways 14 = .ok (.ifnull 8, 3) := by decide +kernel
theorem dX8_ways_17 : decode cX8_ways 17 = .ok (.aload 4, 2) := by decide +kernel
theorem dX8_ways_19 : decode cX8_ways 19 = .ok (.ifnonnull 7, 3) := by decide +kernel
theorem dX8_ways_22 : decode cX8_ways 22 = .ok (.ldc2_w 156, 3) := by decide +kernel
theorem dX8_ways_25 : decode cX8_ways 25 = .ok (.lreturn, 1) := by decide +kernel
theorem dX8_ways_26 : decode cX8_ways 26 = .ok (.aload_n 0, 1) := by decide +kernel
theorem dX8_ways_27 : decode cX8_ways 27 = .ok (.getfield 35, 3) := by decide +kernel
theorem dX8_ways_30 : decode cX8_ways 30 = .ok (.aload_n 3, 1) := by decide +kernel
theorem dX8_ways_31 : decode cX8_ways 31 = .ok (.aload 4, 2) := by decide +kernel
theorem dX8_ways_33 : decode cX8_ways 33 = .ok (.invokevirtual 158, 3) := by decide +kernel
theorem dX8_ways_36 : decode cX8_ways 36 = .ok (.lreturn, 1) := by decide +kernel
set_option maxRecDepth 20000 in
theorem ggX8_place_X8_cryOf : GoodIn wsX8_place wsX8_cryOf := goodIn_r _ [6, 7, 8, 44, 45, 46, 47, 48, 49, 50, 51, 52, 53, 54, 55, 56] (by decide +kernel) (by decide +kernel)
set_option maxRecDepth 20000 in
theorem gX8_place_X8_cryOf : GoodIn wsX8_place (wsV RX8 115 RX8 yX8_cryOf wsX8_cryOf) := goodIn_app (goodIn_of _ (by decide +kernel)) ggX8_place_X8_cryOf
set_option maxRecDepth 20000 in
theorem ggX8_place_X2_has : GoodIn wsX8_place wsX2_has := goodIn_r _ [13, 14, 57, 58] (by decide +kernel) (by decide +kernel)
set_option maxRecDepth 20000 in
theorem gX8_place_X2_has : GoodIn wsX8_place (wsV RX8 123 RX2 yX2_has wsX2_has) := goodIn_app (goodIn_of _ (by decide +kernel)) ggX8_place_X2_has
set_option maxRecDepth 20000 in
theorem ggX8_place_X8_isFirstOrSecond : GoodIn wsX8_place wsX8_isFirstOrSecond := goodIn_r _ [17] (by decide +kernel) (by decide +kernel)
set_option maxRecDepth 20000 in
theorem gX8_place_X8_isFirstOrSecond : GoodIn wsX8_place (va_wsS RX8 162 yX8_isFirstOrSecond wsX8_isFirstOrSecond) := goodIn_app (goodIn_of _ (by decide +kernel)) ggX8_place_X8_isFirstOrSecond
set_option maxRecDepth 20000 in
theorem ggX8_place_X3_make : GoodIn wsX8_place wsX3_make := goodIn_r _ [22, 23, 24, 25, 26, 27, 12, 28, 14, 29, 10, 11, 13, 30, 31, 32, 33, 34, 35, 59, 60, 61, 57, 58] (by decide +kernel) (by decide +kernel)
set_option maxRecDepth 20000 in
theorem gX8_place_X3_make : GoodIn wsX8_place (wsV RX8 141 RX3 yX3_make wsX3_make) := goodIn_app (goodIn_of _ (by decide +kernel)) ggX8_place_X3_make
set_option maxRecDepth 20000 in
theorem ggX8_place_X3_first : GoodIn wsX8_place wsX3_first := goodIn_r _ [39, 23, 59, 60, 61] (by decide +kernel) (by decide +kernel)
set_option maxRecDepth 20000 in
theorem gX8_place_X3_first : GoodIn wsX8_place (wsV RX8 165 RX3 yX3_first wsX3_first) := goodIn_app (goodIn_of _ (by decide +kernel)) ggX8_place_X3_first
set_option maxRecDepth 20000 in
theorem ggX8_place_X3_last : GoodIn wsX8_place wsX3_last := goodIn_r _ [43, 24, 59, 60, 61] (by decide +kernel) (by decide +kernel)
set_option maxRecDepth 20000 in
theorem gX8_place_X3_last : GoodIn wsX8_place (wsV RX8 168 RX3 yX3_last wsX3_last) := goodIn_app (goodIn_of _ (by decide +kernel)) ggX8_place_X3_last
theorem dX8_place_0 : decode cX8_place 0 = .ok (.aload_n 0, 1) := by decide +kernel
theorem dX8_place_1 : decode cX8_place 1 = .ok (.iload_n 1, 1) := by decide +kernel
theorem dX8_place_2 : decode cX8_place 2 = .ok (.invokevirtual 115, 3) := by decide +kernel
theorem dX8_place_5 : decode cX8_place 5 = .ok (.astore 5, 2) := by decide +kernel
theorem dX8_place_7 : decode cX8_place 7 = .ok (.aload_n 0, 1) := by decide +kernel
theorem dX8_place_8 : decode cX8_place 8 = .ok (.iload_n 2, 1) := by decide +kernel
theorem dX8_place_9 : decode cX8_place 9 = .ok (.invokevirtual 115, 3) := by decide +kernel
theorem dX8_place_12 : decode cX8_place 12 = .ok (.astore 6, 2) := by decide +kernel
theorem dX8_place_14 : decode cX8_place 14 = .ok (.aload 5, 2) := by decide +kernel
theorem dX8_place_16 : decode cX8_place 16 = .ok (.ifnull 17, 3) := by decide +kernel
theorem dX8_place_19 : decode cX8_place 19 = .ok (.aload 6, 2) := by decide +kernel
theorem dX8_place_21 : decode cX8_place 21 = .ok (.ifnull 12, 3) := by decide +kernel
theorem dX8_place_24 : decode cX8_place 24 = .ok (.aload 5, 2) := by decide +kernel
theorem dX8_place_26 : decode cX8_place 26 = .ok (.iload_n 3, 1) := by decide +kernel
theorem dX8_place_27 : decode cX8_place 27 = .ok (.invokevirtual 123, 3) := by decide +kernel
theorem dX8_place_30 : decode cX8_place 30 = .ok (.ifCond .ne 5, 3) := by decide +kernel
theorem dX8_place_33 : decode cX8_place 33 = .ok (.iconst (-1), 1) := by decide +kernel
theorem dX8_place_34 : decode cX8_place 34 = .ok (.ireturn, 1) := by decide +kernel
theorem dX8_place_35 : decode cX8_place 35 = .ok (.iload 4, 2) := by decide +kernel
theorem dX8_place_37 : decode cX8_place 37 = .ok (.invokestatic 162, 3) := by decide +kernel
theorem dX8_place_40 : decode cX8_place 40 = .ok (.ifCond .ne 6, 3) := by decide +kernel
theorem dX8_place_43 : decode cX8_place 43 = .ok (.bipush (-2), 2) := by decide +kernel
theorem dX8_place_45 : decode cX8_place 45 = .ok (.ireturn, 1) := by decide +kernel
theorem dX8_place_46 : decode cX8_place 46 = .ok (.aload_n 0, 1) := by decide +kernel
theorem dX8_place_47 : decode cX8_place 47 = .ok (.getfield 35, 3) := by decide +kernel
theorem dX8_place_50 : decode cX8_place 50 = .ok (.aload 5, 2) := by decide +kernel
theorem dX8_place_52 : decode cX8_place 52 = .ok (.aload 6, 2) := by decide +kernel
theorem dX8_place_54 : decode cX8_place 54 = .ok (.invokevirtual 141, 3) := by decide +kernel
theorem dX8_place_57 : decode cX8_place 57 = .ok (.ifCond .ne 6, 3) := by decide +kernel
theorem dX8_place_60 : decode cX8_place 60 = .ok (.bipush (-9), 2) := by decide +kernel
theorem dX8_place_62 : decode cX8_place 62 = .ok (.ireturn, 1) := by decide +kernel
theorem dX8_place_63 : decode cX8_place 63 = .ok (.iload 4, 2) := by decide +kernel
theorem dX8_place_65 : decode cX8_place 65 = .ok (.ifCond .ne 14, 3) := by decide +kernel
theorem dX8_place_68 : decode cX8_place 68 = .ok (.aload_n 0, 1) := by decide +kernel
theorem dX8_place_69 : decode cX8_place 69 = .ok (.getfield 35, 3) := by decide +kernel
theorem dX8_place_72 : decode cX8_place 72 = .ok (.iload_n 3, 1) := by decide +kernel
theorem dX8_place_73 : decode cX8_place 73 = .ok (.invokevirtual 165, 3) := by decide +kernel
theorem dX8_place_76 : decode cX8_place 76 = .ok (.goto 11, 3) := by decide +kernel
theorem dX8_place_79 : decode cX8_place 79 = .ok (.aload_n 0, 1) := by decide +kernel
theorem dX8_place_80 : decode cX8_place 80 = .ok (.getfield 35, 3) := by decide +kernel
theorem dX8_place_83 : decode cX8_place 83 = .ok (.iload_n 3, 1) := by decide +kernel
theorem dX8_place_84 : decode cX8_place 84 = .ok (.invokevirtual 168, 3) := by decide +kernel
theorem dX8_place_87 : decode cX8_place 87 = .ok (.ireturn, 1) := by decide +kernel
set_option maxRecDepth 20000 in
theorem ggX8_mayBe_X8_lastCry : GoodIn wsX8_mayBe wsX8_lastCry := goodIn_r _ [7, 1, 8, 9, 10, 6, 11, 12, 49, 50, 51, 52, 53, 54, 55, 56, 57, 58, 59, 60, 61] (by decide +kernel) (by decide +kernel)
set_option maxRecDepth 20000 in
theorem gX8_mayBe_X8_lastCry : GoodIn wsX8_mayBe (wsV RX8 129 RX8 yX8_lastCry wsX8_lastCry) := goodIn_app (goodIn_of _ (by decide +kernel)) ggX8_mayBe_X8_lastCry
set_option maxRecDepth 20000 in
theorem ggX8_mayBe_X2_has : GoodIn wsX8_mayBe wsX2_has := goodIn_r _ [17, 18, 62, 63] (by decide +kernel) (by decide +kernel)
set_option maxRecDepth 20000 in
theorem gX8_mayBe_X2_has : GoodIn wsX8_mayBe (wsV RX8 123 RX2 yX2_has wsX2_has) := goodIn_app (goodIn_of _ (by decide +kernel)) ggX8_mayBe_X2_has
set_option maxRecDepth 20000 in
theorem ggX8_mayBe_X8_cryOf : GoodIn wsX8_mayBe wsX8_cryOf := goodIn_r _ [11, 1, 12, 49, 50, 51, 52, 53, 54, 55, 56, 57, 58, 59, 60, 61] (by decide +kernel) (by decide +kernel)
set_option maxRecDepth 20000 in
theorem gX8_mayBe_X8_cryOf : GoodIn wsX8_mayBe (wsV RX8 115 RX8 yX8_cryOf wsX8_cryOf) := goodIn_app (goodIn_of _ (by decide +kernel)) ggX8_mayBe_X8_cryOf
set_option maxRecDepth 20000 in
theorem ggX8_mayBe_X3_canStand : GoodIn wsX8_mayBe wsX3_canStand := goodIn_r _ [23, 24, 25, 26, 22, 27, 28, 29, 30, 31, 32, 16, 33, 18, 34, 14, 15, 17, 35, 36, 37, 38, 39, 40, 41, 42, 43, 44, 45, 46, 47, 48, 64, 65, 66, 62, 63] (by decide +kernel) (by decide +kernel)
set_option maxRecDepth 20000 in
theorem gX8_mayBe_X3_canStand : GoodIn wsX8_mayBe (wsV RX8 171 RX3 yX3_canStand wsX3_canStand) := goodIn_app (goodIn_of _ (by decide +kernel)) ggX8_mayBe_X3_canStand
theorem dX8_mayBe_0 : decode cX8_mayBe 0 = .ok (.aload_n 0, 1) := by decide +kernel
theorem dX8_mayBe_1 : decode cX8_mayBe 1 = .ok (.invokevirtual 129, 3) := by decide +kernel
theorem dX8_mayBe_4 : decode cX8_mayBe 4 = .ok (.astore_n 2, 1) := by decide +kernel
theorem dX8_mayBe_5 : decode cX8_mayBe 5 = .ok (.aload_n 2, 1) := by decide +kernel
theorem dX8_mayBe_6 : decode cX8_mayBe 6 = .ok (.ifnull 11, 3) := by decide +kernel
theorem dX8_mayBe_9 : decode cX8_mayBe 9 = .ok (.aload_n 2, 1) := by decide +kernel
theorem dX8_mayBe_10 : decode cX8_mayBe 10 = .ok (.iload_n 1, 1) := by decide +kernel
theorem dX8_mayBe_11 : decode cX8_mayBe 11 = .ok (.invokevirtual 123, 3) := by decide +kernel
theorem dX8_mayBe_14 : decode cX8_mayBe 14 = .ok (.ifCond .ne 5, 3) := by decide +kernel
theorem dX8_mayBe_17 : decode cX8_mayBe 17 = .ok (.iconst (-1), 1) := by decide +kernel
theorem dX8_mayBe_18 : decode cX8_mayBe 18 = .ok (.ireturn, 1) := by decide +kernel
theorem dX8_mayBe_19 : decode cX8_mayBe 19 = .ok (.iconst 0, 1) := by decide +kernel
theorem dX8_mayBe_20 : decode cX8_mayBe 20 = .ok (.istore_n 3, 1) := by decide +kernel
theorem dX8_mayBe_21 : decode cX8_mayBe 21 = .ok (.iconst 0, 1) := by decide +kernel
theorem dX8_mayBe_22 : decode cX8_mayBe 22 = .ok (.istore 4, 2) := by decide +kernel
theorem dX8_mayBe_24 : decode cX8_mayBe 24 = .ok (.iload 4, 2) := by decide +kernel
theorem dX8_mayBe_26 : decode cX8_mayBe 26 = .ok (.aload_n 0, 1) := by decide +kernel
theorem dX8_mayBe_27 : decode cX8_mayBe 27 = .ok (.getfield 70, 3) := by decide +kernel
theorem dX8_mayBe_30 : decode cX8_mayBe 30 = .ok (.if_icmp .ge 43, 3) := by decide +kernel
theorem dX8_mayBe_33 : decode cX8_mayBe 33 = .ok (.aload_n 0, 1) := by decide +kernel
theorem dX8_mayBe_34 : decode cX8_mayBe 34 = .ok (.iload 4, 2) := by decide +kernel
theorem dX8_mayBe_36 : decode cX8_mayBe 36 = .ok (.invokevirtual 115, 3) := by decide +kernel
theorem dX8_mayBe_39 : decode cX8_mayBe 39 = .ok (.astore 5, 2) := by decide +kernel
theorem dX8_mayBe_41 : decode cX8_mayBe 41 = .ok (.aload 5, 2) := by decide +kernel
theorem dX8_mayBe_43 : decode cX8_mayBe 43 = .ok (.ifnull 24, 3) := by decide +kernel
theorem dX8_mayBe_46 : decode cX8_mayBe 46 = .ok (.aload_n 0, 1) := by decide +kernel
theorem dX8_mayBe_47 : decode cX8_mayBe 47 = .ok (.getfield 35, 3) := by decide +kernel
theorem dX8_mayBe_50 : decode cX8_mayBe 50 = .ok (.aload 5, 2) := by decide +kernel
theorem dX8_mayBe_52 : decode cX8_mayBe 52 = .ok (.aload_n 2, 1) := by decide +kernel
theorem dX8_mayBe_53 : decode cX8_mayBe 53 = .ok (.iload_n 1, 1) := by decide +kernel
theorem dX8_mayBe_54 : decode cX8_mayBe 54 = .ok (.invokevirtual 171, 3) := by decide +kernel
theorem dX8_mayBe_57 : decode cX8_mayBe 57 = .ok (.ifCond .eq 10, 3) := by decide +kernel
theorem dX8_mayBe_60 : decode cX8_mayBe 60 = .ok (.iload_n 3, 1) := by decide +kernel
theorem dX8_mayBe_61 : decode cX8_mayBe 61 = .ok (.iconst 1, 1) := by decide +kernel
theorem dX8_mayBe_62 : decode cX8_mayBe 62 = .ok (.iload 4, 2) := by decide +kernel
theorem dX8_mayBe_64 : decode cX8_mayBe 64 = .ok (.ishl, 1) := by decide +kernel
theorem dX8_mayBe_65 : decode cX8_mayBe 65 = .ok (.ior, 1) := by decide +kernel
theorem dX8_mayBe_66 : decode cX8_mayBe 66 = .ok (.istore_n 3, 1) := by decide +kernel
theorem dX8_mayBe_67 : decode cX8_mayBe 67 = .ok (.iinc 4 1, 3) := by decide +kernel
theorem dX8_mayBe_70 : decode cX8_mayBe 70 = .ok (.goto (-46), 3) := by decide +kernel
theorem dX8_mayBe_73 : decode cX8_mayBe 73 = .ok (.iload_n 3, 1) := by decide +kernel
theorem dX8_mayBe_74 : decode cX8_mayBe 74 = .ok (.ireturn, 1) := by decide +kernel
set_option maxRecDepth 20000 in
theorem ggX8_both_X8_cryOf : GoodIn wsX8_both wsX8_cryOf := goodIn_r _ [6, 7, 8, 65, 66, 67, 68, 69, 70, 71, 72, 73, 74, 75, 76, 77] (by decide +kernel) (by decide +kernel)
set_option maxRecDepth 20000 in
theorem gX8_both_X8_cryOf : GoodIn wsX8_both (wsV RX8 115 RX8 yX8_cryOf wsX8_cryOf) := goodIn_app (goodIn_of _ (by decide +kernel)) ggX8_both_X8_cryOf
set_option maxRecDepth 20000 in
theorem ggX8_both_X8_isFirstOrSecond : GoodIn wsX8_both wsX8_isFirstOrSecond := goodIn_r _ [11] (by decide +kernel) (by decide +kernel)
set_option maxRecDepth 20000 in
theorem gX8_both_X8_isFirstOrSecond : GoodIn wsX8_both (va_wsS RX8 162 yX8_isFirstOrSecond wsX8_isFirstOrSecond) := goodIn_app (goodIn_of _ (by decide +kernel)) ggX8_both_X8_isFirstOrSecond
set_option maxRecDepth 20000 in
theorem ggX8_both_X7_make : GoodIn wsX8_both wsX7_make := goodIn_r _ [16, 17, 18, 19, 20, 21, 22, 23, 24, 25, 15, 26, 27, 28, 29, 30, 31, 32, 33, 34, 35, 36, 37, 38, 39, 40, 41, 42, 43, 44, 45, 46, 47, 48, 49, 50, 51, 52, 53, 54, 55, 56, 57, 58, 59, 78, 79, 80, 81, 82] (by decide +kernel) (by decide +kernel)
set_option maxRecDepth 20000 in
theorem gX8_both_X7_make : GoodIn wsX8_both (wsV RX8 175 RX7 yX7_make wsX7_make) := goodIn_app (goodIn_of _ (by decide +kernel)) ggX8_both_X7_make
set_option maxRecDepth 20000 in
theorem ggX8_both_X2_size : GoodIn wsX8_both wsX2_size := goodIn_r _ [21, 22, 78, 79] (by decide +kernel) (by decide +kernel)
set_option maxRecDepth 20000 in
theorem gX8_both_X2_size : GoodIn wsX8_both (wsV RX8 119 RX2 yX2_size wsX2_size) := goodIn_app (goodIn_of _ (by decide +kernel)) ggX8_both_X2_size
set_option maxRecDepth 20000 in
theorem ggX8_both_X7_length : GoodIn wsX8_both wsX7_length := goodIn_r _ [64, 27, 56, 57, 58, 44, 59, 46, 47, 48, 49, 80, 81, 82] (by decide +kernel) (by decide +kernel)
set_option maxRecDepth 20000 in
theorem gX8_both_X7_length : GoodIn wsX8_both (wsV RX8 178 RX7 yX7_length wsX7_length) := goodIn_app (goodIn_of _ (by decide +kernel)) ggX8_both_X7_length
theorem dX8_both_0 : decode cX8_both 0 = .ok (.aload_n 0, 1) := by decide +kernel
theorem dX8_both_1 : decode cX8_both 1 = .ok (.iload_n 1, 1) := by decide +kernel
theorem dX8_both_2 : decode cX8_both 2 = .ok (.invokevirtual 115, 3) := by decide +kernel
theorem dX8_both_5 : decode cX8_both 5 = .ok (.astore 4, 2) := by decide +kernel
theorem dX8_both_7 : decode cX8_both 7 = .ok (.aload_n 0, 1) := by decide +kernel
theorem dX8_both_8 : decode cX8_both 8 = .ok (.iload_n 2, 1) := by decide +kernel
theorem dX8_both_9 : decode cX8_both 9 = .ok (.invokevirtual 115, 3) := by decide +kernel
theorem dX8_both_12 : decode cX8_both 12 = .ok (.astore 5, 2) := by decide +kernel
theorem dX8_both_14 : decode cX8_both 14 = .ok (.aload 4, 2) := by decide +kernel
theorem dX8_both_16 : decode cX8_both 16 = .ok (.ifnull 8, 3) := by decide +kernel
theorem dX8_both_19 : decode cX8_both 19 = .ok (.aload 5, 2) := by decide +kernel
theorem dX8_both_21 : decode cX8_both 21 = .ok (.ifnonnull 5, 3) := by decide +kernel
theorem dX8_both_24 : decode cX8_both 24 = .ok (.iconst (-1), 1) := by decide +kernel
theorem dX8_both_25 : decode cX8_both 25 = .ok (.ireturn, 1) := by decide +kernel
theorem dX8_both_26 : decode cX8_both 26 = .ok (.iload_n 3, 1) := by decide +kernel
theorem dX8_both_27 : decode cX8_both 27 = .ok (.invokestatic 162, 3) := by decide +kernel
theorem dX8_both_30 : decode cX8_both 30 = .ok (.ifCond .ne 6, 3) := by decide +kernel
theorem dX8_both_33 : decode cX8_both 33 = .ok (.bipush (-2), 2) := by decide +kernel
theorem dX8_both_35 : decode cX8_both 35 = .ok (.ireturn, 1) := by decide +kernel
theorem dX8_both_36 : decode cX8_both 36 = .ok (.aload_n 0, 1) := by decide +kernel
theorem dX8_both_37 : decode cX8_both 37 = .ok (.getfield 49, 3) := by decide +kernel
theorem dX8_both_40 : decode cX8_both 40 = .ok (.aload 4, 2) := by decide +kernel
theorem dX8_both_42 : decode cX8_both 42 = .ok (.aload 5, 2) := by decide +kernel
theorem dX8_both_44 : decode cX8_both 44 = .ok (.invokevirtual 175, 3) := by decide +kernel
theorem dX8_both_47 : decode cX8_both 47 = .ok (.iload_n 3, 1) := by decide +kernel
theorem dX8_both_48 : decode cX8_both 48 = .ok (.ifCond .ne 25, 3) := by decide +kernel
theorem dX8_both_51 : decode cX8_both 51 = .ok (.aload 4, 2) := by decide +kernel
theorem dX8_both_53 : decode cX8_both 53 = .ok (.invokevirtual 119, 3) := by decide +kernel
theorem dX8_both_56 : decode cX8_both 56 = .ok (.aload 5, 2) := by decide +kernel
theorem dX8_both_58 : decode cX8_both 58 = .ok (.invokevirtual 119, 3) := by decide +kernel
theorem dX8_both_61 : decode cX8_both 61 = .ok (.iadd, 1) := by decide +kernel
theorem dX8_both_62 : decode cX8_both 62 = .ok (.aload_n 0, 1) := by decide +kernel
theorem dX8_both_63 : decode cX8_both 63 = .ok (.getfield 49, 3) := by decide +kernel
theorem dX8_both_66 : decode cX8_both 66 = .ok (.invokevirtual 178, 3) := by decide +kernel
theorem dX8_both_69 : decode cX8_both 69 = .ok (.isub, 1) := by decide +kernel
theorem dX8_both_70 : decode cX8_both 70 = .ok (.goto 10, 3) := by decide +kernel
theorem dX8_both_73 : decode cX8_both 73 = .ok (.aload_n 0, 1) := by decide +kernel
theorem dX8_both_74 : decode cX8_both 74 = .ok (.getfield 49, 3) := by decide +kernel
theorem dX8_both_77 : decode cX8_both 77 = .ok (.invokevirtual 178, 3) := by decide +kernel
theorem dX8_both_80 : decode cX8_both 80 = .ok (.ireturn, 1) := by decide +kernel
set_option maxRecDepth 20000 in
theorem ggX8_shortest_X8_cryOf : GoodIn wsX8_shortest wsX8_cryOf := goodIn_r _ [7, 8, 9, 77, 78, 79, 80, 81, 82, 83, 84, 85, 86, 87, 88, 89] (by decide +kernel) (by decide +kernel)
set_option maxRecDepth 20000 in
theorem gX8_shortest_X8_cryOf : GoodIn wsX8_shortest (wsV RX8 115 RX8 yX8_cryOf wsX8_cryOf) := goodIn_app (goodIn_of _ (by decide +kernel)) ggX8_shortest_X8_cryOf
set_option maxRecDepth 20000 in
theorem ggX8_shortest_X7_make : GoodIn wsX8_shortest wsX7_make := goodIn_r _ [14, 15, 16, 17, 18, 19, 20, 21, 22, 23, 13, 24, 25, 26, 27, 28, 29, 30, 31, 32, 33, 34, 35, 36, 37, 38, 39, 40, 41, 42, 43, 44, 45, 46, 47, 48, 49, 50, 51, 52, 53, 54, 55, 56, 57, 90, 91, 92, 93, 94] (by decide +kernel) (by decide +kernel)
set_option maxRecDepth 20000 in
theorem gX8_shortest_X7_make : GoodIn wsX8_shortest (wsV RX8 175 RX7 yX7_make wsX7_make) := goodIn_app (goodIn_of _ (by decide +kernel)) ggX8_shortest_X7_make
set_option maxRecDepth 20000 in
theorem ggX8_shortest_X7_length : GoodIn wsX8_shortest wsX7_length := goodIn_r _ [61, 25, 54, 55, 56, 42, 57, 44, 45, 46, 47, 92, 93, 94] (by decide +kernel) (by decide +kernel)
set_option maxRecDepth 20000 in
theorem gX8_shortest_X7_length : GoodIn wsX8_shortest (wsV RX8 178 RX7 yX7_length wsX7_length) := goodIn_app (goodIn_of _ (by decide +kernel)) ggX8_shortest_X7_length
set_option maxRecDepth 20000 in
theorem ggX8_shortest_X7_howMany : GoodIn wsX8_shortest wsX7_howMany := goodIn_r _ [65, 26, 54, 55, 56, 42, 57, 44, 45, 46, 47, 92, 93, 94] (by decide +kernel) (by decide +kernel)
set_option maxRecDepth 20000 in
theorem gX8_shortest_X7_howMany : GoodIn wsX8_shortest (wsV RX8 181 RX7 yX7_howMany wsX7_howMany) := goodIn_app (goodIn_of _ (by decide +kernel)) ggX8_shortest_X7_howMany
set_option maxRecDepth 20000 in
theorem ggX8_shortest_X7_wordOfFirst : GoodIn wsX8_shortest wsX7_wordOfFirst := goodIn_r _ [69, 70, 71, 72, 13, 73, 25, 74, 75, 29, 76, 31, 32, 33, 18, 34, 20, 48, 49, 50, 51, 52, 53, 54, 55, 56, 42, 57, 44, 45, 46, 47, 92, 93, 90, 91, 94] (by decide +kernel) (by decide +kernel)
set_option maxRecDepth 20000 in
theorem gX8_shortest_X7_wordOfFirst : GoodIn wsX8_shortest (wsV RX8 185 RX7 yX7_wordOfFirst wsX7_wordOfFirst) := goodIn_app (goodIn_of _ (by decide +kernel)) ggX8_shortest_X7_wordOfFirst
theorem dX8_shortest_0 : decode cX8_shortest 0 = .ok (.aload_n 0, 1) := by decide +kernel
theorem dX8_shortest_1 : decode cX8_shortest 1 = .ok (.iload_n 1, 1) := by decide +kernel
theorem dX8_shortest_2 : decode cX8_shortest 2 = .ok (.invokevirtual 115, 3) := by decide +kernel
theorem dX8_shortest_5 : decode cX8_shortest 5 = .ok (.astore 4, 2) := by decide +kernel
theorem dX8_shortest_7 : decode cX8_shortest 7 = .ok (.aload_n 0, 1) := by decide +kernel
theorem dX8_shortest_8 : decode cX8_shortest 8 = .ok (.iload_n 2, 1) := by decide +kernel
theorem dX8_shortest_9 : decode cX8_shortest 9 = .ok (.invokevirtual 115, 3) := by decide +kernel
theorem dX8_shortest_12 : decode cX8_shortest 12 = .ok (.astore 5, 2) := by decide +kernel
theorem dX8_shortest_14 : decode cX8_shortest 14 = .ok (.aload 4, 2) := by decide +kernel
theorem dX8_shortest_16 : decode cX8_shortest 16 = .ok (.ifnull 13, 3) := by decide +kernel
theorem dX8_shortest_19 : decode cX8_shortest 19 = .ok (.aload 5, 2) := by decide +kernel
theorem dX8_shortest_21 : decode cX8_shortest 21 = .ok (.ifnull 8, 3) := by decide +kernel
theorem dX8_shortest_24 : decode cX8_shortest 24 = .ok (.iload_n 3, 1) := by decide +kernel
theorem dX8_shortest_25 : decode cX8_shortest 25 = .ok (.iconst (-1), 1) := by decide +kernel
theorem dX8_shortest_26 : decode cX8_shortest 26 = .ok (.if_icmp .ge 7, 3) := by decide +kernel
theorem dX8_shortest_29 : decode cX8_shortest 29 = .ok (.ldc2_w 156, 3) := by decide +kernel
theorem dX8_shortest_32 : decode cX8_shortest 32 = .ok (.lreturn, 1) := by decide +kernel
theorem dX8_shortest_33 : decode cX8_shortest 33 = .ok (.aload_n 0, 1) := by decide +kernel
theorem dX8_shortest_34 : decode cX8_shortest 34 = .ok (.getfield 49, 3) := by decide +kernel
theorem dX8_shortest_37 : decode cX8_shortest 37 = .ok (.aload 4, 2) := by decide +kernel
theorem dX8_shortest_39 : decode cX8_shortest 39 = .ok (.aload 5, 2) := by decide +kernel
theorem dX8_shortest_41 : decode cX8_shortest 41 = .ok (.invokevirtual 175, 3) := by decide +kernel
theorem dX8_shortest_44 : decode cX8_shortest 44 = .ok (.iload_n 3, 1) := by decide +kernel
theorem dX8_shortest_45 : decode cX8_shortest 45 = .ok (.aload_n 0, 1) := by decide +kernel
theorem dX8_shortest_46 : decode cX8_shortest 46 = .ok (.getfield 49, 3) := by decide +kernel
theorem dX8_shortest_49 : decode cX8_shortest 49 = .ok (.invokevirtual 178, 3) := by decide +kernel
theorem dX8_shortest_52 : decode cX8_shortest 52 = .ok (.if_icmp .lt 7, 3) := by decide +kernel
theorem dX8_shortest_55 : decode cX8_shortest 55 = .ok (.ldc2_w 156, 3) := by decide +kernel
theorem dX8_shortest_58 : decode cX8_shortest 58 = .ok (.lreturn, 1) := by decide +kernel
theorem dX8_shortest_59 : decode cX8_shortest 59 = .ok (.iload_n 3, 1) := by decide +kernel
theorem dX8_shortest_60 : decode cX8_shortest 60 = .ok (.iconst (-1), 1) := by decide +kernel
theorem dX8_shortest_61 : decode cX8_shortest 61 = .ok (.if_icmp .ne 13, 3) := by decide +kernel
theorem dX8_shortest_64 : decode cX8_shortest 64 = .ok (.aload_n 0, 1) := by decide +kernel
theorem dX8_shortest_65 : decode cX8_shortest 65 = .ok (.getfield 49, 3) := by decide +kernel
theorem dX8_shortest_68 : decode cX8_shortest 68 = .ok (.invokevirtual 181, 3) := by decide +kernel
theorem dX8_shortest_71 : decode cX8_shortest 71 = .ok (.goto 16, 3) := by decide +kernel
theorem dX8_shortest_74 : decode cX8_shortest 74 = .ok (.aload_n 0, 1) := by decide +kernel
theorem dX8_shortest_75 : decode cX8_shortest 75 = .ok (.getfield 49, 3) := by decide +kernel
theorem dX8_shortest_78 : decode cX8_shortest 78 = .ok (.aload 4, 2) := by decide +kernel
theorem dX8_shortest_80 : decode cX8_shortest 80 = .ok (.aload 5, 2) := by decide +kernel
theorem dX8_shortest_82 : decode cX8_shortest 82 = .ok (.iload_n 3, 1) := by decide +kernel
theorem dX8_shortest_83 : decode cX8_shortest 83 = .ok (.invokevirtual 185, 3) := by decide +kernel
theorem dX8_shortest_86 : decode cX8_shortest 86 = .ok (.i2l, 1) := by decide +kernel
theorem dX8_shortest_87 : decode cX8_shortest 87 = .ok (.lreturn, 1) := by decide +kernel
set_option maxRecDepth 20000 in
theorem ggX8_three_X8_cryOf : GoodIn wsX8_three wsX8_cryOf := goodIn_r _ [6, 7, 8, 63, 64, 65, 66, 67, 68, 69, 70, 71, 72, 73, 74, 75] (by decide +kernel) (by decide +kernel)
set_option maxRecDepth 20000 in
theorem gX8_three_X8_cryOf : GoodIn wsX8_three (wsV RX8 115 RX8 yX8_cryOf wsX8_cryOf) := goodIn_app (goodIn_of _ (by decide +kernel)) ggX8_three_X8_cryOf
set_option maxRecDepth 20000 in
theorem ggX8_three_X1_length : GoodIn wsX8_three wsX1_length := goodIn_r _ [13, 14, 15, 16, 17, 18, 19, 20, 21, 22, 23, 24, 25, 26, 27, 28, 29, 30, 31, 32, 33, 12, 34, 35, 36, 37, 38, 39, 40, 41, 42, 43, 44, 45, 46, 47, 48, 49, 50, 51, 52, 53, 54, 55, 56, 57, 58, 59, 60, 61, 62, 76, 77, 78, 79, 80] (by decide +kernel) (by decide +kernel)
set_option maxRecDepth 20000 in
theorem gX8_three_X1_length : GoodIn wsX8_three (wsV RX8 189 RX1 yX1_length wsX1_length) := goodIn_app (goodIn_of _ (by decide +kernel)) ggX8_three_X1_length
theorem dX8_three_0 : decode cX8_three 0 = .ok (.aload_n 0, 1) := by decide +kernel
theorem dX8_three_1 : decode cX8_three 1 = .ok (.iload_n 1, 1) := by decide +kernel
theorem dX8_three_2 : decode cX8_three 2 = .ok (.invokevirtual 115, 3) := by decide +kernel
theorem dX8_three_5 : decode cX8_three 5 = .ok (.astore 4, 2) := by decide +kernel
theorem dX8_three_7 : decode cX8_three 7 = .ok (.aload_n 0, 1) := by decide +kernel
theorem dX8_three_8 : decode cX8_three 8 = .ok (.iload_n 2, 1) := by decide +kernel
theorem dX8_three_9 : decode cX8_three 9 = .ok (.invokevirtual 115, 3) := by decide +kernel
theorem dX8_three_12 : decode cX8_three 12 = .ok (.astore 5, 2) := by decide +kernel
theorem dX8_three_14 : decode cX8_three 14 = .ok (.aload_n 0, 1) := by decide +kernel
theorem dX8_three_15 : decode cX8_three 15 = .ok (.iload_n 3, 1) := by decide +kernel
theorem dX8_three_16 : decode cX8_three 16 = .ok (.invokevirtual 115, 3) := by decide +kernel
theorem dX8_three_19 : decode cX8_three 19 = .ok (.astore 6, 2) := by decide +kernel
theorem dX8_three_21 : decode cX8_three 21 = .ok (.aload 4, 2) := by decide +kernel
theorem dX8_three_23 : decode cX8_three 23 = .ok (.ifnull 13, 3) := by decide +kernel
theorem dX8_three_26 : decode cX8_three 26 = .ok (.aload 5, 2) := by decide +kernel
theorem dX8_three_28 : decode cX8_three 28 = .ok (.ifnull 8, 3) := by decide +kernel
theorem dX8_three_31 : decode cX8_three 31 = .ok (.aload 6, 2) := by decide +kernel
theorem dX8_three_33 : decode cX8_three 33 = .ok (.ifnonnull 5, 3) := by decide +kernel
theorem dX8_three_36 : decode cX8_three 36 = .ok (.iconst (-1), 1) := by decide +kernel
theorem dX8_three_37 : decode cX8_three 37 = .ok (.ireturn, 1) := by decide +kernel
theorem dX8_three_38 : decode cX8_three 38 = .ok (.aload_n 0, 1) := by decide +kernel
theorem dX8_three_39 : decode cX8_three 39 = .ok (.getfield 56, 3) := by decide +kernel
theorem dX8_three_42 : decode cX8_three 42 = .ok (.aload 4, 2) := by decide +kernel
theorem dX8_three_44 : decode cX8_three 44 = .ok (.aload 5, 2) := by decide +kernel
theorem dX8_three_46 : decode cX8_three 46 = .ok (.aload 6, 2) := by decide +kernel
theorem dX8_three_48 : decode cX8_three 48 = .ok (.invokevirtual 189, 3) := by decide +kernel
theorem dX8_three_51 : decode cX8_three 51 = .ok (.ireturn, 1) := by decide +kernel
set_option maxRecDepth 20000 in
theorem ggX8_lostDay_X8_cryOf : GoodIn wsX8_lostDay wsX8_cryOf := goodIn_r _ [7, 8, 9, 67, 68, 69, 70, 71, 72, 73, 74, 75, 76, 77, 78, 79] (by decide +kernel) (by decide +kernel)
set_option maxRecDepth 20000 in
theorem gX8_lostDay_X8_cryOf : GoodIn wsX8_lostDay (wsV RX8 115 RX8 yX8_cryOf wsX8_cryOf) := goodIn_app (goodIn_of _ (by decide +kernel)) ggX8_lostDay_X8_cryOf
set_option maxRecDepth 20000 in
theorem ggX8_lostDay_X0_count : GoodIn wsX8_lostDay wsX0_count := goodIn_r _ [14, 15, 16, 17, 18, 19, 20, 21, 22, 23, 24, 25, 26, 27, 28, 29, 30, 31, 32, 33, 34, 35, 13, 36, 37, 38, 39, 40, 41, 42, 43, 44, 45, 46, 47, 48, 49, 50, 51, 52, 53, 54, 55, 56, 57, 58, 59, 60, 61, 62, 63, 64, 65, 66, 80, 81, 82, 83, 84] (by decide +kernel) (by decide +kernel)
set_option maxRecDepth 20000 in
theorem gX8_lostDay_X0_count : GoodIn wsX8_lostDay (wsV RX8 192 RX0 yX0_count wsX0_count) := goodIn_app (goodIn_of _ (by decide +kernel)) ggX8_lostDay_X0_count
theorem dX8_lostDay_0 : decode cX8_lostDay 0 = .ok (.aload_n 0, 1) := by decide +kernel
theorem dX8_lostDay_1 : decode cX8_lostDay 1 = .ok (.iload_n 1, 1) := by decide +kernel
theorem dX8_lostDay_2 : decode cX8_lostDay 2 = .ok (.invokevirtual 115, 3) := by decide +kernel
theorem dX8_lostDay_5 : decode cX8_lostDay 5 = .ok (.astore 4, 2) := by decide +kernel
theorem dX8_lostDay_7 : decode cX8_lostDay 7 = .ok (.aload_n 0, 1) := by decide +kernel
theorem dX8_lostDay_8 : decode cX8_lostDay 8 = .ok (.iload_n 2, 1) := by decide +kernel
theorem dX8_lostDay_9 : decode cX8_lostDay 9 = .ok (.invokevirtual 115, 3) := by decide +kernel
theorem dX8_lostDay_12 : decode cX8_lostDay 12 = .ok (.astore 5, 2) := by decide +kernel
theorem dX8_lostDay_14 : decode cX8_lostDay 14 = .ok (.aload 4, 2) := by decide +kernel
theorem dX8_lostDay_16 : decode cX8_lostDay 16 = .ok (.ifnull 18, 3) := by decide +kernel
theorem dX8_lostDay_19 : decode cX8_lostDay 19 = .ok (.aload 5, 2) := by decide +kernel
theorem dX8_lostDay_21 : decode cX8_lostDay 21 = .ok (.ifnull 13, 3) := by decide +kernel
theorem dX8_lostDay_24 : decode cX8_lostDay 24 = .ok (.iload_n 3, 1) := by decide +kernel
theorem dX8_lostDay_25 : decode cX8_lostDay 25 = .ok (.ifCond .lt 9, 3) := by decide +kernel
theorem dX8_lostDay_28 : decode cX8_lostDay 28 = .ok (.iload_n 3, 1) := by decide +kernel
theorem dX8_lostDay_29 : decode cX8_lostDay 29 = .ok (.bipush 12, 2) := by decide +kernel
theorem dX8_lostDay_31 : decode cX8_lostDay 31 = .ok (.if_icmp .le 7, 3) := by decide +kernel
theorem dX8_lostDay_34 : decode cX8_lostDay 34 = .ok (.ldc2_w 156, 3) := by decide +kernel
theorem dX8_lostDay_37 : decode cX8_lostDay 37 = .ok (.lreturn, 1) := by decide +kernel
theorem dX8_lostDay_38 : decode cX8_lostDay 38 = .ok (.aload_n 0, 1) := by decide +kernel
theorem dX8_lostDay_39 : decode cX8_lostDay 39 = .ok (.getfield 63, 3) := by decide +kernel
theorem dX8_lostDay_42 : decode cX8_lostDay 42 = .ok (.aload 4, 2) := by decide +kernel
theorem dX8_lostDay_44 : decode cX8_lostDay 44 = .ok (.aload 5, 2) := by decide +kernel
theorem dX8_lostDay_46 : decode cX8_lostDay 46 = .ok (.iload_n 3, 1) := by decide +kernel
theorem dX8_lostDay_47 : decode cX8_lostDay 47 = .ok (.invokevirtual 192, 3) := by decide +kernel
theorem dX8_lostDay_50 : decode cX8_lostDay 50 = .ok (.lreturn, 1) := by decide +kernel
set_option maxRecDepth 20000 in
theorem ggX8_roots_X8_cryOf : GoodIn wsX8_roots wsX8_cryOf := goodIn_r _ [8, 9, 10, 68, 69, 70, 71, 72, 73, 74, 75, 76, 77, 78, 79, 80] (by decide +kernel) (by decide +kernel)
set_option maxRecDepth 20000 in
theorem gX8_roots_X8_cryOf : GoodIn wsX8_roots (wsV RX8 115 RX8 yX8_cryOf wsX8_cryOf) := goodIn_app (goodIn_of _ (by decide +kernel)) ggX8_roots_X8_cryOf
set_option maxRecDepth 20000 in
theorem ggX8_roots_X0_count : GoodIn wsX8_roots wsX0_count := goodIn_r _ [15, 16, 17, 18, 19, 20, 21, 22, 23, 24, 25, 26, 27, 28, 29, 30, 31, 32, 33, 34, 35, 36, 14, 37, 38, 39, 40, 41, 42, 43, 44, 45, 46, 47, 48, 49, 50, 51, 52, 53, 54, 55, 56, 57, 58, 59, 60, 61, 62, 63, 64, 65, 66, 67, 81, 82, 83, 84, 85] (by decide +kernel) (by decide +kernel)
set_option maxRecDepth 20000 in
theorem gX8_roots_X0_count : GoodIn wsX8_roots (wsV RX8 192 RX0 yX0_count wsX0_count) := goodIn_app (goodIn_of _ (by decide +kernel)) ggX8_roots_X0_count
theorem dX8_roots_0 : decode cX8_roots 0 = .ok (.aload_n 0, 1) := by decide +kernel
theorem dX8_roots_1 : decode cX8_roots 1 = .ok (.iload_n 1, 1) := by decide +kernel
theorem dX8_roots_2 : decode cX8_roots 2 = .ok (.invokevirtual 115, 3) := by decide +kernel
theorem dX8_roots_5 : decode cX8_roots 5 = .ok (.astore_n 3, 1) := by decide +kernel
theorem dX8_roots_6 : decode cX8_roots 6 = .ok (.aload_n 3, 1) := by decide +kernel
theorem dX8_roots_7 : decode cX8_roots 7 = .ok (.ifnull 13, 3) := by decide +kernel
theorem dX8_roots_10 : decode cX8_roots 10 = .ok (.iload_n 2, 1) := by decide +kernel
theorem dX8_roots_11 : decode cX8_roots 11 = .ok (.ifCond .lt 9, 3) := by decide +kernel
theorem dX8_roots_14 : decode cX8_roots 14 = .ok (.iload_n 2, 1) := by decide +kernel
theorem dX8_roots_15 : decode cX8_roots 15 = .ok (.bipush 12, 2) := by decide +kernel
theorem dX8_roots_17 : decode cX8_roots 17 = .ok (.if_icmp .le 7, 3) := by decide +kernel
theorem dX8_roots_20 : decode cX8_roots 20 = .ok (.ldc2_w 156, 3) := by decide +kernel
theorem dX8_roots_23 : decode cX8_roots 23 = .ok (.lreturn, 1) := by decide +kernel
theorem dX8_roots_24 : decode cX8_roots 24 = .ok (.aload_n 0, 1) := by decide +kernel
theorem dX8_roots_25 : decode cX8_roots 25 = .ok (.getfield 63, 3) := by decide +kernel
theorem dX8_roots_28 : decode cX8_roots 28 = .ok (.aload_n 0, 1) := by decide +kernel
theorem dX8_roots_29 : decode cX8_roots 29 = .ok (.getfield 28, 3) := by decide +kernel
theorem dX8_roots_32 : decode cX8_roots 32 = .ok (.aload_n 3, 1) := by decide +kernel
theorem dX8_roots_33 : decode cX8_roots 33 = .ok (.iload_n 2, 1) := by decide +kernel
theorem dX8_roots_34 : decode cX8_roots 34 = .ok (.invokevirtual 192, 3) := by decide +kernel
theorem dX8_roots_37 : decode cX8_roots 37 = .ok (.lreturn, 1) := by decide +kernel
set_option maxRecDepth 20000 in
theorem ggX8_breaths_X8_cryOf : GoodIn wsX8_breaths wsX8_cryOf := goodIn_r _ [5, 6, 7, 43, 44, 45, 46, 47, 48, 49, 50, 51, 52, 53, 54, 55] (by decide +kernel) (by decide +kernel)
set_option maxRecDepth 20000 in
theorem gX8_breaths_X8_cryOf : GoodIn wsX8_breaths (wsV RX8 115 RX8 yX8_cryOf wsX8_cryOf) := goodIn_app (goodIn_of _ (by decide +kernel)) ggX8_breaths_X8_cryOf
set_option maxRecDepth 20000 in
theorem ggX8_breaths_X8_fewestBreaths : GoodIn wsX8_breaths wsX8_fewestBreaths := goodIn_r _ [11, 12, 13, 14, 15, 16, 17, 18, 19, 20, 21, 22, 23, 24, 25, 26, 27, 28, 29, 30, 31, 32, 33, 34, 35, 36, 37, 4, 38, 39, 40, 41, 42, 43, 44, 45, 46, 47, 48, 49, 50, 51, 52, 53, 54, 55, 56, 57] (by decide +kernel) (by decide +kernel)
set_option maxRecDepth 20000 in
theorem gX8_breaths_X8_fewestBreaths : GoodIn wsX8_breaths (wsV RX8 196 RX8 yX8_fewestBreaths wsX8_fewestBreaths) := goodIn_app (goodIn_of _ (by decide +kernel)) ggX8_breaths_X8_fewestBreaths
theorem dX8_breaths_0 : decode cX8_breaths 0 = .ok (.aload_n 0, 1) := by decide +kernel
theorem dX8_breaths_1 : decode cX8_breaths 1 = .ok (.iload_n 1, 1) := by decide +kernel
theorem dX8_breaths_2 : decode cX8_breaths 2 = .ok (.invokevirtual 115, 3) := by decide +kernel
theorem dX8_breaths_5 : decode cX8_breaths 5 = .ok (.astore_n 3, 1) := by decide +kernel
theorem dX8_breaths_6 : decode cX8_breaths 6 = .ok (.aload_n 3, 1) := by decide +kernel
theorem dX8_breaths_7 : decode cX8_breaths 7 = .ok (.ifnonnull 5, 3) := by decide +kernel
theorem dX8_breaths_10 : decode cX8_breaths 10 = .ok (.iconst (-1), 1) := by decide +kernel
theorem dX8_breaths_11 : decode cX8_breaths 11 = .ok (.ireturn, 1) := by decide +kernel
theorem dX8_breaths_12 : decode cX8_breaths 12 = .ok (.iload_n 2, 1) := by decide +kernel
theorem dX8_breaths_13 : decode cX8_breaths 13 = .ok (.iconst 1, 1) := by decide +kernel
theorem dX8_breaths_14 : decode cX8_breaths 14 = .ok (.if_icmp .lt 9, 3) := by decide +kernel
theorem dX8_breaths_17 : decode cX8_breaths 17 = .ok (.iload_n 2, 1) := by decide +kernel
theorem dX8_breaths_18 : decode cX8_breaths 18 = .ok (.bipush 12, 2) := by decide +kernel
theorem dX8_breaths_20 : decode cX8_breaths 20 = .ok (.if_icmp .le 6, 3) := by decide +kernel
theorem dX8_breaths_23 : decode cX8_breaths 23 = .ok (.bipush (-2), 2) := by decide +kernel
theorem dX8_breaths_25 : decode cX8_breaths 25 = .ok (.ireturn, 1) := by decide +kernel
theorem dX8_breaths_26 : decode cX8_breaths 26 = .ok (.aload_n 0, 1) := by decide +kernel
theorem dX8_breaths_27 : decode cX8_breaths 27 = .ok (.aload_n 3, 1) := by decide +kernel
theorem dX8_breaths_28 : decode cX8_breaths 28 = .ok (.iload_n 2, 1) := by decide +kernel
theorem dX8_breaths_29 : decode cX8_breaths 29 = .ok (.invokevirtual 196, 3) := by decide +kernel
theorem dX8_breaths_32 : decode cX8_breaths 32 = .ok (.ireturn, 1) := by decide +kernel
set_option maxRecDepth 20000 in
theorem ggX8_once_X8_cryOf : GoodIn wsX8_once wsX8_cryOf := goodIn_r _ [5, 6, 7, 37, 38, 39, 40, 41, 42, 43, 44, 45, 46, 47, 48, 49] (by decide +kernel) (by decide +kernel)
set_option maxRecDepth 20000 in
theorem gX8_once_X8_cryOf : GoodIn wsX8_once (wsV RX8 115 RX8 yX8_cryOf wsX8_cryOf) := goodIn_app (goodIn_of _ (by decide +kernel)) ggX8_once_X8_cryOf
set_option maxRecDepth 20000 in
theorem ggX8_once_X8_isFirstOrSecond : GoodIn wsX8_once wsX8_isFirstOrSecond := goodIn_r _ [10] (by decide +kernel) (by decide +kernel)
set_option maxRecDepth 20000 in
theorem gX8_once_X8_isFirstOrSecond : GoodIn wsX8_once (va_wsS RX8 162 yX8_isFirstOrSecond wsX8_isFirstOrSecond) := goodIn_app (goodIn_of _ (by decide +kernel)) ggX8_once_X8_isFirstOrSecond
set_option maxRecDepth 20000 in
theorem ggX8_once_X2_size : GoodIn wsX8_once wsX2_size := goodIn_r _ [15, 16, 50, 51] (by decide +kernel) (by decide +kernel)
set_option maxRecDepth 20000 in
theorem gX8_once_X2_size : GoodIn wsX8_once (wsV RX8 119 RX2 yX2_size wsX2_size) := goodIn_app (goodIn_of _ (by decide +kernel)) ggX8_once_X2_size
set_option maxRecDepth 20000 in
theorem ggX8_once_X8_longestPartAt : GoodIn wsX8_once wsX8_longestPartAt := goodIn_r _ [19, 20, 21, 22, 23, 11, 12, 13, 14, 15, 16, 24, 25, 4, 26, 27, 28, 29, 30, 31, 32, 33, 34, 35, 36, 50, 51] (by decide +kernel) (by decide +kernel)
set_option maxRecDepth 20000 in
theorem gX8_once_X8_longestPartAt : GoodIn wsX8_once (va_wsS RX8 200 yX8_longestPartAt wsX8_longestPartAt) := goodIn_app (goodIn_of _ (by decide +kernel)) ggX8_once_X8_longestPartAt
theorem dX8_once_0 : decode cX8_once 0 = .ok (.aload_n 0, 1) := by decide +kernel
theorem dX8_once_1 : decode cX8_once 1 = .ok (.iload_n 1, 1) := by decide +kernel
theorem dX8_once_2 : decode cX8_once 2 = .ok (.invokevirtual 115, 3) := by decide +kernel
theorem dX8_once_5 : decode cX8_once 5 = .ok (.astore 4, 2) := by decide +kernel
theorem dX8_once_7 : decode cX8_once 7 = .ok (.aload_n 0, 1) := by decide +kernel
theorem dX8_once_8 : decode cX8_once 8 = .ok (.iload_n 2, 1) := by decide +kernel
theorem dX8_once_9 : decode cX8_once 9 = .ok (.invokevirtual 115, 3) := by decide +kernel
theorem dX8_once_12 : decode cX8_once 12 = .ok (.astore 5, 2) := by decide +kernel
theorem dX8_once_14 : decode cX8_once 14 = .ok (.aload 4, 2) := by decide +kernel
theorem dX8_once_16 : decode cX8_once 16 = .ok (.ifnull 8, 3) := by decide +kernel
theorem dX8_once_19 : decode cX8_once 19 = .ok (.aload 5, 2) := by decide +kernel
theorem dX8_once_21 : decode cX8_once 21 = .ok (.ifnonnull 5, 3) := by decide +kernel
theorem dX8_once_24 : decode cX8_once 24 = .ok (.iconst (-1), 1) := by decide +kernel
theorem dX8_once_25 : decode cX8_once 25 = .ok (.ireturn, 1) := by decide +kernel
theorem dX8_once_26 : decode cX8_once 26 = .ok (.iload_n 3, 1) := by decide +kernel
theorem dX8_once_27 : decode cX8_once 27 = .ok (.invokestatic 162, 3) := by decide +kernel
theorem dX8_once_30 : decode cX8_once 30 = .ok (.ifCond .ne 6, 3) := by decide +kernel
theorem dX8_once_33 : decode cX8_once 33 = .ok (.bipush (-2), 2) := by decide +kernel
theorem dX8_once_35 : decode cX8_once 35 = .ok (.ireturn, 1) := by decide +kernel
theorem dX8_once_36 : decode cX8_once 36 = .ok (.iconst 0, 1) := by decide +kernel
theorem dX8_once_37 : decode cX8_once 37 = .ok (.istore 6, 2) := by decide +kernel
theorem dX8_once_39 : decode cX8_once 39 = .ok (.bipush (-9), 2) := by decide +kernel
theorem dX8_once_41 : decode cX8_once 41 = .ok (.istore 7, 2) := by decide +kernel
theorem dX8_once_43 : decode cX8_once 43 = .ok (.iconst 0, 1) := by decide +kernel
theorem dX8_once_44 : decode cX8_once 44 = .ok (.istore 8, 2) := by decide +kernel
theorem dX8_once_46 : decode cX8_once 46 = .ok (.iload 8, 2) := by decide +kernel
theorem dX8_once_48 : decode cX8_once 48 = .ok (.aload 4, 2) := by decide +kernel
theorem dX8_once_50 : decode cX8_once 50 = .ok (.invokevirtual 119, 3) := by decide +kernel
theorem dX8_once_53 : decode cX8_once 53 = .ok (.if_icmp .ge 35, 3) := by decide +kernel
theorem dX8_once_56 : decode cX8_once 56 = .ok (.aload 4, 2) := by decide +kernel
theorem dX8_once_58 : decode cX8_once 58 = .ok (.iload 8, 2) := by decide +kernel
theorem dX8_once_60 : decode cX8_once 60 = .ok (.aload 5, 2) := by decide +kernel
theorem dX8_once_62 : decode cX8_once 62 = .ok (.invokestatic 200, 3) := by decide +kernel
theorem dX8_once_65 : decode cX8_once 65 = .ok (.istore 9, 2) := by decide +kernel
theorem dX8_once_67 : decode cX8_once 67 = .ok (.iload 9, 2) := by decide +kernel
theorem dX8_once_69 : decode cX8_once 69 = .ok (.iload 6, 2) := by decide +kernel
theorem dX8_once_71 : decode cX8_once 71 = .ok (.if_icmp .le 11, 3) := by decide +kernel
theorem dX8_once_74 : decode cX8_once 74 = .ok (.iload 9, 2) := by decide +kernel
theorem dX8_once_76 : decode cX8_once 76 = .ok (.istore 6, 2) := by decide +kernel
theorem dX8_once_78 : decode cX8_once 78 = .ok (.iload 8, 2) := by decide +kernel
theorem dX8_once_80 : decode cX8_once 80 = .ok (.istore 7, 2) := by decide +kernel
theorem dX8_once_82 : decode cX8_once 82 = .ok (.iinc 8 1, 3) := by decide +kernel
theorem dX8_once_85 : decode cX8_once 85 = .ok (.goto (-39), 3) := by decide +kernel
theorem dX8_once_88 : decode cX8_once 88 = .ok (.iload_n 3, 1) := by decide +kernel
theorem dX8_once_89 : decode cX8_once 89 = .ok (.ifCond .ne 8, 3) := by decide +kernel
theorem dX8_once_92 : decode cX8_once 92 = .ok (.iload 6, 2) := by decide +kernel
theorem dX8_once_94 : decode cX8_once 94 = .ok (.goto 5, 3) := by decide +kernel
theorem dX8_once_97 : decode cX8_once 97 = .ok (.iload 7, 2) := by decide +kernel
theorem dX8_once_99 : decode cX8_once 99 = .ok (.ireturn, 1) := by decide +kernel
set_option maxRecDepth 20000 in
theorem ggX8_twice_X8_cryOf : GoodIn wsX8_twice wsX8_cryOf := goodIn_r _ [5, 6, 7, 23, 24, 25, 26, 27, 28, 29, 30, 31, 32, 33, 34, 35] (by decide +kernel) (by decide +kernel)
set_option maxRecDepth 20000 in
theorem gX8_twice_X8_cryOf : GoodIn wsX8_twice (wsV RX8 115 RX8 yX8_cryOf wsX8_cryOf) := goodIn_app (goodIn_of _ (by decide +kernel)) ggX8_twice_X8_cryOf
set_option maxRecDepth 20000 in
theorem ggX8_twice_X2_size : GoodIn wsX8_twice wsX2_size := goodIn_r _ [12, 13, 36, 37] (by decide +kernel) (by decide +kernel)
set_option maxRecDepth 20000 in
theorem gX8_twice_X2_size : GoodIn wsX8_twice (wsV RX8 119 RX2 yX2_size wsX2_size) := goodIn_app (goodIn_of _ (by decide +kernel)) ggX8_twice_X2_size
set_option maxRecDepth 20000 in
theorem ggX8_twice_X2_at : GoodIn wsX8_twice wsX2_at := goodIn_r _ [17, 18, 19, 20, 21, 11, 22, 13, 36, 37] (by decide +kernel) (by decide +kernel)
set_option maxRecDepth 20000 in
theorem gX8_twice_X2_at : GoodIn wsX8_twice (wsV RX8 126 RX2 yX2_at wsX2_at) := goodIn_app (goodIn_of _ (by decide +kernel)) ggX8_twice_X2_at
theorem dX8_twice_0 : decode cX8_twice 0 = .ok (.aload_n 0, 1) := by decide +kernel
theorem dX8_twice_1 : decode cX8_twice 1 = .ok (.iload_n 1, 1) := by decide +kernel
theorem dX8_twice_2 : decode cX8_twice 2 = .ok (.invokevirtual 115, 3) := by decide +kernel
theorem dX8_twice_5 : decode cX8_twice 5 = .ok (.astore_n 2, 1) := by decide +kernel
theorem dX8_twice_6 : decode cX8_twice 6 = .ok (.aload_n 2, 1) := by decide +kernel
theorem dX8_twice_7 : decode cX8_twice 7 = .ok (.ifnonnull 5, 3) := by decide +kernel
theorem dX8_twice_10 : decode cX8_twice 10 = .ok (.iconst (-1), 1) := by decide +kernel
theorem dX8_twice_11 : decode cX8_twice 11 = .ok (.ireturn, 1) := by decide +kernel
theorem dX8_twice_12 : decode cX8_twice 12 = .ok (.iconst 0, 1) := by decide +kernel
theorem dX8_twice_13 : decode cX8_twice 13 = .ok (.istore_n 3, 1) := by decide +kernel
theorem dX8_twice_14 : decode cX8_twice 14 = .ok (.iconst 0, 1) := by decide +kernel
theorem dX8_twice_15 : decode cX8_twice 15 = .ok (.istore 4, 2) := by decide +kernel
theorem dX8_twice_17 : decode cX8_twice 17 = .ok (.iconst 0, 1) := by decide +kernel
theorem dX8_twice_18 : decode cX8_twice 18 = .ok (.istore 5, 2) := by decide +kernel
theorem dX8_twice_20 : decode cX8_twice 20 = .ok (.iload 5, 2) := by decide +kernel
theorem dX8_twice_22 : decode cX8_twice 22 = .ok (.aload_n 2, 1) := by decide +kernel
theorem dX8_twice_23 : decode cX8_twice 23 = .ok (.invokevirtual 119, 3) := by decide +kernel
theorem dX8_twice_26 : decode cX8_twice 26 = .ok (.if_icmp .ge 34, 3) := by decide +kernel
theorem dX8_twice_29 : decode cX8_twice 29 = .ok (.iconst 1, 1) := by decide +kernel
theorem dX8_twice_30 : decode cX8_twice 30 = .ok (.aload_n 2, 1) := by decide +kernel
theorem dX8_twice_31 : decode cX8_twice 31 = .ok (.iload 5, 2) := by decide +kernel
theorem dX8_twice_33 : decode cX8_twice 33 = .ok (.invokevirtual 126, 3) := by decide +kernel
theorem dX8_twice_36 : decode cX8_twice 36 = .ok (.ishl, 1) := by decide +kernel
theorem dX8_twice_37 : decode cX8_twice 37 = .ok (.istore 6, 2) := by decide +kernel
theorem dX8_twice_39 : decode cX8_twice 39 = .ok (.iload_n 3, 1) := by decide +kernel
theorem dX8_twice_40 : decode cX8_twice 40 = .ok (.iload 6, 2) := by decide +kernel
theorem dX8_twice_42 : decode cX8_twice 42 = .ok (.iand, 1) := by decide +kernel
theorem dX8_twice_43 : decode cX8_twice 43 = .ok (.ifCond .eq 6, 3) := by decide +kernel
theorem dX8_twice_46 : decode cX8_twice 46 = .ok (.iinc 4 1, 3) := by decide +kernel
theorem dX8_twice_49 : decode cX8_twice 49 = .ok (.iload_n 3, 1) := by decide +kernel
theorem dX8_twice_50 : decode cX8_twice 50 = .ok (.iload 6, 2) := by decide +kernel
theorem dX8_twice_52 : decode cX8_twice 52 = .ok (.ior, 1) := by decide +kernel
theorem dX8_twice_53 : decode cX8_twice 53 = .ok (.istore_n 3, 1) := by decide +kernel
theorem dX8_twice_54 : decode cX8_twice 54 = .ok (.iinc 5 1, 3) := by decide +kernel
theorem dX8_twice_57 : decode cX8_twice 57 = .ok (.goto (-37), 3) := by decide +kernel
theorem dX8_twice_60 : decode cX8_twice 60 = .ok (.iload 4, 2) := by decide +kernel
theorem dX8_twice_62 : decode cX8_twice 62 = .ok (.ireturn, 1) := by decide +kernel
set_option maxRecDepth 20000 in
theorem ggX8_sheet_X8_sheetOf : GoodIn wsX8_sheet wsX8_sheetOf := goodIn_r _ [6, 7, 27, 28, 29, 30, 31, 32, 33, 34, 35, 36, 37, 38, 39] (by decide +kernel) (by decide +kernel)
set_option maxRecDepth 20000 in
theorem gX8_sheet_X8_sheetOf : GoodIn wsX8_sheet (wsV RX8 81 RX8 yX8_sheetOf wsX8_sheetOf) := goodIn_app (goodIn_of _ (by decide +kernel)) ggX8_sheet_X8_sheetOf
set_option maxRecDepth 20000 in
theorem ggX8_sheet_X8_isSort : GoodIn wsX8_sheet wsX8_isSort := goodIn_r _ [10] (by decide +kernel) (by decide +kernel)
set_option maxRecDepth 20000 in
theorem gX8_sheet_X8_isSort : GoodIn wsX8_sheet (va_wsS RX8 85 yX8_isSort wsX8_isSort) := goodIn_app (goodIn_of _ (by decide +kernel)) ggX8_sheet_X8_isSort
set_option maxRecDepth 20000 in
theorem ggX8_sheet_X8_fails : GoodIn wsX8_sheet wsX8_fails := goodIn_r _ [14, 1, 27, 28, 29, 30, 31, 32, 33, 34, 35, 36, 37, 38, 39] (by decide +kernel) (by decide +kernel)
set_option maxRecDepth 20000 in
theorem gX8_sheet_X8_fails : GoodIn wsX8_sheet (wsV RX8 93 RX8 yX8_fails wsX8_fails) := goodIn_app (goodIn_of _ (by decide +kernel)) ggX8_sheet_X8_fails
set_option maxRecDepth 20000 in
theorem ggX8_sheet_X6_renew : GoodIn wsX8_sheet wsX6_renew := goodIn_r _ [19, 20, 21, 22, 23, 24, 25, 26, 40, 41, 42] (by decide +kernel) (by decide +kernel)
set_option maxRecDepth 20000 in
theorem gX8_sheet_X6_renew : GoodIn wsX8_sheet (wsV RX8 204 RX6 yX6_renew wsX6_renew) := goodIn_app (goodIn_of _ (by decide +kernel)) ggX8_sheet_X6_renew
theorem dX8_sheet_0 : decode cX8_sheet 0 = .ok (.aload_n 0, 1) := by decide +kernel
theorem dX8_sheet_1 : decode cX8_sheet 1 = .ok (.iconst 0, 1) := by decide +kernel
theorem dX8_sheet_2 : decode cX8_sheet 2 = .ok (.putfield 77, 3) := by decide +kernel
theorem dX8_sheet_5 : decode cX8_sheet 5 = .ok (.aload_n 0, 1) := by decide +kernel
theorem dX8_sheet_6 : decode cX8_sheet 6 = .ok (.iload_n 1, 1) := by decide +kernel
theorem dX8_sheet_7 : decode cX8_sheet 7 = .ok (.invokevirtual 81, 3) := by decide +kernel
theorem dX8_sheet_10 : decode cX8_sheet 10 = .ok (.astore 4, 2) := by decide +kernel
theorem dX8_sheet_12 : decode cX8_sheet 12 = .ok (.aload 4, 2) := by decide +kernel
theorem dX8_sheet_14 : decode cX8_sheet 14 = .ok (.ifnonnull 5, 3) := by decide +kernel
theorem dX8_sheet_17 : decode cX8_sheet 17 = .ok (.iconst (-1), 1) := by decide +kernel
theorem dX8_sheet_18 : decode cX8_sheet 18 = .ok (.ireturn, 1) := by decide +kernel
theorem dX8_sheet_19 : decode cX8_sheet 19 = .ok (.iload_n 2, 1) := by decide +kernel
theorem dX8_sheet_20 : decode cX8_sheet 20 = .ok (.invokestatic 85, 3) := by decide +kernel
theorem dX8_sheet_23 : decode cX8_sheet 23 = .ok (.ifCond .eq 9, 3) := by decide +kernel
theorem dX8_sheet_26 : decode cX8_sheet 26 = .ok (.iload_n 3, 1) := by decide +kernel
theorem dX8_sheet_27 : decode cX8_sheet 27 = .ok (.bipush 80, 2) := by decide +kernel
theorem dX8_sheet_29 : decode cX8_sheet 29 = .ok (.if_icmp .le 6, 3) := by decide +kernel
theorem dX8_sheet_32 : decode cX8_sheet 32 = .ok (.bipush (-2), 2) := by decide +kernel
theorem dX8_sheet_34 : decode cX8_sheet 34 = .ok (.ireturn, 1) := by decide +kernel
theorem dX8_sheet_35 : decode cX8_sheet 35 = .ok (.iload_n 3, 1) := by decide +kernel
theorem dX8_sheet_36 : decode cX8_sheet 36 = .ok (.ifCond .ge 9, 3) := by decide +kernel
theorem dX8_sheet_39 : decode cX8_sheet 39 = .ok (.aload_n 0, 1) := by decide +kernel
theorem dX8_sheet_40 : decode cX8_sheet 40 = .ok (.iconst 4, 1) := by decide +kernel
theorem dX8_sheet_41 : decode cX8_sheet 41 = .ok (.invokevirtual 93, 3) := by decide +kernel
theorem dX8_sheet_44 : decode cX8_sheet 44 = .ok (.ireturn, 1) := by decide +kernel
theorem dX8_sheet_45 : decode cX8_sheet 45 = .ok (.aload 4, 2) := by decide +kernel
theorem dX8_sheet_47 : decode cX8_sheet 47 = .ok (.iload_n 2, 1) := by decide +kernel
theorem dX8_sheet_48 : decode cX8_sheet 48 = .ok (.iload_n 3, 1) := by decide +kernel
theorem dX8_sheet_49 : decode cX8_sheet 49 = .ok (.invokevirtual 204, 3) := by decide +kernel
theorem dX8_sheet_52 : decode cX8_sheet 52 = .ok (.iconst 1, 1) := by decide +kernel
theorem dX8_sheet_53 : decode cX8_sheet 53 = .ok (.ireturn, 1) := by decide +kernel
set_option maxRecDepth 20000 in
theorem ggX8_lose_X8_sheetOf : GoodIn wsX8_lose wsX8_sheetOf := goodIn_r _ [5, 6, 17, 18, 19, 20, 21, 22, 23, 24, 25, 26, 27, 28, 29] (by decide +kernel) (by decide +kernel)
set_option maxRecDepth 20000 in
theorem gX8_lose_X8_sheetOf : GoodIn wsX8_lose (wsV RX8 81 RX8 yX8_sheetOf wsX8_sheetOf) := goodIn_app (goodIn_of _ (by decide +kernel)) ggX8_lose_X8_sheetOf
set_option maxRecDepth 20000 in
theorem ggX8_lose_X6_isNothing : GoodIn wsX8_lose wsX6_isNothing := goodIn_r _ [11, 12, 30, 31, 32] (by decide +kernel) (by decide +kernel)
set_option maxRecDepth 20000 in
theorem gX8_lose_X6_isNothing : GoodIn wsX8_lose (wsV RX8 207 RX6 yX6_isNothing wsX6_isNothing) := goodIn_app (goodIn_of _ (by decide +kernel)) ggX8_lose_X6_isNothing
set_option maxRecDepth 20000 in
theorem ggX8_lose_X6_drop : GoodIn wsX8_lose wsX6_drop := goodIn_r _ [16, 12, 30, 31, 32] (by decide +kernel) (by decide +kernel)
set_option maxRecDepth 20000 in
theorem gX8_lose_X6_drop : GoodIn wsX8_lose (wsV RX8 210 RX6 yX6_drop wsX6_drop) := goodIn_app (goodIn_of _ (by decide +kernel)) ggX8_lose_X6_drop
theorem dX8_lose_0 : decode cX8_lose 0 = .ok (.aload_n 0, 1) := by decide +kernel
theorem dX8_lose_1 : decode cX8_lose 1 = .ok (.iload_n 1, 1) := by decide +kernel
theorem dX8_lose_2 : decode cX8_lose 2 = .ok (.invokevirtual 81, 3) := by decide +kernel
theorem dX8_lose_5 : decode cX8_lose 5 = .ok (.astore_n 2, 1) := by decide +kernel
theorem dX8_lose_6 : decode cX8_lose 6 = .ok (.aload_n 2, 1) := by decide +kernel
theorem dX8_lose_7 : decode cX8_lose 7 = .ok (.ifnonnull 5, 3) := by decide +kernel
theorem dX8_lose_10 : decode cX8_lose 10 = .ok (.iconst (-1), 1) := by decide +kernel
theorem dX8_lose_11 : decode cX8_lose 11 = .ok (.ireturn, 1) := by decide +kernel
theorem dX8_lose_12 : decode cX8_lose 12 = .ok (.aload_n 2, 1) := by decide +kernel
theorem dX8_lose_13 : decode cX8_lose 13 = .ok (.invokevirtual 207, 3) := by decide +kernel
theorem dX8_lose_16 : decode cX8_lose 16 = .ok (.ifCond .eq 5, 3) := by decide +kernel
theorem dX8_lose_19 : decode cX8_lose 19 = .ok (.iconst 0, 1) := by decide +kernel
theorem dX8_lose_20 : decode cX8_lose 20 = .ok (.ireturn, 1) := by decide +kernel
theorem dX8_lose_21 : decode cX8_lose 21 = .ok (.aload_n 2, 1) := by decide +kernel
theorem dX8_lose_22 : decode cX8_lose 22 = .ok (.invokevirtual 210, 3) := by decide +kernel
theorem dX8_lose_25 : decode cX8_lose 25 = .ok (.iconst 1, 1) := by decide +kernel
theorem dX8_lose_26 : decode cX8_lose 26 = .ok (.ireturn, 1) := by decide +kernel
set_option maxRecDepth 20000 in
theorem ggX8_put_X8_sheetOf : GoodIn wsX8_put wsX8_sheetOf := goodIn_r _ [6, 7, 33, 34, 35, 36, 37, 38, 39, 40, 41, 42, 43, 44, 45] (by decide +kernel) (by decide +kernel)
set_option maxRecDepth 20000 in
theorem gX8_put_X8_sheetOf : GoodIn wsX8_put (wsV RX8 81 RX8 yX8_sheetOf wsX8_sheetOf) := goodIn_app (goodIn_of _ (by decide +kernel)) ggX8_put_X8_sheetOf
set_option maxRecDepth 20000 in
theorem ggX8_put_X6_isNothing : GoodIn wsX8_put wsX6_isNothing := goodIn_r _ [12, 13, 46, 47, 48] (by decide +kernel) (by decide +kernel)
set_option maxRecDepth 20000 in
theorem gX8_put_X6_isNothing : GoodIn wsX8_put (wsV RX8 207 RX6 yX6_isNothing wsX6_isNothing) := goodIn_app (goodIn_of _ (by decide +kernel)) ggX8_put_X6_isNothing
set_option maxRecDepth 20000 in
theorem ggX8_put_X8_fails : GoodIn wsX8_put wsX8_fails := goodIn_r _ [17, 1, 33, 34, 35, 36, 37, 38, 39, 40, 41, 42, 43, 44, 45] (by decide +kernel) (by decide +kernel)
set_option maxRecDepth 20000 in
theorem gX8_put_X8_fails : GoodIn wsX8_put (wsV RX8 93 RX8 yX8_fails wsX8_fails) := goodIn_app (goodIn_of _ (by decide +kernel)) ggX8_put_X8_fails
set_option maxRecDepth 20000 in
theorem ggX8_put_X6_hasCells : GoodIn wsX8_put wsX6_hasCells := goodIn_r _ [21, 13, 46, 47, 48] (by decide +kernel) (by decide +kernel)
set_option maxRecDepth 20000 in
theorem gX8_put_X6_hasCells : GoodIn wsX8_put (wsV RX8 97 RX6 yX6_hasCells wsX6_hasCells) := goodIn_app (goodIn_of _ (by decide +kernel)) ggX8_put_X6_hasCells
set_option maxRecDepth 20000 in
theorem ggX8_put_X6_write : GoodIn wsX8_put wsX6_write := goodIn_r _ [25, 26, 27, 19, 20, 11, 21, 13, 28, 29, 30, 31, 32, 46, 47, 48] (by decide +kernel) (by decide +kernel)
set_option maxRecDepth 20000 in
theorem gX8_put_X6_write : GoodIn wsX8_put (wsV RX8 213 RX6 yX6_write wsX6_write) := goodIn_app (goodIn_of _ (by decide +kernel)) ggX8_put_X6_write
theorem dX8_put_0 : decode cX8_put 0 = .ok (.aload_n 0, 1) := by decide +kernel
theorem dX8_put_1 : decode cX8_put 1 = .ok (.iconst 0, 1) := by decide +kernel
theorem dX8_put_2 : decode cX8_put 2 = .ok (.putfield 77, 3) := by decide +kernel
theorem dX8_put_5 : decode cX8_put 5 = .ok (.aload_n 0, 1) := by decide +kernel
theorem dX8_put_6 : decode cX8_put 6 = .ok (.iload_n 1, 1) := by decide +kernel
theorem dX8_put_7 : decode cX8_put 7 = .ok (.invokevirtual 81, 3) := by decide +kernel
theorem dX8_put_10 : decode cX8_put 10 = .ok (.astore 4, 2) := by decide +kernel
theorem dX8_put_12 : decode cX8_put 12 = .ok (.aload 4, 2) := by decide +kernel
theorem dX8_put_14 : decode cX8_put 14 = .ok (.ifnonnull 5, 3) := by decide +kernel
theorem dX8_put_17 : decode cX8_put 17 = .ok (.iconst (-1), 1) := by decide +kernel
theorem dX8_put_18 : decode cX8_put 18 = .ok (.ireturn, 1) := by decide +kernel
theorem dX8_put_19 : decode cX8_put 19 = .ok (.aload 4, 2) := by decide +kernel
theorem dX8_put_21 : decode cX8_put 21 = .ok (.invokevirtual 207, 3) := by decide +kernel
theorem dX8_put_24 : decode cX8_put 24 = .ok (.ifCond .eq 9, 3) := by decide +kernel
theorem dX8_put_27 : decode cX8_put 27 = .ok (.aload_n 0, 1) := by decide +kernel
theorem dX8_put_28 : decode cX8_put 28 = .ok (.iconst 1, 1) := by decide +kernel
theorem dX8_put_29 : decode cX8_put 29 = .ok (.invokevirtual 93, 3) := by decide +kernel
theorem dX8_put_32 : decode cX8_put 32 = .ok (.ireturn, 1) := by decide +kernel
theorem dX8_put_33 : decode cX8_put 33 = .ok (.aload 4, 2) := by decide +kernel
theorem dX8_put_35 : decode cX8_put 35 = .ok (.iload_n 2, 1) := by decide +kernel
theorem dX8_put_36 : decode cX8_put 36 = .ok (.iconst 1, 1) := by decide +kernel
theorem dX8_put_37 : decode cX8_put 37 = .ok (.invokevirtual 97, 3) := by decide +kernel
theorem dX8_put_40 : decode cX8_put 40 = .ok (.ifCond .ne 9, 3) := by decide +kernel
theorem dX8_put_43 : decode cX8_put 43 = .ok (.aload_n 0, 1) := by decide +kernel
theorem dX8_put_44 : decode cX8_put 44 = .ok (.iconst 3, 1) := by decide +kernel
theorem dX8_put_45 : decode cX8_put 45 = .ok (.invokevirtual 93, 3) := by decide +kernel
theorem dX8_put_48 : decode cX8_put 48 = .ok (.ireturn, 1) := by decide +kernel
theorem dX8_put_49 : decode cX8_put 49 = .ok (.aload 4, 2) := by decide +kernel
theorem dX8_put_51 : decode cX8_put 51 = .ok (.iload_n 2, 1) := by decide +kernel
theorem dX8_put_52 : decode cX8_put 52 = .ok (.iload_n 3, 1) := by decide +kernel
theorem dX8_put_53 : decode cX8_put 53 = .ok (.invokevirtual 213, 3) := by decide +kernel
theorem dX8_put_56 : decode cX8_put 56 = .ok (.iconst 1, 1) := by decide +kernel
theorem dX8_put_57 : decode cX8_put 57 = .ok (.ireturn, 1) := by decide +kernel
set_option maxRecDepth 20000 in
theorem ggX8_cell_X8_sheetOf : GoodIn wsX8_cell wsX8_sheetOf := goodIn_r _ [7, 8, 36, 37, 38, 39, 40, 41, 42, 43, 44, 45, 46, 47, 48] (by decide +kernel) (by decide +kernel)
set_option maxRecDepth 20000 in
theorem gX8_cell_X8_sheetOf : GoodIn wsX8_cell (wsV RX8 81 RX8 yX8_sheetOf wsX8_sheetOf) := goodIn_app (goodIn_of _ (by decide +kernel)) ggX8_cell_X8_sheetOf
set_option maxRecDepth 20000 in
theorem ggX8_cell_X8_isSort : GoodIn wsX8_cell wsX8_isSort := goodIn_r _ [11] (by decide +kernel) (by decide +kernel)
set_option maxRecDepth 20000 in
theorem gX8_cell_X8_isSort : GoodIn wsX8_cell (va_wsS RX8 85 yX8_isSort wsX8_isSort) := goodIn_app (goodIn_of _ (by decide +kernel)) ggX8_cell_X8_isSort
set_option maxRecDepth 20000 in
theorem ggX8_cell_X8_readingFault : GoodIn wsX8_cell wsX8_readingFault := goodIn_r _ [14, 15, 16, 17, 18, 19, 20, 21, 22, 23, 24, 25, 49, 50, 51] (by decide +kernel) (by decide +kernel)
set_option maxRecDepth 20000 in
theorem gX8_cell_X8_readingFault : GoodIn wsX8_cell (va_wsS RX8 89 yX8_readingFault wsX8_readingFault) := goodIn_app (goodIn_of _ (by decide +kernel)) ggX8_cell_X8_readingFault
set_option maxRecDepth 20000 in
theorem ggX8_cell_X6_hasCells : GoodIn wsX8_cell wsX6_hasCells := goodIn_r _ [29, 20, 49, 50, 51] (by decide +kernel) (by decide +kernel)
set_option maxRecDepth 20000 in
theorem gX8_cell_X6_hasCells : GoodIn wsX8_cell (wsV RX8 97 RX6 yX6_hasCells wsX6_hasCells) := goodIn_app (goodIn_of _ (by decide +kernel)) ggX8_cell_X6_hasCells
set_option maxRecDepth 20000 in
theorem ggX8_cell_X6_at : GoodIn wsX8_cell wsX6_at := goodIn_r _ [33, 34, 35, 27, 28, 18, 29, 20, 49, 50, 51] (by decide +kernel) (by decide +kernel)
set_option maxRecDepth 20000 in
theorem gX8_cell_X6_at : GoodIn wsX8_cell (wsV RX8 216 RX6 yX6_at wsX6_at) := goodIn_app (goodIn_of _ (by decide +kernel)) ggX8_cell_X6_at
theorem dX8_cell_0 : decode cX8_cell 0 = .ok (.aload_n 0, 1) := by decide +kernel
theorem dX8_cell_1 : decode cX8_cell 1 = .ok (.iconst 0, 1) := by decide +kernel
theorem dX8_cell_2 : decode cX8_cell 2 = .ok (.putfield 77, 3) := by decide +kernel
theorem dX8_cell_5 : decode cX8_cell 5 = .ok (.aload_n 0, 1) := by decide +kernel
theorem dX8_cell_6 : decode cX8_cell 6 = .ok (.iload_n 1, 1) := by decide +kernel
theorem dX8_cell_7 : decode cX8_cell 7 = .ok (.invokevirtual 81, 3) := by decide +kernel
theorem dX8_cell_10 : decode cX8_cell 10 = .ok (.astore 4, 2) := by decide +kernel
theorem dX8_cell_12 : decode cX8_cell 12 = .ok (.aload 4, 2) := by decide +kernel
theorem dX8_cell_14 : decode cX8_cell 14 = .ok (.ifnull 10, 3) := by decide +kernel
theorem dX8_cell_17 : decode cX8_cell 17 = .ok (.iload_n 3, 1) := by decide +kernel
theorem dX8_cell_18 : decode cX8_cell 18 = .ok (.invokestatic 85, 3) := by decide +kernel
theorem dX8_cell_21 : decode cX8_cell 21 = .ok (.ifCond .ne 7, 3) := by decide +kernel
theorem dX8_cell_24 : decode cX8_cell 24 = .ok (.ldc2_w 156, 3) := by decide +kernel
theorem dX8_cell_27 : decode cX8_cell 27 = .ok (.lreturn, 1) := by decide +kernel
theorem dX8_cell_28 : decode cX8_cell 28 = .ok (.aload_n 0, 1) := by decide +kernel
theorem dX8_cell_29 : decode cX8_cell 29 = .ok (.aload 4, 2) := by decide +kernel
theorem dX8_cell_31 : decode cX8_cell 31 = .ok (.iload_n 3, 1) := by decide +kernel
theorem dX8_cell_32 : decode cX8_cell 32 = .ok (.invokestatic 89, 3) := by decide +kernel
theorem dX8_cell_35 : decode cX8_cell 35 = .ok (.putfield 77, 3) := by decide +kernel
theorem dX8_cell_38 : decode cX8_cell 38 = .ok (.aload_n 0, 1) := by decide +kernel
theorem dX8_cell_39 : decode cX8_cell 39 = .ok (.getfield 77, 3) := by decide +kernel
theorem dX8_cell_42 : decode cX8_cell 42 = .ok (.ifCond .eq 7, 3) := by decide +kernel
theorem dX8_cell_45 : decode cX8_cell 45 = .ok (.ldc2_w 156, 3) := by decide +kernel
theorem dX8_cell_48 : decode cX8_cell 48 = .ok (.lreturn, 1) := by decide +kernel
theorem dX8_cell_49 : decode cX8_cell 49 = .ok (.aload 4, 2) := by decide +kernel
theorem dX8_cell_51 : decode cX8_cell 51 = .ok (.iload_n 2, 1) := by decide +kernel
theorem dX8_cell_52 : decode cX8_cell 52 = .ok (.iconst 1, 1) := by decide +kernel
theorem dX8_cell_53 : decode cX8_cell 53 = .ok (.invokevirtual 97, 3) := by decide +kernel
theorem dX8_cell_56 : decode cX8_cell 56 = .ok (.ifCond .ne 12, 3) := by decide +kernel
theorem dX8_cell_59 : decode cX8_cell 59 = .ok (.aload_n 0, 1) := by decide +kernel
theorem dX8_cell_60 : decode cX8_cell 60 = .ok (.iconst 3, 1) := by decide +kernel
theorem dX8_cell_61 : decode cX8_cell 61 = .ok (.putfield 77, 3) := by decide +kernel
theorem dX8_cell_64 : decode cX8_cell 64 = .ok (.ldc2_w 156, 3) := by decide +kernel
theorem dX8_cell_67 : decode cX8_cell 67 = .ok (.lreturn, 1) := by decide +kernel
theorem dX8_cell_68 : decode cX8_cell 68 = .ok (.aload 4, 2) := by decide +kernel
theorem dX8_cell_70 : decode cX8_cell 70 = .ok (.iload_n 2, 1) := by decide +kernel
theorem dX8_cell_71 : decode cX8_cell 71 = .ok (.invokevirtual 216, 3) := by decide +kernel
theorem dX8_cell_74 : decode cX8_cell 74 = .ok (.i2l, 1) := by decide +kernel
theorem dX8_cell_75 : decode cX8_cell 75 = .ok (.lreturn, 1) := by decide +kernel
set_option maxRecDepth 20000 in
theorem ggX8_copy_X8_sheetOf : GoodIn wsX8_copy wsX8_sheetOf := goodIn_r _ [6, 7, 37, 38, 39, 40, 41, 42, 43, 44, 45, 46, 47, 48, 49] (by decide +kernel) (by decide +kernel)
set_option maxRecDepth 20000 in
theorem gX8_copy_X8_sheetOf : GoodIn wsX8_copy (wsV RX8 81 RX8 yX8_sheetOf wsX8_sheetOf) := goodIn_app (goodIn_of _ (by decide +kernel)) ggX8_copy_X8_sheetOf
set_option maxRecDepth 20000 in
theorem ggX8_copy_X6_isNothing : GoodIn wsX8_copy wsX6_isNothing := goodIn_r _ [12, 13, 50, 51, 52] (by decide +kernel) (by decide +kernel)
set_option maxRecDepth 20000 in
theorem gX8_copy_X6_isNothing : GoodIn wsX8_copy (wsV RX8 207 RX6 yX6_isNothing wsX6_isNothing) := goodIn_app (goodIn_of _ (by decide +kernel)) ggX8_copy_X6_isNothing
set_option maxRecDepth 20000 in
theorem ggX8_copy_X8_fails : GoodIn wsX8_copy wsX8_fails := goodIn_r _ [17, 1, 37, 38, 39, 40, 41, 42, 43, 44, 45, 46, 47, 48, 49] (by decide +kernel) (by decide +kernel)
set_option maxRecDepth 20000 in
theorem gX8_copy_X8_fails : GoodIn wsX8_copy (wsV RX8 93 RX8 yX8_fails wsX8_fails) := goodIn_app (goodIn_of _ (by decide +kernel)) ggX8_copy_X8_fails
set_option maxRecDepth 20000 in
theorem ggX8_copy_X6_sort : GoodIn wsX8_copy wsX6_sort := goodIn_r _ [21, 22, 50, 51, 52] (by decide +kernel) (by decide +kernel)
set_option maxRecDepth 20000 in
theorem gX8_copy_X6_sort : GoodIn wsX8_copy (wsV RX8 217 RX6 yX6_sort wsX6_sort) := goodIn_app (goodIn_of _ (by decide +kernel)) ggX8_copy_X6_sort
set_option maxRecDepth 20000 in
theorem ggX8_copy_X6_hasCells : GoodIn wsX8_copy wsX6_hasCells := goodIn_r _ [26, 13, 50, 51, 52] (by decide +kernel) (by decide +kernel)
set_option maxRecDepth 20000 in
theorem gX8_copy_X6_hasCells : GoodIn wsX8_copy (wsV RX8 97 RX6 yX6_hasCells wsX6_hasCells) := goodIn_app (goodIn_of _ (by decide +kernel)) ggX8_copy_X6_hasCells
set_option maxRecDepth 20000 in
theorem ggX8_copy_X6_giveTo : GoodIn wsX8_copy wsX6_giveTo := goodIn_r _ [30, 31, 32, 33, 34, 35, 36, 24, 25, 11, 26, 13, 50, 51, 52] (by decide +kernel) (by decide +kernel)
set_option maxRecDepth 20000 in
theorem gX8_copy_X6_giveTo : GoodIn wsX8_copy (wsV RX8 220 RX6 yX6_giveTo wsX6_giveTo) := goodIn_app (goodIn_of _ (by decide +kernel)) ggX8_copy_X6_giveTo
theorem dX8_copy_0 : decode cX8_copy 0 = .ok (.aload_n 0, 1) := by decide +kernel
theorem dX8_copy_1 : decode cX8_copy 1 = .ok (.iconst 0, 1) := by decide +kernel
theorem dX8_copy_2 : decode cX8_copy 2 = .ok (.putfield 77, 3) := by decide +kernel
theorem dX8_copy_5 : decode cX8_copy 5 = .ok (.aload_n 0, 1) := by decide +kernel
theorem dX8_copy_6 : decode cX8_copy 6 = .ok (.iload_n 1, 1) := by decide +kernel
theorem dX8_copy_7 : decode cX8_copy 7 = .ok (.invokevirtual 81, 3) := by decide +kernel
theorem dX8_copy_10 : decode cX8_copy 10 = .ok (.astore 6, 2) := by decide +kernel
theorem dX8_copy_12 : decode cX8_copy 12 = .ok (.aload_n 0, 1) := by decide +kernel
theorem dX8_copy_13 : decode cX8_copy 13 = .ok (.iload_n 3, 1) := by decide +kernel
theorem dX8_copy_14 : decode cX8_copy 14 = .ok (.invokevirtual 81, 3) := by decide +kernel
theorem dX8_copy_17 : decode cX8_copy 17 = .ok (.astore 7, 2) := by decide +kernel
theorem dX8_copy_19 : decode cX8_copy 19 = .ok (.aload 6, 2) := by decide +kernel
theorem dX8_copy_21 : decode cX8_copy 21 = .ok (.ifnull 8, 3) := by decide +kernel
theorem dX8_copy_24 : decode cX8_copy 24 = .ok (.aload 7, 2) := by decide +kernel
theorem dX8_copy_26 : decode cX8_copy 26 = .ok (.ifnonnull 5, 3) := by decide +kernel
theorem dX8_copy_29 : decode cX8_copy 29 = .ok (.iconst (-1), 1) := by decide +kernel
theorem dX8_copy_30 : decode cX8_copy 30 = .ok (.ireturn, 1) := by decide +kernel
theorem dX8_copy_31 : decode cX8_copy 31 = .ok (.aload 6, 2) := by decide +kernel
theorem dX8_copy_33 : decode cX8_copy 33 = .ok (.invokevirtual 207, 3) := by decide +kernel
theorem dX8_copy_36 : decode cX8_copy 36 = .ok (.ifCond .ne 11, 3) := by decide +kernel
theorem dX8_copy_39 : decode cX8_copy 39 = .ok (.aload 7, 2) := by decide +kernel
theorem dX8_copy_41 : decode cX8_copy 41 = .ok (.invokevirtual 207, 3) := by decide +kernel
theorem dX8_copy_44 : decode cX8_copy 44 = .ok (.ifCond .eq 9, 3) := by decide +kernel
theorem dX8_copy_47 : decode cX8_copy 47 = .ok (.aload_n 0, 1) := by decide +kernel
theorem dX8_copy_48 : decode cX8_copy 48 = .ok (.iconst 1, 1) := by decide +kernel
theorem dX8_copy_49 : decode cX8_copy 49 = .ok (.invokevirtual 93, 3) := by decide +kernel
theorem dX8_copy_52 : decode cX8_copy 52 = .ok (.ireturn, 1) := by decide +kernel
theorem dX8_copy_53 : decode cX8_copy 53 = .ok (.aload 6, 2) := by decide +kernel
theorem dX8_copy_55 : decode cX8_copy 55 = .ok (.invokevirtual 217, 3) := by decide +kernel
theorem dX8_copy_58 : decode cX8_copy 58 = .ok (.aload 7, 2) := by decide +kernel
theorem dX8_copy_60 : decode cX8_copy 60 = .ok (.invokevirtual 217, 3) := by decide +kernel
theorem dX8_copy_63 : decode cX8_copy 63 = .ok (.if_icmp .eq 9, 3) := by decide +kernel
theorem dX8_copy_66 : decode cX8_copy 66 = .ok (.aload_n 0, 1) := by decide +kernel
theorem dX8_copy_67 : decode cX8_copy 67 = .ok (.iconst 2, 1) := by decide +kernel
theorem dX8_copy_68 : decode cX8_copy 68 = .ok (.invokevirtual 93, 3) := by decide +kernel
theorem dX8_copy_71 : decode cX8_copy 71 = .ok (.ireturn, 1) := by decide +kernel
theorem dX8_copy_72 : decode cX8_copy 72 = .ok (.aload 6, 2) := by decide +kernel
theorem dX8_copy_74 : decode cX8_copy 74 = .ok (.iload_n 2, 1) := by decide +kernel
theorem dX8_copy_75 : decode cX8_copy 75 = .ok (.iload 5, 2) := by decide +kernel
theorem dX8_copy_77 : decode cX8_copy 77 = .ok (.invokevirtual 97, 3) := by decide +kernel
theorem dX8_copy_80 : decode cX8_copy 80 = .ok (.ifCond .eq 15, 3) := by decide +kernel
theorem dX8_copy_83 : decode cX8_copy 83 = .ok (.aload 7, 2) := by decide +kernel
theorem dX8_copy_85 : decode cX8_copy 85 = .ok (.iload 4, 2) := by decide +kernel
theorem dX8_copy_87 : decode cX8_copy 87 = .ok (.iload 5, 2) := by decide +kernel
theorem dX8_copy_89 : decode cX8_copy 89 = .ok (.invokevirtual 97, 3) := by decide +kernel
theorem dX8_copy_92 : decode cX8_copy 92 = .ok (.ifCond .ne 9, 3) := by decide +kernel
theorem dX8_copy_95 : decode cX8_copy 95 = .ok (.aload_n 0, 1) := by decide +kernel
theorem dX8_copy_96 : decode cX8_copy 96 = .ok (.iconst 3, 1) := by decide +kernel
theorem dX8_copy_97 : decode cX8_copy 97 = .ok (.invokevirtual 93, 3) := by decide +kernel
theorem dX8_copy_100 : decode cX8_copy 100 = .ok (.ireturn, 1) := by decide +kernel
theorem dX8_copy_101 : decode cX8_copy 101 = .ok (.aload 6, 2) := by decide +kernel
theorem dX8_copy_103 : decode cX8_copy 103 = .ok (.iload_n 2, 1) := by decide +kernel
theorem dX8_copy_104 : decode cX8_copy 104 = .ok (.aload 7, 2) := by decide +kernel
theorem dX8_copy_106 : decode cX8_copy 106 = .ok (.iload 4, 2) := by decide +kernel
theorem dX8_copy_108 : decode cX8_copy 108 = .ok (.iload 5, 2) := by decide +kernel
theorem dX8_copy_110 : decode cX8_copy 110 = .ok (.invokevirtual 220, 3) := by decide +kernel
theorem dX8_copy_113 : decode cX8_copy 113 = .ok (.iload 5, 2) := by decide +kernel
theorem dX8_copy_115 : decode cX8_copy 115 = .ok (.ireturn, 1) := by decide +kernel
set_option maxRecDepth 20000 in
theorem ggX8_tell_X8_isWord : GoodIn wsX8_tell wsX8_isWord := goodIn_r _ [5] (by decide +kernel) (by decide +kernel)
set_option maxRecDepth 20000 in
theorem gX8_tell_X8_isWord : GoodIn wsX8_tell (va_wsS RX8 109 yX8_isWord wsX8_isWord) := goodIn_app (goodIn_of _ (by decide +kernel)) ggX8_tell_X8_isWord
set_option maxRecDepth 20000 in
theorem ggX8_tell_X8_doubtTells : GoodIn wsX8_tell wsX8_doubtTells := goodIn_r _ [9, 10, 11, 12, 4, 13, 14, 15, 16, 17, 18, 19, 20, 21, 22, 23, 24, 25, 26, 27, 28, 29, 30, 31, 32, 33, 34, 35, 36, 37, 38, 39, 40, 41, 42, 43, 44, 45, 46, 47, 48, 49, 50] (by decide +kernel) (by decide +kernel)
set_option maxRecDepth 20000 in
theorem gX8_tell_X8_doubtTells : GoodIn wsX8_tell (wsV RX8 224 RX8 yX8_doubtTells wsX8_doubtTells) := goodIn_app (goodIn_of _ (by decide +kernel)) ggX8_tell_X8_doubtTells
set_option maxRecDepth 20000 in
theorem ggX8_tell_X8_denialTells : GoodIn wsX8_tell wsX8_denialTells := goodIn_r _ [18, 10, 11, 12, 4, 13, 14, 19, 20, 21, 22, 23, 24, 25, 26, 27, 28, 29, 30, 31, 32, 33, 34, 35, 36, 37, 38, 39, 40, 41, 42, 43, 44, 45, 46, 47, 48, 49, 50] (by decide +kernel) (by decide +kernel)
set_option maxRecDepth 20000 in
theorem gX8_tell_X8_denialTells : GoodIn wsX8_tell (wsV RX8 227 RX8 yX8_denialTells wsX8_denialTells) := goodIn_app (goodIn_of _ (by decide +kernel)) ggX8_tell_X8_denialTells
set_option maxRecDepth 20000 in
theorem ggX8_tell_X8_wordTells : GoodIn wsX8_tell wsX8_wordTells := goodIn_r _ [22, 23, 10, 11, 12, 4, 13, 14, 24, 25, 26, 27, 28, 29, 30, 31, 32, 33, 34, 35, 36, 37, 38, 39, 40, 41, 42, 43, 44, 45, 46, 47, 48, 49, 50] (by decide +kernel) (by decide +kernel)
set_option maxRecDepth 20000 in
theorem gX8_tell_X8_wordTells : GoodIn wsX8_tell (wsV RX8 230 RX8 yX8_wordTells wsX8_wordTells) := goodIn_app (goodIn_of _ (by decide +kernel)) ggX8_tell_X8_wordTells
theorem dX8_tell_0 : decode cX8_tell 0 = .ok (.iload_n 1, 1) := by decide +kernel
theorem dX8_tell_1 : decode cX8_tell 1 = .ok (.invokestatic 109, 3) := by decide +kernel
theorem dX8_tell_4 : decode cX8_tell 4 = .ok (.ifCond .ne 5, 3) := by decide +kernel
theorem dX8_tell_7 : decode cX8_tell 7 = .ok (.iconst (-1), 1) := by decide +kernel
theorem dX8_tell_8 : decode cX8_tell 8 = .ok (.ireturn, 1) := by decide +kernel
theorem dX8_tell_9 : decode cX8_tell 9 = .ok (.aload_n 0, 1) := by decide +kernel
theorem dX8_tell_10 : decode cX8_tell 10 = .ok (.getfield 11, 3) := by decide +kernel
theorem dX8_tell_13 : decode cX8_tell 13 = .ok (.iload_n 1, 1) := by decide +kernel
theorem dX8_tell_14 : decode cX8_tell 14 = .ok (.iaload, 1) := by decide +kernel
theorem dX8_tell_15 : decode cX8_tell 15 = .ok (.iconst 2, 1) := by decide +kernel
theorem dX8_tell_16 : decode cX8_tell 16 = .ok (.if_icmp .ne 9, 3) := by decide +kernel
theorem dX8_tell_19 : decode cX8_tell 19 = .ok (.aload_n 0, 1) := by decide +kernel
theorem dX8_tell_20 : decode cX8_tell 20 = .ok (.iload_n 1, 1) := by decide +kernel
theorem dX8_tell_21 : decode cX8_tell 21 = .ok (.invokevirtual 224, 3) := by decide +kernel
theorem dX8_tell_24 : decode cX8_tell 24 = .ok (.ireturn, 1) := by decide +kernel
theorem dX8_tell_25 : decode cX8_tell 25 = .ok (.aload_n 0, 1) := by decide +kernel
theorem dX8_tell_26 : decode cX8_tell 26 = .ok (.getfield 11, 3) := by decide +kernel
theorem dX8_tell_29 : decode cX8_tell 29 = .ok (.iload_n 1, 1) := by decide +kernel
theorem dX8_tell_30 : decode cX8_tell 30 = .ok (.iaload, 1) := by decide +kernel
theorem dX8_tell_31 : decode cX8_tell 31 = .ok (.iconst 1, 1) := by decide +kernel
theorem dX8_tell_32 : decode cX8_tell 32 = .ok (.if_icmp .ne 11, 3) := by decide +kernel
theorem dX8_tell_35 : decode cX8_tell 35 = .ok (.aload_n 0, 1) := by decide +kernel
theorem dX8_tell_36 : decode cX8_tell 36 = .ok (.iload_n 1, 1) := by decide +kernel
theorem dX8_tell_37 : decode cX8_tell 37 = .ok (.invokevirtual 227, 3) := by decide +kernel
theorem dX8_tell_40 : decode cX8_tell 40 = .ok (.goto 8, 3) := by decide +kernel
theorem dX8_tell_43 : decode cX8_tell 43 = .ok (.aload_n 0, 1) := by decide +kernel
theorem dX8_tell_44 : decode cX8_tell 44 = .ok (.iload_n 1, 1) := by decide +kernel
theorem dX8_tell_45 : decode cX8_tell 45 = .ok (.invokevirtual 230, 3) := by decide +kernel
theorem dX8_tell_48 : decode cX8_tell 48 = .ok (.ireturn, 1) := by decide +kernel
set_option maxRecDepth 20000 in
theorem ggX8_sing_X8_isWord : GoodIn wsX8_sing wsX8_isWord := goodIn_r _ [5] (by decide +kernel) (by decide +kernel)
set_option maxRecDepth 20000 in
theorem gX8_sing_X8_isWord : GoodIn wsX8_sing (va_wsS RX8 109 yX8_isWord wsX8_isWord) := goodIn_app (goodIn_of _ (by decide +kernel)) ggX8_sing_X8_isWord
set_option maxRecDepth 20000 in
theorem ggX8_sing_X8_doubtSings : GoodIn wsX8_sing wsX8_doubtSings := goodIn_r _ [9, 10, 11, 12, 4, 13, 14, 19, 20, 21, 22, 23, 24, 25, 26, 27, 28, 29, 30, 31] (by decide +kernel) (by decide +kernel)
set_option maxRecDepth 20000 in
theorem gX8_sing_X8_doubtSings : GoodIn wsX8_sing (wsV RX8 233 RX8 yX8_doubtSings wsX8_doubtSings) := goodIn_app (goodIn_of _ (by decide +kernel)) ggX8_sing_X8_doubtSings
set_option maxRecDepth 20000 in
theorem ggX8_sing_X8_wordSings : GoodIn wsX8_sing wsX8_wordSings := goodIn_r _ [18, 10, 11, 12, 4, 13, 14, 19, 20, 21, 22, 23, 24, 25, 26, 27, 28, 29, 30, 31] (by decide +kernel) (by decide +kernel)
set_option maxRecDepth 20000 in
theorem gX8_sing_X8_wordSings : GoodIn wsX8_sing (wsV RX8 236 RX8 yX8_wordSings wsX8_wordSings) := goodIn_app (goodIn_of _ (by decide +kernel)) ggX8_sing_X8_wordSings
theorem dX8_sing_0 : decode cX8_sing 0 = .ok (.iload_n 1, 1) := by decide +kernel
theorem dX8_sing_1 : decode cX8_sing 1 = .ok (.invokestatic 109, 3) := by decide +kernel
theorem dX8_sing_4 : decode cX8_sing 4 = .ok (.ifCond .ne 5, 3) := by decide +kernel
theorem dX8_sing_7 : decode cX8_sing 7 = .ok (.iconst (-1), 1) := by decide +kernel
theorem dX8_sing_8 : decode cX8_sing 8 = .ok (.ireturn, 1) := by decide +kernel
theorem dX8_sing_9 : decode cX8_sing 9 = .ok (.aload_n 0, 1) := by decide +kernel
theorem dX8_sing_10 : decode cX8_sing 10 = .ok (.getfield 11, 3) := by decide +kernel
theorem dX8_sing_13 : decode cX8_sing 13 = .ok (.iload_n 1, 1) := by decide +kernel
theorem dX8_sing_14 : decode cX8_sing 14 = .ok (.iaload, 1) := by decide +kernel
theorem dX8_sing_15 : decode cX8_sing 15 = .ok (.iconst 2, 1) := by decide +kernel
theorem dX8_sing_16 : decode cX8_sing 16 = .ok (.if_icmp .ne 10, 3) := by decide +kernel
theorem dX8_sing_19 : decode cX8_sing 19 = .ok (.aload_n 0, 1) := by decide +kernel
theorem dX8_sing_20 : decode cX8_sing 20 = .ok (.invokevirtual 233, 3) := by decide +kernel
theorem dX8_sing_23 : decode cX8_sing 23 = .ok (.goto 8, 3) := by decide +kernel
theorem dX8_sing_26 : decode cX8_sing 26 = .ok (.aload_n 0, 1) := by decide +kernel
theorem dX8_sing_27 : decode cX8_sing 27 = .ok (.iload_n 1, 1) := by decide +kernel
theorem dX8_sing_28 : decode cX8_sing 28 = .ok (.invokevirtual 236, 3) := by decide +kernel
theorem dX8_sing_31 : decode cX8_sing 31 = .ok (.ireturn, 1) := by decide +kernel
set_option maxRecDepth 20000 in
theorem ggX8_as_X8_isWord : GoodIn wsX8_as wsX8_isWord := goodIn_r _ [6] (by decide +kernel) (by decide +kernel)
set_option maxRecDepth 20000 in
theorem gX8_as_X8_isWord : GoodIn wsX8_as (va_wsS RX8 109 yX8_isWord wsX8_isWord) := goodIn_app (goodIn_of _ (by decide +kernel)) ggX8_as_X8_isWord
set_option maxRecDepth 20000 in
theorem ggX8_as_X8_isKind : GoodIn wsX8_as wsX8_isKind := goodIn_r _ [9] (by decide +kernel) (by decide +kernel)
set_option maxRecDepth 20000 in
theorem gX8_as_X8_isKind : GoodIn wsX8_as (va_wsS RX8 112 yX8_isKind wsX8_isKind) := goodIn_app (goodIn_of _ (by decide +kernel)) ggX8_as_X8_isKind
set_option maxRecDepth 20000 in
theorem ggX8_as_X8_fails : GoodIn wsX8_as wsX8_fails := goodIn_r _ [13, 1, 14, 15, 16, 17, 18, 19, 20, 21, 22, 23, 24, 25, 26] (by decide +kernel) (by decide +kernel)
set_option maxRecDepth 20000 in
theorem gX8_as_X8_fails : GoodIn wsX8_as (wsV RX8 93 RX8 yX8_fails wsX8_fails) := goodIn_app (goodIn_of _ (by decide +kernel)) ggX8_as_X8_fails
theorem dX8_as_0 : decode cX8_as 0 = .ok (.aload_n 0, 1) := by decide +kernel
theorem dX8_as_1 : decode cX8_as 1 = .ok (.iconst 0, 1) := by decide +kernel
theorem dX8_as_2 : decode cX8_as 2 = .ok (.putfield 77, 3) := by decide +kernel
theorem dX8_as_5 : decode cX8_as 5 = .ok (.iload_n 1, 1) := by decide +kernel
theorem dX8_as_6 : decode cX8_as 6 = .ok (.invokestatic 109, 3) := by decide +kernel
theorem dX8_as_9 : decode cX8_as 9 = .ok (.ifCond .ne 5, 3) := by decide +kernel
theorem dX8_as_12 : decode cX8_as 12 = .ok (.iconst (-1), 1) := by decide +kernel
theorem dX8_as_13 : decode cX8_as 13 = .ok (.ireturn, 1) := by decide +kernel
theorem dX8_as_14 : decode cX8_as 14 = .ok (.iload_n 2, 1) := by decide +kernel
theorem dX8_as_15 : decode cX8_as 15 = .ok (.invokestatic 112, 3) := by decide +kernel
theorem dX8_as_18 : decode cX8_as 18 = .ok (.ifCond .ne 6, 3) := by decide +kernel
theorem dX8_as_21 : decode cX8_as 21 = .ok (.bipush (-2), 2) := by decide +kernel
theorem dX8_as_23 : decode cX8_as 23 = .ok (.ireturn, 1) := by decide +kernel
theorem dX8_as_24 : decode cX8_as 24 = .ok (.aload_n 0, 1) := by decide +kernel
theorem dX8_as_25 : decode cX8_as 25 = .ok (.getfield 11, 3) := by decide +kernel
theorem dX8_as_28 : decode cX8_as 28 = .ok (.iload_n 1, 1) := by decide +kernel
theorem dX8_as_29 : decode cX8_as 29 = .ok (.iaload, 1) := by decide +kernel
theorem dX8_as_30 : decode cX8_as 30 = .ok (.iload_n 2, 1) := by decide +kernel
theorem dX8_as_31 : decode cX8_as 31 = .ok (.if_icmp .ge 11, 3) := by decide +kernel
theorem dX8_as_34 : decode cX8_as 34 = .ok (.aload_n 0, 1) := by decide +kernel
theorem dX8_as_35 : decode cX8_as 35 = .ok (.iconst 2, 1) := by decide +kernel
theorem dX8_as_36 : decode cX8_as 36 = .ok (.invokevirtual 93, 3) := by decide +kernel
theorem dX8_as_39 : decode cX8_as 39 = .ok (.goto 4, 3) := by decide +kernel
theorem dX8_as_42 : decode cX8_as 42 = .ok (.iconst 1, 1) := by decide +kernel
theorem dX8_as_43 : decode cX8_as 43 = .ok (.ireturn, 1) := by decide +kernel
theorem dX8_trace_0 : decode cX8_trace 0 = .ok (.aload_n 0, 1) := by decide +kernel
theorem dX8_trace_1 : decode cX8_trace 1 = .ok (.getfield 74, 3) := by decide +kernel
theorem dX8_trace_4 : decode cX8_trace 4 = .ok (.ireturn, 1) := by decide +kernel
theorem dX8_fault_0 : decode cX8_fault 0 = .ok (.aload_n 0, 1) := by decide +kernel
theorem dX8_fault_1 : decode cX8_fault 1 = .ok (.getfield 77, 3) := by decide +kernel
theorem dX8_fault_4 : decode cX8_fault 4 = .ok (.ireturn, 1) := by decide +kernel
theorem dX8_many_0 : decode cX8_many 0 = .ok (.aload_n 0, 1) := by decide +kernel
theorem dX8_many_1 : decode cX8_many 1 = .ok (.getfield 70, 3) := by decide +kernel
theorem dX8_many_4 : decode cX8_many 4 = .ok (.ireturn, 1) := by decide +kernel
theorem dX8_isWord_0 : decode cX8_isWord 0 = .ok (.iload_n 0, 1) := by decide +kernel
theorem dX8_isWord_1 : decode cX8_isWord 1 = .ok (.ifCond .lt 13, 3) := by decide +kernel
theorem dX8_isWord_4 : decode cX8_isWord 4 = .ok (.iload_n 0, 1) := by decide +kernel
theorem dX8_isWord_5 : decode cX8_isWord 5 = .ok (.bipush 8, 2) := by decide +kernel
theorem dX8_isWord_7 : decode cX8_isWord 7 = .ok (.if_icmp .ge 7, 3) := by decide +kernel
theorem dX8_isWord_10 : decode cX8_isWord 10 = .ok (.iconst 1, 1) := by decide +kernel
theorem dX8_isWord_11 : decode cX8_isWord 11 = .ok (.goto 4, 3) := by decide +kernel
theorem dX8_isWord_14 : decode cX8_isWord 14 = .ok (.iconst 0, 1) := by decide +kernel
theorem dX8_isWord_15 : decode cX8_isWord 15 = .ok (.ireturn, 1) := by decide +kernel
theorem dX8_isKind_0 : decode cX8_isKind 0 = .ok (.iload_n 0, 1) := by decide +kernel
theorem dX8_isKind_1 : decode cX8_isKind 1 = .ok (.ifCond .lt 12, 3) := by decide +kernel
theorem dX8_isKind_4 : decode cX8_isKind 4 = .ok (.iload_n 0, 1) := by decide +kernel
theorem dX8_isKind_5 : decode cX8_isKind 5 = .ok (.iconst 3, 1) := by decide +kernel
theorem dX8_isKind_6 : decode cX8_isKind 6 = .ok (.if_icmp .ge 7, 3) := by decide +kernel
theorem dX8_isKind_9 : decode cX8_isKind 9 = .ok (.iconst 1, 1) := by decide +kernel
theorem dX8_isKind_10 : decode cX8_isKind 10 = .ok (.goto 4, 3) := by decide +kernel
theorem dX8_isKind_13 : decode cX8_isKind 13 = .ok (.iconst 0, 1) := by decide +kernel
theorem dX8_isKind_14 : decode cX8_isKind 14 = .ok (.ireturn, 1) := by decide +kernel
theorem dX8_isSort_0 : decode cX8_isSort 0 = .ok (.iload_n 0, 1) := by decide +kernel
theorem dX8_isSort_1 : decode cX8_isSort 1 = .ok (.ifCond .lt 12, 3) := by decide +kernel
theorem dX8_isSort_4 : decode cX8_isSort 4 = .ok (.iload_n 0, 1) := by decide +kernel
theorem dX8_isSort_5 : decode cX8_isSort 5 = .ok (.iconst 3, 1) := by decide +kernel
theorem dX8_isSort_6 : decode cX8_isSort 6 = .ok (.if_icmp .ge 7, 3) := by decide +kernel
theorem dX8_isSort_9 : decode cX8_isSort 9 = .ok (.iconst 1, 1) := by decide +kernel
theorem dX8_isSort_10 : decode cX8_isSort 10 = .ok (.goto 4, 3) := by decide +kernel
theorem dX8_isSort_13 : decode cX8_isSort 13 = .ok (.iconst 0, 1) := by decide +kernel
theorem dX8_isSort_14 : decode cX8_isSort 14 = .ok (.ireturn, 1) := by decide +kernel
theorem dX8_isFirstOrSecond_0 : decode cX8_isFirstOrSecond 0 = .ok (.iload_n 0, 1) := by decide +kernel
theorem dX8_isFirstOrSecond_1 : decode cX8_isFirstOrSecond 1 = .ok (.ifCond .eq 8, 3) := by decide +kernel
theorem dX8_isFirstOrSecond_4 : decode cX8_isFirstOrSecond 4 = .ok (.iload_n 0, 1) := by decide +kernel
theorem dX8_isFirstOrSecond_5 : decode cX8_isFirstOrSecond 5 = .ok (.iconst 1, 1) := by decide +kernel
theorem dX8_isFirstOrSecond_6 : decode cX8_isFirstOrSecond 6 = .ok (.if_icmp .ne 7, 3) := by decide +kernel
theorem dX8_isFirstOrSecond_9 : decode cX8_isFirstOrSecond 9 = .ok (.iconst 1, 1) := by decide +kernel
theorem dX8_isFirstOrSecond_10 : decode cX8_isFirstOrSecond 10 = .ok (.goto 4, 3) := by decide +kernel
theorem dX8_isFirstOrSecond_13 : decode cX8_isFirstOrSecond 13 = .ok (.iconst 0, 1) := by decide +kernel
theorem dX8_isFirstOrSecond_14 : decode cX8_isFirstOrSecond 14 = .ok (.ireturn, 1) := by decide +kernel
theorem dX8_cryOf_0 : decode cX8_cryOf 0 = .ok (.iload_n 1, 1) := by decide +kernel
theorem dX8_cryOf_1 : decode cX8_cryOf 1 = .ok (.ifCond .lt 26, 3) := by decide +kernel
theorem dX8_cryOf_4 : decode cX8_cryOf 4 = .ok (.iload_n 1, 1) := by decide +kernel
theorem dX8_cryOf_5 : decode cX8_cryOf 5 = .ok (.aload_n 0, 1) := by decide +kernel
theorem dX8_cryOf_6 : decode cX8_cryOf 6 = .ok (.getfield 70, 3) := by decide +kernel
theorem dX8_cryOf_9 : decode cX8_cryOf 9 = .ok (.if_icmp .ge 18, 3) := by decide +kernel
theorem dX8_cryOf_12 : decode cX8_cryOf 12 = .ok (.iload_n 1, 1) := by decide +kernel
theorem dX8_cryOf_13 : decode cX8_cryOf 13 = .ok (.bipush 6, 2) := by decide +kernel
theorem dX8_cryOf_15 : decode cX8_cryOf 15 = .ok (.if_icmp .ge 12, 3) := by decide +kernel
theorem dX8_cryOf_18 : decode cX8_cryOf 18 = .ok (.aload_n 0, 1) := by decide +kernel
theorem dX8_cryOf_19 : decode cX8_cryOf 19 = .ok (.getfield 17, 3) := by decide +kernel
theorem dX8_cryOf_22 : decode cX8_cryOf 22 = .ok (.iload_n 1, 1) := by decide +kernel
theorem dX8_cryOf_23 : decode cX8_cryOf 23 = .ok (.aaload, 1) := by decide +kernel
theorem dX8_cryOf_24 : decode cX8_cryOf 24 = .ok (.goto 4, 3) := by decide +kernel
theorem dX8_cryOf_27 : decode cX8_cryOf 27 = .ok (.aconst_null, 1) := by decide +kernel
theorem dX8_cryOf_28 : decode cX8_cryOf 28 = .ok (.areturn, 1) := by decide +kernel
set_option maxRecDepth 20000 in
theorem ggX8_lastCry_X8_cryOf : GoodIn wsX8_lastCry wsX8_cryOf := goodIn_r _ [6, 1, 7, 8, 9, 10, 11, 12, 13, 14, 15, 16, 17, 18, 19, 20] (by decide +kernel) (by decide +kernel)
set_option maxRecDepth 20000 in
theorem gX8_lastCry_X8_cryOf : GoodIn wsX8_lastCry (wsV RX8 115 RX8 yX8_cryOf wsX8_cryOf) := goodIn_app (goodIn_of _ (by decide +kernel)) ggX8_lastCry_X8_cryOf
theorem dX8_lastCry_0 : decode cX8_lastCry 0 = .ok (.aload_n 0, 1) := by decide +kernel
theorem dX8_lastCry_1 : decode cX8_lastCry 1 = .ok (.aload_n 0, 1) := by decide +kernel
theorem dX8_lastCry_2 : decode cX8_lastCry 2 = .ok (.getfield 70, 3) := by decide +kernel
theorem dX8_lastCry_5 : decode cX8_lastCry 5 = .ok (.iconst 1, 1) := by decide +kernel
theorem dX8_lastCry_6 : decode cX8_lastCry 6 = .ok (.isub, 1) := by decide +kernel
theorem dX8_lastCry_7 : decode cX8_lastCry 7 = .ok (.invokevirtual 115, 3) := by decide +kernel
theorem dX8_lastCry_10 : decode cX8_lastCry 10 = .ok (.areturn, 1) := by decide +kernel
theorem dX8_sheetOf_0 : decode cX8_sheetOf 0 = .ok (.iload_n 1, 1) := by decide +kernel
theorem dX8_sheetOf_1 : decode cX8_sheetOf 1 = .ok (.ifCond .lt 17, 3) := by decide +kernel
theorem dX8_sheetOf_4 : decode cX8_sheetOf 4 = .ok (.iload_n 1, 1) := by decide +kernel
theorem dX8_sheetOf_5 : decode cX8_sheetOf 5 = .ok (.iconst 4, 1) := by decide +kernel
theorem dX8_sheetOf_6 : decode cX8_sheetOf 6 = .ok (.if_icmp .ge 12, 3) := by decide +kernel
theorem dX8_sheetOf_9 : decode cX8_sheetOf 9 = .ok (.aload_n 0, 1) := by decide +kernel
theorem dX8_sheetOf_10 : decode cX8_sheetOf 10 = .ok (.getfield 23, 3) := by decide +kernel
theorem dX8_sheetOf_13 : decode cX8_sheetOf 13 = .ok (.iload_n 1, 1) := by decide +kernel
theorem dX8_sheetOf_14 : decode cX8_sheetOf 14 = .ok (.aaload, 1) := by decide +kernel
theorem dX8_sheetOf_15 : decode cX8_sheetOf 15 = .ok (.goto 4, 3) := by decide +kernel
theorem dX8_sheetOf_18 : decode cX8_sheetOf 18 = .ok (.aconst_null, 1) := by decide +kernel
theorem dX8_sheetOf_19 : decode cX8_sheetOf 19 = .ok (.areturn, 1) := by decide +kernel
theorem dX8_fails_0 : decode cX8_fails 0 = .ok (.aload_n 0, 1) := by decide +kernel
theorem dX8_fails_1 : decode cX8_fails 1 = .ok (.iload_n 1, 1) := by decide +kernel
theorem dX8_fails_2 : decode cX8_fails 2 = .ok (.putfield 77, 3) := by decide +kernel
theorem dX8_fails_5 : decode cX8_fails 5 = .ok (.bipush (-10), 2) := by decide +kernel
theorem dX8_fails_7 : decode cX8_fails 7 = .ok (.iload_n 1, 1) := by decide +kernel
theorem dX8_fails_8 : decode cX8_fails 8 = .ok (.isub, 1) := by decide +kernel
theorem dX8_fails_9 : decode cX8_fails 9 = .ok (.ireturn, 1) := by decide +kernel
set_option maxRecDepth 20000 in
theorem ggX8_readingFault_X6_isNothing : GoodIn wsX8_readingFault wsX6_isNothing := goodIn_r _ [5, 6, 12, 13, 14] (by decide +kernel) (by decide +kernel)
set_option maxRecDepth 20000 in
theorem gX8_readingFault_X6_isNothing : GoodIn wsX8_readingFault (wsV RX8 207 RX6 yX6_isNothing wsX6_isNothing) := goodIn_app (goodIn_of _ (by decide +kernel)) ggX8_readingFault_X6_isNothing
set_option maxRecDepth 20000 in
theorem ggX8_readingFault_X6_sort : GoodIn wsX8_readingFault wsX6_sort := goodIn_r _ [10, 11, 12, 13, 14] (by decide +kernel) (by decide +kernel)
set_option maxRecDepth 20000 in
theorem gX8_readingFault_X6_sort : GoodIn wsX8_readingFault (wsV RX8 217 RX6 yX6_sort wsX6_sort) := goodIn_app (goodIn_of _ (by decide +kernel)) ggX8_readingFault_X6_sort
theorem dX8_readingFault_0 : decode cX8_readingFault 0 = .ok (.aload_n 0, 1) := by decide +kernel
theorem dX8_readingFault_1 : decode cX8_readingFault 1 = .ok (.invokevirtual 207, 3) := by decide +kernel
theorem dX8_readingFault_4 : decode cX8_readingFault 4 = .ok (.ifCond .eq 5, 3) := by decide +kernel
theorem dX8_readingFault_7 : decode cX8_readingFault 7 = .ok (.iconst 1, 1) := by decide +kernel
theorem dX8_readingFault_8 : decode cX8_readingFault 8 = .ok (.ireturn, 1) := by decide +kernel
theorem dX8_readingFault_9 : decode cX8_readingFault 9 = .ok (.aload_n 0, 1) := by decide +kernel
theorem dX8_readingFault_10 : decode cX8_readingFault 10 = .ok (.invokevirtual 217, 3) := by decide +kernel
theorem dX8_readingFault_13 : decode cX8_readingFault 13 = .ok (.iload_n 1, 1) := by decide +kernel
theorem dX8_readingFault_14 : decode cX8_readingFault 14 = .ok (.if_icmp .ne 7, 3) := by decide +kernel
theorem dX8_readingFault_17 : decode cX8_readingFault 17 = .ok (.iconst 0, 1) := by decide +kernel
theorem dX8_readingFault_18 : decode cX8_readingFault 18 = .ok (.goto 4, 3) := by decide +kernel
theorem dX8_readingFault_21 : decode cX8_readingFault 21 = .ok (.iconst 2, 1) := by decide +kernel
theorem dX8_readingFault_22 : decode cX8_readingFault 22 = .ok (.ireturn, 1) := by decide +kernel
theorem dX8_isLetter_0 : decode cX8_isLetter 0 = .ok (.iload_n 0, 1) := by decide +kernel
theorem dX8_isLetter_1 : decode cX8_isLetter 1 = .ok (.bipush 97, 2) := by decide +kernel
theorem dX8_isLetter_3 : decode cX8_isLetter 3 = .ok (.if_icmp .lt 13, 3) := by decide +kernel
theorem dX8_isLetter_6 : decode cX8_isLetter 6 = .ok (.iload_n 0, 1) := by decide +kernel
theorem dX8_isLetter_7 : decode cX8_isLetter 7 = .ok (.bipush 105, 2) := by decide +kernel
theorem dX8_isLetter_9 : decode cX8_isLetter 9 = .ok (.if_icmp .ge 7, 3) := by decide +kernel
theorem dX8_isLetter_12 : decode cX8_isLetter 12 = .ok (.iconst 1, 1) := by decide +kernel
theorem dX8_isLetter_13 : decode cX8_isLetter 13 = .ok (.goto 4, 3) := by decide +kernel
theorem dX8_isLetter_16 : decode cX8_isLetter 16 = .ok (.iconst 0, 1) := by decide +kernel
theorem dX8_isLetter_17 : decode cX8_isLetter 17 = .ok (.ireturn, 1) := by decide +kernel
set_option maxRecDepth 20000 in
theorem ggX8_firstFaultOf_X6_at : GoodIn wsX8_firstFaultOf wsX6_at := goodIn_r _ [5, 6, 7, 8, 9, 4, 10, 11, 16, 17, 18] (by decide +kernel) (by decide +kernel)
set_option maxRecDepth 20000 in
theorem gX8_firstFaultOf_X6_at : GoodIn wsX8_firstFaultOf (wsV RX8 216 RX6 yX6_at wsX6_at) := goodIn_app (goodIn_of _ (by decide +kernel)) ggX8_firstFaultOf_X6_at
set_option maxRecDepth 20000 in
theorem ggX8_firstFaultOf_X8_isLetter : GoodIn wsX8_firstFaultOf wsX8_isLetter := goodIn_r _ [15] (by decide +kernel) (by decide +kernel)
set_option maxRecDepth 20000 in
theorem gX8_firstFaultOf_X8_isLetter : GoodIn wsX8_firstFaultOf (va_wsS RX8 239 yX8_isLetter wsX8_isLetter) := goodIn_app (goodIn_of _ (by decide +kernel)) ggX8_firstFaultOf_X8_isLetter
theorem dX8_firstFaultOf_0 : decode cX8_firstFaultOf 0 = .ok (.iconst 1, 1) := by decide +kernel
theorem dX8_firstFaultOf_1 : decode cX8_firstFaultOf 1 = .ok (.istore_n 3, 1) := by decide +kernel
theorem dX8_firstFaultOf_2 : decode cX8_firstFaultOf 2 = .ok (.iconst 0, 1) := by decide +kernel
theorem dX8_firstFaultOf_3 : decode cX8_firstFaultOf 3 = .ok (.istore 4, 2) := by decide +kernel
theorem dX8_firstFaultOf_5 : decode cX8_firstFaultOf 5 = .ok (.iconst 0, 1) := by decide +kernel
theorem dX8_firstFaultOf_6 : decode cX8_firstFaultOf 6 = .ok (.istore 5, 2) := by decide +kernel
theorem dX8_firstFaultOf_8 : decode cX8_firstFaultOf 8 = .ok (.iload 5, 2) := by decide +kernel
theorem dX8_firstFaultOf_10 : decode cX8_firstFaultOf 10 = .ok (.iload_n 2, 1) := by decide +kernel
theorem dX8_firstFaultOf_11 : decode cX8_firstFaultOf 11 = .ok (.if_icmp .ge 70, 3) := by decide +kernel
theorem dX8_firstFaultOf_14 : decode cX8_firstFaultOf 14 = .ok (.aload_n 0, 1) := by decide +kernel
theorem dX8_firstFaultOf_15 : decode cX8_firstFaultOf 15 = .ok (.iload_n 1, 1) := by decide +kernel
theorem dX8_firstFaultOf_16 : decode cX8_firstFaultOf 16 = .ok (.iload 5, 2) := by decide +kernel
theorem dX8_firstFaultOf_18 : decode cX8_firstFaultOf 18 = .ok (.iadd, 1) := by decide +kernel
theorem dX8_firstFaultOf_19 : decode cX8_firstFaultOf 19 = .ok (.invokevirtual 216, 3) := by decide +kernel
theorem dX8_firstFaultOf_22 : decode cX8_firstFaultOf 22 = .ok (.istore 6, 2) := by decide +kernel
theorem dX8_firstFaultOf_24 : decode cX8_firstFaultOf 24 = .ok (.iload 6, 2) := by decide +kernel
theorem dX8_firstFaultOf_26 : decode cX8_firstFaultOf 26 = .ok (.invokestatic 239, 3) := by decide +kernel
theorem dX8_firstFaultOf_29 : decode cX8_firstFaultOf 29 = .ok (.ifCond .eq 16, 3) := by decide +kernel
theorem dX8_firstFaultOf_32 : decode cX8_firstFaultOf 32 = .ok (.iload 4, 2) := by decide +kernel
theorem dX8_firstFaultOf_34 : decode cX8_firstFaultOf 34 = .ok (.bipush 12, 2) := by decide +kernel
theorem dX8_firstFaultOf_36 : decode cX8_firstFaultOf 36 = .ok (.if_icmp .ge 9, 3) := by decide +kernel
theorem dX8_firstFaultOf_39 : decode cX8_firstFaultOf 39 = .ok (.iinc 4 1, 3) := by decide +kernel
theorem dX8_firstFaultOf_42 : decode cX8_firstFaultOf 42 = .ok (.goto 33, 3) := by decide +kernel
theorem dX8_firstFaultOf_45 : decode cX8_firstFaultOf 45 = .ok (.iload 6, 2) := by decide +kernel
theorem dX8_firstFaultOf_47 : decode cX8_firstFaultOf 47 = .ok (.bipush 59, 2) := by decide +kernel
theorem dX8_firstFaultOf_49 : decode cX8_firstFaultOf 49 = .ok (.if_icmp .ne 23, 3) := by decide +kernel
theorem dX8_firstFaultOf_52 : decode cX8_firstFaultOf 52 = .ok (.iload 4, 2) := by decide +kernel
theorem dX8_firstFaultOf_54 : decode cX8_firstFaultOf 54 = .ok (.ifCond .le 18, 3) := by decide +kernel
theorem dX8_firstFaultOf_57 : decode cX8_firstFaultOf 57 = .ok (.iload_n 3, 1) := by decide +kernel
theorem dX8_firstFaultOf_58 : decode cX8_firstFaultOf 58 = .ok (.bipush 6, 2) := by decide +kernel
theorem dX8_firstFaultOf_60 : decode cX8_firstFaultOf 60 = .ok (.if_icmp .ge 12, 3) := by decide +kernel
theorem dX8_firstFaultOf_63 : decode cX8_firstFaultOf 63 = .ok (.iinc 3 1, 3) := by decide +kernel
theorem dX8_firstFaultOf_66 : decode cX8_firstFaultOf 66 = .ok (.iconst 0, 1) := by decide +kernel
theorem dX8_firstFaultOf_67 : decode cX8_firstFaultOf 67 = .ok (.istore 4, 2) := by decide +kernel
theorem dX8_firstFaultOf_69 : decode cX8_firstFaultOf 69 = .ok (.goto 6, 3) := by decide +kernel
theorem dX8_firstFaultOf_72 : decode cX8_firstFaultOf 72 = .ok (.iload 5, 2) := by decide +kernel
theorem dX8_firstFaultOf_74 : decode cX8_firstFaultOf 74 = .ok (.ireturn, 1) := by decide +kernel
theorem dX8_firstFaultOf_75 : decode cX8_firstFaultOf 75 = .ok (.iinc 5 1, 3) := by decide +kernel
theorem dX8_firstFaultOf_78 : decode cX8_firstFaultOf 78 = .ok (.goto (-70), 3) := by decide +kernel
theorem dX8_firstFaultOf_81 : decode cX8_firstFaultOf 81 = .ok (.iload 4, 2) := by decide +kernel
theorem dX8_firstFaultOf_83 : decode cX8_firstFaultOf 83 = .ok (.ifCond .ne 7, 3) := by decide +kernel
theorem dX8_firstFaultOf_86 : decode cX8_firstFaultOf 86 = .ok (.iload_n 2, 1) := by decide +kernel
theorem dX8_firstFaultOf_87 : decode cX8_firstFaultOf 87 = .ok (.goto 5, 3) := by decide +kernel
theorem dX8_firstFaultOf_90 : decode cX8_firstFaultOf 90 = .ok (.bipush (-9), 2) := by decide +kernel
theorem dX8_firstFaultOf_92 : decode cX8_firstFaultOf 92 = .ok (.ireturn, 1) := by decide +kernel
set_option maxRecDepth 20000 in
theorem ggX8_takeText_X8_beginDay : GoodIn wsX8_takeText wsX8_beginDay := goodIn_r _ [6, 1, 7, 8, 9, 5, 10, 11, 12, 13, 14, 15, 16, 17, 18, 19, 20, 21, 49, 50, 51, 52, 53, 54, 55, 56, 57, 58, 59, 60, 61, 62, 63] (by decide +kernel) (by decide +kernel)
set_option maxRecDepth 20000 in
theorem gX8_takeText_X8_beginDay : GoodIn wsX8_takeText (wsV RX8 242 RX8 yX8_beginDay wsX8_beginDay) := goodIn_app (goodIn_of _ (by decide +kernel)) ggX8_takeText_X8_beginDay
set_option maxRecDepth 20000 in
theorem ggX8_takeText_X6_at : GoodIn wsX8_takeText wsX6_at := goodIn_r _ [26, 27, 28, 29, 30, 25, 31, 32, 64, 65, 66] (by decide +kernel) (by decide +kernel)
set_option maxRecDepth 20000 in
theorem gX8_takeText_X6_at : GoodIn wsX8_takeText (wsV RX8 216 RX6 yX6_at wsX6_at) := goodIn_app (goodIn_of _ (by decide +kernel)) ggX8_takeText_X6_at
set_option maxRecDepth 20000 in
theorem ggX8_takeText_X8_lastCry : GoodIn wsX8_takeText wsX8_lastCry := goodIn_r _ [10, 1, 11, 12, 13, 5, 14, 15, 49, 50, 51, 52, 53, 54, 55, 56, 57, 58, 59, 60, 61] (by decide +kernel) (by decide +kernel)
set_option maxRecDepth 20000 in
theorem gX8_takeText_X8_lastCry : GoodIn wsX8_takeText (wsV RX8 129 RX8 yX8_lastCry wsX8_lastCry) := goodIn_app (goodIn_of _ (by decide +kernel)) ggX8_takeText_X8_lastCry
set_option maxRecDepth 20000 in
theorem ggX8_takeText_X8_isLetter : GoodIn wsX8_takeText wsX8_isLetter := goodIn_r _ [35] (by decide +kernel) (by decide +kernel)
set_option maxRecDepth 20000 in
theorem gX8_takeText_X8_isLetter : GoodIn wsX8_takeText (va_wsS RX8 239 yX8_isLetter wsX8_isLetter) := goodIn_app (goodIn_of _ (by decide +kernel)) ggX8_takeText_X8_isLetter
set_option maxRecDepth 20000 in
theorem ggX8_takeText_X2_size : GoodIn wsX8_takeText wsX2_size := goodIn_r _ [39, 21, 62, 63] (by decide +kernel) (by decide +kernel)
set_option maxRecDepth 20000 in
theorem gX8_takeText_X2_size : GoodIn wsX8_takeText (wsV RX8 119 RX2 yX2_size wsX2_size) := goodIn_app (goodIn_of _ (by decide +kernel)) ggX8_takeText_X2_size
set_option maxRecDepth 20000 in
theorem ggX8_takeText_X2_insert : GoodIn wsX8_takeText wsX2_insert := goodIn_r _ [43, 21, 44, 45, 46, 47, 19, 48, 62, 63] (by decide +kernel) (by decide +kernel)
set_option maxRecDepth 20000 in
theorem gX8_takeText_X2_insert : GoodIn wsX8_takeText (wsV RX8 137 RX2 yX2_insert wsX2_insert) := goodIn_app (goodIn_of _ (by decide +kernel)) ggX8_takeText_X2_insert
theorem dX8_takeText_0 : decode cX8_takeText 0 = .ok (.aload_n 0, 1) := by decide +kernel
theorem dX8_takeText_1 : decode cX8_takeText 1 = .ok (.iconst 0, 1) := by decide +kernel
theorem dX8_takeText_2 : decode cX8_takeText 2 = .ok (.putfield 70, 3) := by decide +kernel
theorem dX8_takeText_5 : decode cX8_takeText 5 = .ok (.aload_n 0, 1) := by decide +kernel
theorem dX8_takeText_6 : decode cX8_takeText 6 = .ok (.invokevirtual 242, 3) := by decide +kernel
theorem dX8_takeText_9 : decode cX8_takeText 9 = .ok (.iconst 0, 1) := by decide +kernel
theorem dX8_takeText_10 : decode cX8_takeText 10 = .ok (.istore 4, 2) := by decide +kernel
theorem dX8_takeText_12 : decode cX8_takeText 12 = .ok (.iload 4, 2) := by decide +kernel
theorem dX8_takeText_14 : decode cX8_takeText 14 = .ok (.iload_n 3, 1) := by decide +kernel
theorem dX8_takeText_15 : decode cX8_takeText 15 = .ok (.if_icmp .ge 67, 3) := by decide +kernel
theorem dX8_takeText_18 : decode cX8_takeText 18 = .ok (.aload_n 1, 1) := by decide +kernel
theorem dX8_takeText_19 : decode cX8_takeText 19 = .ok (.iload_n 2, 1) := by decide +kernel
theorem dX8_takeText_20 : decode cX8_takeText 20 = .ok (.iload 4, 2) := by decide +kernel
theorem dX8_takeText_22 : decode cX8_takeText 22 = .ok (.iadd, 1) := by decide +kernel
theorem dX8_takeText_23 : decode cX8_takeText 23 = .ok (.invokevirtual 216, 3) := by decide +kernel
theorem dX8_takeText_26 : decode cX8_takeText 26 = .ok (.istore 5, 2) := by decide +kernel
theorem dX8_takeText_28 : decode cX8_takeText 28 = .ok (.aload_n 0, 1) := by decide +kernel
theorem dX8_takeText_29 : decode cX8_takeText 29 = .ok (.invokevirtual 129, 3) := by decide +kernel
theorem dX8_takeText_32 : decode cX8_takeText 32 = .ok (.astore 6, 2) := by decide +kernel
theorem dX8_takeText_34 : decode cX8_takeText 34 = .ok (.iload 5, 2) := by decide +kernel
theorem dX8_takeText_36 : decode cX8_takeText 36 = .ok (.bipush 59, 2) := by decide +kernel
theorem dX8_takeText_38 : decode cX8_takeText 38 = .ok (.if_icmp .ne 10, 3) := by decide +kernel
theorem dX8_takeText_41 : decode cX8_takeText 41 = .ok (.aload_n 0, 1) := by decide +kernel
theorem dX8_takeText_42 : decode cX8_takeText 42 = .ok (.invokevirtual 242, 3) := by decide +kernel
theorem dX8_takeText_45 : decode cX8_takeText 45 = .ok (.goto 31, 3) := by decide +kernel
theorem dX8_takeText_48 : decode cX8_takeText 48 = .ok (.aload 6, 2) := by decide +kernel
theorem dX8_takeText_50 : decode cX8_takeText 50 = .ok (.ifnull 26, 3) := by decide +kernel
theorem dX8_takeText_53 : decode cX8_takeText 53 = .ok (.iload 5, 2) := by decide +kernel
theorem dX8_takeText_55 : decode cX8_takeText 55 = .ok (.invokestatic 239, 3) := by decide +kernel
theorem dX8_takeText_58 : decode cX8_takeText 58 = .ok (.ifCond .eq 18, 3) := by decide +kernel
theorem dX8_takeText_61 : decode cX8_takeText 61 = .ok (.aload 6, 2) := by decide +kernel
theorem dX8_takeText_63 : decode cX8_takeText 63 = .ok (.aload 6, 2) := by decide +kernel
theorem dX8_takeText_65 : decode cX8_takeText 65 = .ok (.invokevirtual 119, 3) := by decide +kernel
theorem dX8_takeText_68 : decode cX8_takeText 68 = .ok (.iload 5, 2) := by decide +kernel
theorem dX8_takeText_70 : decode cX8_takeText 70 = .ok (.bipush 97, 2) := by decide +kernel
theorem dX8_takeText_72 : decode cX8_takeText 72 = .ok (.isub, 1) := by decide +kernel
theorem dX8_takeText_73 : decode cX8_takeText 73 = .ok (.invokevirtual 137, 3) := by decide +kernel
theorem dX8_takeText_76 : decode cX8_takeText 76 = .ok (.iinc 4 1, 3) := by decide +kernel
theorem dX8_takeText_79 : decode cX8_takeText 79 = .ok (.goto (-67), 3) := by decide +kernel
theorem dX8_takeText_82 : decode cX8_takeText 82 = .ok (.return_, 1) := by decide +kernel
set_option maxRecDepth 20000 in
theorem ggX8_beginDay_X8_lastCry : GoodIn wsX8_beginDay wsX8_lastCry := goodIn_r _ [6, 1, 7, 8, 9, 5, 10, 11, 18, 19, 20, 21, 22, 23, 24, 25, 26, 27, 28, 29, 30] (by decide +kernel) (by decide +kernel)
set_option maxRecDepth 20000 in
theorem gX8_beginDay_X8_lastCry : GoodIn wsX8_beginDay (wsV RX8 129 RX8 yX8_lastCry wsX8_lastCry) := goodIn_app (goodIn_of _ (by decide +kernel)) ggX8_beginDay_X8_lastCry
set_option maxRecDepth 20000 in
theorem ggX8_beginDay_X2_clear : GoodIn wsX8_beginDay wsX2_clear := goodIn_r _ [16, 17, 31, 32] (by decide +kernel) (by decide +kernel)
set_option maxRecDepth 20000 in
theorem gX8_beginDay_X2_clear : GoodIn wsX8_beginDay (wsV RX8 245 RX2 yX2_clear wsX2_clear) := goodIn_app (goodIn_of _ (by decide +kernel)) ggX8_beginDay_X2_clear
theorem dX8_beginDay_0 : decode cX8_beginDay 0 = .ok (.aload_n 0, 1) := by decide +kernel
theorem dX8_beginDay_1 : decode cX8_beginDay 1 = .ok (.getfield 70, 3) := by decide +kernel
theorem dX8_beginDay_4 : decode cX8_beginDay 4 = .ok (.bipush 6, 2) := by decide +kernel
theorem dX8_beginDay_6 : decode cX8_beginDay 6 = .ok (.if_icmp .lt 4, 3) := by decide +kernel
theorem dX8_beginDay_9 : decode cX8_beginDay 9 = .ok (.return_, 1) := by decide +kernel
theorem dX8_beginDay_10 : decode cX8_beginDay 10 = .ok (.aload_n 0, 1) := by decide +kernel
theorem dX8_beginDay_11 : decode cX8_beginDay 11 = .ok (.dup, 1) := by decide +kernel
theorem dX8_beginDay_12 : decode cX8_beginDay 12 = .ok (.getfield 70, 3) := by decide +kernel
theorem dX8_beginDay_15 : decode cX8_beginDay 15 = .ok (.iconst 1, 1) := by decide +kernel
theorem dX8_beginDay_16 : decode cX8_beginDay 16 = .ok (.iadd, 1) := by decide +kernel
theorem dX8_beginDay_17 : decode cX8_beginDay 17 = .ok (.putfield 70, 3) := by decide +kernel
theorem dX8_beginDay_20 : decode cX8_beginDay 20 = .ok (.aload_n 0, 1) := by decide +kernel
theorem dX8_beginDay_21 : decode cX8_beginDay 21 = .ok (.invokevirtual 129, 3) := by decide +kernel
theorem dX8_beginDay_24 : decode cX8_beginDay 24 = .ok (.astore_n 1, 1) := by decide +kernel
theorem dX8_beginDay_25 : decode cX8_beginDay 25 = .ok (.aload_n 1, 1) := by decide +kernel
theorem dX8_beginDay_26 : decode cX8_beginDay 26 = .ok (.ifnull 7, 3) := by decide +kernel
theorem dX8_beginDay_29 : decode cX8_beginDay 29 = .ok (.aload_n 1, 1) := by decide +kernel
theorem dX8_beginDay_30 : decode cX8_beginDay 30 = .ok (.invokevirtual 245, 3) := by decide +kernel
theorem dX8_beginDay_33 : decode cX8_beginDay 33 = .ok (.return_, 1) := by decide +kernel
set_option maxRecDepth 20000 in
theorem ggX8_fewestBreaths_X2_size : GoodIn wsX8_fewestBreaths wsX2_size := goodIn_r _ [13, 14, 46, 47] (by decide +kernel) (by decide +kernel)
set_option maxRecDepth 20000 in
theorem gX8_fewestBreaths_X2_size : GoodIn wsX8_fewestBreaths (wsV RX8 119 RX2 yX2_size wsX2_size) := goodIn_app (goodIn_of _ (by decide +kernel)) ggX8_fewestBreaths_X2_size
set_option maxRecDepth 20000 in
theorem ggX8_fewestBreaths_X2_at : GoodIn wsX8_fewestBreaths wsX2_at := goodIn_r _ [18, 19, 20, 21, 22, 12, 23, 14, 46, 47] (by decide +kernel) (by decide +kernel)
set_option maxRecDepth 20000 in
theorem gX8_fewestBreaths_X2_at : GoodIn wsX8_fewestBreaths (wsV RX8 126 RX2 yX2_at wsX2_at) := goodIn_app (goodIn_of _ (by decide +kernel)) ggX8_fewestBreaths_X2_at
set_option maxRecDepth 20000 in
theorem ggX8_fewestBreaths_X8_isDenial : GoodIn wsX8_fewestBreaths wsX8_isDenial := goodIn_r _ [28, 29, 30, 31, 27, 32, 33, 34, 35, 36, 37, 38, 39, 40, 41, 42, 43, 44, 45] (by decide +kernel) (by decide +kernel)
set_option maxRecDepth 20000 in
theorem gX8_fewestBreaths_X8_isDenial : GoodIn wsX8_fewestBreaths (wsV RX8 254 RX8 yX8_isDenial wsX8_isDenial) := goodIn_app (goodIn_of _ (by decide +kernel)) ggX8_fewestBreaths_X8_isDenial
theorem dX8_fewestBreaths_0 : decode cX8_fewestBreaths 0 = .ok (.aload_n 0, 1) := by decide +kernel
theorem dX8_fewestBreaths_1 : decode cX8_fewestBreaths 1 = .ok (.getfield 67, 3) := by decide +kernel
theorem dX8_fewestBreaths_4 : decode cX8_fewestBreaths 4 = .ok (.iconst 0, 1) := by decide +kernel
theorem dX8_fewestBreaths_5 : decode cX8_fewestBreaths 5 = .ok (.iconst 0, 1) := by decide +kernel
theorem dX8_fewestBreaths_6 : decode cX8_fewestBreaths 6 = .ok (.iastore, 1) := by decide +kernel
theorem dX8_fewestBreaths_7 : decode cX8_fewestBreaths 7 = .ok (.aload_n 1, 1) := by decide +kernel
theorem dX8_fewestBreaths_8 : decode cX8_fewestBreaths 8 = .ok (.invokevirtual 119, 3) := by decide +kernel
theorem dX8_fewestBreaths_11 : decode cX8_fewestBreaths 11 = .ok (.bipush 12, 2) := by decide +kernel
theorem dX8_fewestBreaths_13 : decode cX8_fewestBreaths 13 = .ok (.invokestatic 248, 3) := by decide +kernel
theorem dX8_fewestBreaths_16 : decode cX8_fewestBreaths 16 = .ok (.istore_n 3, 1) := by decide +kernel
theorem dX8_fewestBreaths_17 : decode cX8_fewestBreaths 17 = .ok (.iconst 1, 1) := by decide +kernel
theorem dX8_fewestBreaths_18 : decode cX8_fewestBreaths 18 = .ok (.istore 4, 2) := by decide +kernel
theorem dX8_fewestBreaths_20 : decode cX8_fewestBreaths 20 = .ok (.iload 4, 2) := by decide +kernel
theorem dX8_fewestBreaths_22 : decode cX8_fewestBreaths 22 = .ok (.iload_n 3, 1) := by decide +kernel
theorem dX8_fewestBreaths_23 : decode cX8_fewestBreaths 23 = .ok (.if_icmp .gt 121, 3) := by decide +kernel
theorem dX8_fewestBreaths_26 : decode cX8_fewestBreaths 26 = .ok (.aload_n 0, 1) := by decide +kernel
theorem dX8_fewestBreaths_27 : decode cX8_fewestBreaths 27 = .ok (.getfield 67, 3) := by decide +kernel
theorem dX8_fewestBreaths_30 : decode cX8_fewestBreaths 30 = .ok (.iload 4, 2) := by decide +kernel
theorem dX8_fewestBreaths_32 : decode cX8_fewestBreaths 32 = .ok (.bipush (-9), 2) := by decide +kernel
theorem dX8_fewestBreaths_34 : decode cX8_fewestBreaths 34 = .ok (.iastore, 1) := by decide +kernel
theorem dX8_fewestBreaths_35 : decode cX8_fewestBreaths 35 = .ok (.iload 4, 2) := by decide +kernel
theorem dX8_fewestBreaths_37 : decode cX8_fewestBreaths 37 = .ok (.iload_n 3, 1) := by decide +kernel
theorem dX8_fewestBreaths_38 : decode cX8_fewestBreaths 38 = .ok (.if_icmp .ge 21, 3) := by decide +kernel
theorem dX8_fewestBreaths_41 : decode cX8_fewestBreaths 41 = .ok (.aload_n 0, 1) := by decide +kernel
theorem dX8_fewestBreaths_42 : decode cX8_fewestBreaths 42 = .ok (.aload_n 1, 1) := by decide +kernel
theorem dX8_fewestBreaths_43 : decode cX8_fewestBreaths 43 = .ok (.iload 4, 2) := by decide +kernel
theorem dX8_fewestBreaths_45 : decode cX8_fewestBreaths 45 = .ok (.iconst 1, 1) := by decide +kernel
theorem dX8_fewestBreaths_46 : decode cX8_fewestBreaths 46 = .ok (.isub, 1) := by decide +kernel
theorem dX8_fewestBreaths_47 : decode cX8_fewestBreaths 47 = .ok (.invokevirtual 126, 3) := by decide +kernel
theorem dX8_fewestBreaths_50 : decode cX8_fewestBreaths 50 = .ok (.invokevirtual 254, 3) := by decide +kernel
theorem dX8_fewestBreaths_53 : decode cX8_fewestBreaths 53 = .ok (.ifCond .eq 6, 3) := by decide +kernel
theorem dX8_fewestBreaths_56 : decode cX8_fewestBreaths 56 = .ok (.goto 82, 3) := by decide +kernel
theorem dX8_fewestBreaths_59 : decode cX8_fewestBreaths 59 = .ok (.iconst 0, 1) := by decide +kernel
theorem dX8_fewestBreaths_60 : decode cX8_fewestBreaths 60 = .ok (.iload 4, 2) := by decide +kernel
theorem dX8_fewestBreaths_62 : decode cX8_fewestBreaths 62 = .ok (.iload_n 2, 1) := by decide +kernel
theorem dX8_fewestBreaths_63 : decode cX8_fewestBreaths 63 = .ok (.isub, 1) := by decide +kernel
theorem dX8_fewestBreaths_64 : decode cX8_fewestBreaths 64 = .ok (.invokestatic 257, 3) := by decide +kernel
theorem dX8_fewestBreaths_67 : decode cX8_fewestBreaths 67 = .ok (.istore 5, 2) := by decide +kernel
theorem dX8_fewestBreaths_69 : decode cX8_fewestBreaths 69 = .ok (.iload 5, 2) := by decide +kernel
theorem dX8_fewestBreaths_71 : decode cX8_fewestBreaths 71 = .ok (.iload 4, 2) := by decide +kernel
theorem dX8_fewestBreaths_73 : decode cX8_fewestBreaths 73 = .ok (.if_icmp .ge 65, 3) := by decide +kernel
theorem dX8_fewestBreaths_76 : decode cX8_fewestBreaths 76 = .ok (.aload_n 0, 1) := by decide +kernel
theorem dX8_fewestBreaths_77 : decode cX8_fewestBreaths 77 = .ok (.getfield 67, 3) := by decide +kernel
theorem dX8_fewestBreaths_80 : decode cX8_fewestBreaths 80 = .ok (.iload 5, 2) := by decide +kernel
theorem dX8_fewestBreaths_82 : decode cX8_fewestBreaths 82 = .ok (.iaload, 1) := by decide +kernel
theorem dX8_fewestBreaths_83 : decode cX8_fewestBreaths 83 = .ok (.iconst 1, 1) := by decide +kernel
theorem dX8_fewestBreaths_84 : decode cX8_fewestBreaths 84 = .ok (.iadd, 1) := by decide +kernel
theorem dX8_fewestBreaths_85 : decode cX8_fewestBreaths 85 = .ok (.istore 6, 2) := by decide +kernel
theorem dX8_fewestBreaths_87 : decode cX8_fewestBreaths 87 = .ok (.aload_n 0, 1) := by decide +kernel
theorem dX8_fewestBreaths_88 : decode cX8_fewestBreaths 88 = .ok (.getfield 67, 3) := by decide +kernel
theorem dX8_fewestBreaths_91 : decode cX8_fewestBreaths 91 = .ok (.iload 5, 2) := by decide +kernel
theorem dX8_fewestBreaths_93 : decode cX8_fewestBreaths 93 = .ok (.iaload, 1) := by decide +kernel
theorem dX8_fewestBreaths_94 : decode cX8_fewestBreaths 94 = .ok (.bipush (-9), 2) := by decide +kernel
theorem dX8_fewestBreaths_96 : decode cX8_fewestBreaths 96 = .ok (.if_icmp .eq 36, 3) := by decide +kernel
theorem dX8_fewestBreaths_99 : decode cX8_fewestBreaths 99 = .ok (.aload_n 0, 1) := by decide +kernel
theorem dX8_fewestBreaths_100 : decode cX8_fewestBreaths 100 = .ok (.getfield 67, 3) := by decide +kernel
theorem dX8_fewestBreaths_103 : decode cX8_fewestBreaths 103 = .ok (.iload 4, 2) := by decide +kernel
theorem dX8_fewestBreaths_105 : decode cX8_fewestBreaths 105 = .ok (.iaload, 1) := by decide +kernel
theorem dX8_fewestBreaths_106 : decode cX8_fewestBreaths 106 = .ok (.bipush (-9), 2) := by decide +kernel
theorem dX8_fewestBreaths_108 : decode cX8_fewestBreaths 108 = .ok (.if_icmp .eq 15, 3) := by decide +kernel
theorem dX8_fewestBreaths_111 : decode cX8_fewestBreaths 111 = .ok (.iload 6, 2) := by decide +kernel
theorem dX8_fewestBreaths_113 : decode cX8_fewestBreaths 113 = .ok (.aload_n 0, 1) := by decide +kernel
theorem dX8_fewestBreaths_114 : decode cX8_fewestBreaths 114 = .ok (.getfield 67, 3) := by decide +kernel
theorem dX8_fewestBreaths_117 : decode cX8_fewestBreaths 117 = .ok (.iload 4, 2) := by decide +kernel
theorem dX8_fewestBreaths_119 : decode cX8_fewestBreaths 119 = .ok (.iaload, 1) := by decide +kernel
theorem dX8_fewestBreaths_120 : decode cX8_fewestBreaths 120 = .ok (.if_icmp .ge 12, 3) := by decide +kernel
theorem dX8_fewestBreaths_123 : decode cX8_fewestBreaths 123 = .ok (.aload_n 0, 1) := by decide +kernel
theorem dX8_fewestBreaths_124 : decode cX8_fewestBreaths 124 = .ok (.getfield 67, 3) := by decide +kernel
theorem dX8_fewestBreaths_127 : decode cX8_fewestBreaths 127 = .ok (.iload 4, 2) := by decide +kernel
theorem dX8_fewestBreaths_129 : decode cX8_fewestBreaths 129 = .ok (.iload 6, 2) := by decide +kernel
theorem dX8_fewestBreaths_131 : decode cX8_fewestBreaths 131 = .ok (.iastore, 1) := by decide +kernel
theorem dX8_fewestBreaths_132 : decode cX8_fewestBreaths 132 = .ok (.iinc 5 1, 3) := by decide +kernel
theorem dX8_fewestBreaths_135 : decode cX8_fewestBreaths 135 = .ok (.goto (-66), 3) := by decide +kernel
theorem dX8_fewestBreaths_138 : decode cX8_fewestBreaths 138 = .ok (.iinc 4 1, 3) := by decide +kernel
theorem dX8_fewestBreaths_141 : decode cX8_fewestBreaths 141 = .ok (.goto (-121), 3) := by decide +kernel
theorem dX8_fewestBreaths_144 : decode cX8_fewestBreaths 144 = .ok (.aload_n 0, 1) := by decide +kernel
theorem dX8_fewestBreaths_145 : decode cX8_fewestBreaths 145 = .ok (.getfield 67, 3) := by decide +kernel
theorem dX8_fewestBreaths_148 : decode cX8_fewestBreaths 148 = .ok (.iload_n 3, 1) := by decide +kernel
theorem dX8_fewestBreaths_149 : decode cX8_fewestBreaths 149 = .ok (.iaload, 1) := by decide +kernel
theorem dX8_fewestBreaths_150 : decode cX8_fewestBreaths 150 = .ok (.ireturn, 1) := by decide +kernel
set_option maxRecDepth 20000 in
theorem ggX8_isDenial_X8_isWord : GoodIn wsX8_isDenial wsX8_isWord := goodIn_r _ [5] (by decide +kernel) (by decide +kernel)
set_option maxRecDepth 20000 in
theorem gX8_isDenial_X8_isWord : GoodIn wsX8_isDenial (va_wsS RX8 109 yX8_isWord wsX8_isWord) := goodIn_app (goodIn_of _ (by decide +kernel)) ggX8_isDenial_X8_isWord
theorem dX8_isDenial_0 : decode cX8_isDenial 0 = .ok (.iload_n 1, 1) := by decide +kernel
theorem dX8_isDenial_1 : decode cX8_isDenial 1 = .ok (.invokestatic 109, 3) := by decide +kernel
theorem dX8_isDenial_4 : decode cX8_isDenial 4 = .ok (.ifCond .eq 17, 3) := by decide +kernel
theorem dX8_isDenial_7 : decode cX8_isDenial 7 = .ok (.aload_n 0, 1) := by decide +kernel
theorem dX8_isDenial_8 : decode cX8_isDenial 8 = .ok (.getfield 11, 3) := by decide +kernel
theorem dX8_isDenial_11 : decode cX8_isDenial 11 = .ok (.iload_n 1, 1) := by decide +kernel
theorem dX8_isDenial_12 : decode cX8_isDenial 12 = .ok (.iaload, 1) := by decide +kernel
theorem dX8_isDenial_13 : decode cX8_isDenial 13 = .ok (.iconst 1, 1) := by decide +kernel
theorem dX8_isDenial_14 : decode cX8_isDenial 14 = .ok (.if_icmp .lt 7, 3) := by decide +kernel
theorem dX8_isDenial_17 : decode cX8_isDenial 17 = .ok (.iconst 1, 1) := by decide +kernel
theorem dX8_isDenial_18 : decode cX8_isDenial 18 = .ok (.goto 4, 3) := by decide +kernel
theorem dX8_isDenial_21 : decode cX8_isDenial 21 = .ok (.iconst 0, 1) := by decide +kernel
theorem dX8_isDenial_22 : decode cX8_isDenial 22 = .ok (.ireturn, 1) := by decide +kernel
set_option maxRecDepth 20000 in
theorem ggX8_longestPartAt_X2_size : GoodIn wsX8_longestPartAt wsX2_size := goodIn_r _ [9, 10, 25, 26] (by decide +kernel) (by decide +kernel)
set_option maxRecDepth 20000 in
theorem gX8_longestPartAt_X2_size : GoodIn wsX8_longestPartAt (wsV RX8 119 RX2 yX2_size wsX2_size) := goodIn_app (goodIn_of _ (by decide +kernel)) ggX8_longestPartAt_X2_size
set_option maxRecDepth 20000 in
theorem ggX8_longestPartAt_X8_likeOnEnd : GoodIn wsX8_longestPartAt wsX8_likeOnEnd := goodIn_r _ [14, 15, 16, 17, 8, 18, 10, 19, 20, 21, 22, 23, 24, 25, 26] (by decide +kernel) (by decide +kernel)
set_option maxRecDepth 20000 in
theorem gX8_longestPartAt_X8_likeOnEnd : GoodIn wsX8_longestPartAt (va_wsS RX8 260 yX8_likeOnEnd wsX8_likeOnEnd) := goodIn_app (goodIn_of _ (by decide +kernel)) ggX8_longestPartAt_X8_likeOnEnd
theorem dX8_longestPartAt_0 : decode cX8_longestPartAt 0 = .ok (.iconst 0, 1) := by decide +kernel
theorem dX8_longestPartAt_1 : decode cX8_longestPartAt 1 = .ok (.istore_n 3, 1) := by decide +kernel
theorem dX8_longestPartAt_2 : decode cX8_longestPartAt 2 = .ok (.iconst 0, 1) := by decide +kernel
theorem dX8_longestPartAt_3 : decode cX8_longestPartAt 3 = .ok (.istore 4, 2) := by decide +kernel
theorem dX8_longestPartAt_5 : decode cX8_longestPartAt 5 = .ok (.iload 4, 2) := by decide +kernel
theorem dX8_longestPartAt_7 : decode cX8_longestPartAt 7 = .ok (.aload_n 2, 1) := by decide +kernel
theorem dX8_longestPartAt_8 : decode cX8_longestPartAt 8 = .ok (.invokevirtual 119, 3) := by decide +kernel
theorem dX8_longestPartAt_11 : decode cX8_longestPartAt 11 = .ok (.if_icmp .ge 22, 3) := by decide +kernel
theorem dX8_longestPartAt_14 : decode cX8_longestPartAt 14 = .ok (.iload_n 3, 1) := by decide +kernel
theorem dX8_longestPartAt_15 : decode cX8_longestPartAt 15 = .ok (.aload_n 0, 1) := by decide +kernel
theorem dX8_longestPartAt_16 : decode cX8_longestPartAt 16 = .ok (.iload_n 1, 1) := by decide +kernel
theorem dX8_longestPartAt_17 : decode cX8_longestPartAt 17 = .ok (.aload_n 2, 1) := by decide +kernel
theorem dX8_longestPartAt_18 : decode cX8_longestPartAt 18 = .ok (.iload 4, 2) := by decide +kernel
theorem dX8_longestPartAt_20 : decode cX8_longestPartAt 20 = .ok (.invokestatic 260, 3) := by decide +kernel
theorem dX8_longestPartAt_23 : decode cX8_longestPartAt 23 = .ok (.invokestatic 257, 3) := by decide +kernel
theorem dX8_longestPartAt_26 : decode cX8_longestPartAt 26 = .ok (.istore_n 3, 1) := by decide +kernel
theorem dX8_longestPartAt_27 : decode cX8_longestPartAt 27 = .ok (.iinc 4 1, 3) := by decide +kernel
theorem dX8_longestPartAt_30 : decode cX8_longestPartAt 30 = .ok (.goto (-25), 3) := by decide +kernel
theorem dX8_longestPartAt_33 : decode cX8_longestPartAt 33 = .ok (.iload_n 3, 1) := by decide +kernel
theorem dX8_longestPartAt_34 : decode cX8_longestPartAt 34 = .ok (.ireturn, 1) := by decide +kernel
set_option maxRecDepth 20000 in
theorem ggX8_likeOnEnd_X2_has : GoodIn wsX8_likeOnEnd wsX2_has := goodIn_r _ [5, 6, 13, 14] (by decide +kernel) (by decide +kernel)
set_option maxRecDepth 20000 in
theorem gX8_likeOnEnd_X2_has : GoodIn wsX8_likeOnEnd (wsV RX8 123 RX2 yX2_has wsX2_has) := goodIn_app (goodIn_of _ (by decide +kernel)) ggX8_likeOnEnd_X2_has
set_option maxRecDepth 20000 in
theorem ggX8_likeOnEnd_X2_at : GoodIn wsX8_likeOnEnd wsX2_at := goodIn_r _ [10, 11, 12, 2, 3, 4, 5, 6, 13, 14] (by decide +kernel) (by decide +kernel)
set_option maxRecDepth 20000 in
theorem gX8_likeOnEnd_X2_at : GoodIn wsX8_likeOnEnd (wsV RX8 126 RX2 yX2_at wsX2_at) := goodIn_app (goodIn_of _ (by decide +kernel)) ggX8_likeOnEnd_X2_at
theorem dX8_likeOnEnd_0 : decode cX8_likeOnEnd 0 = .ok (.iconst 0, 1) := by decide +kernel
theorem dX8_likeOnEnd_1 : decode cX8_likeOnEnd 1 = .ok (.istore 4, 2) := by decide +kernel
theorem dX8_likeOnEnd_3 : decode cX8_likeOnEnd 3 = .ok (.iload 4, 2) := by decide +kernel
theorem dX8_likeOnEnd_5 : decode cX8_likeOnEnd 5 = .ok (.bipush 12, 2) := by decide +kernel
theorem dX8_likeOnEnd_7 : decode cX8_likeOnEnd 7 = .ok (.if_icmp .ge 42, 3) := by decide +kernel
theorem dX8_likeOnEnd_10 : decode cX8_likeOnEnd 10 = .ok (.aload_n 0, 1) := by decide +kernel
theorem dX8_likeOnEnd_11 : decode cX8_likeOnEnd 11 = .ok (.iload_n 1, 1) := by decide +kernel
theorem dX8_likeOnEnd_12 : decode cX8_likeOnEnd 12 = .ok (.iload 4, 2) := by decide +kernel
theorem dX8_likeOnEnd_14 : decode cX8_likeOnEnd 14 = .ok (.iadd, 1) := by decide +kernel
theorem dX8_likeOnEnd_15 : decode cX8_likeOnEnd 15 = .ok (.invokevirtual 123, 3) := by decide +kernel
theorem dX8_likeOnEnd_18 : decode cX8_likeOnEnd 18 = .ok (.ifCond .eq 22, 3) := by decide +kernel
theorem dX8_likeOnEnd_21 : decode cX8_likeOnEnd 21 = .ok (.aload_n 0, 1) := by decide +kernel
theorem dX8_likeOnEnd_22 : decode cX8_likeOnEnd 22 = .ok (.iload_n 1, 1) := by decide +kernel
theorem dX8_likeOnEnd_23 : decode cX8_likeOnEnd 23 = .ok (.iload 4, 2) := by decide +kernel
theorem dX8_likeOnEnd_25 : decode cX8_likeOnEnd 25 = .ok (.iadd, 1) := by decide +kernel
theorem dX8_likeOnEnd_26 : decode cX8_likeOnEnd 26 = .ok (.invokevirtual 126, 3) := by decide +kernel
theorem dX8_likeOnEnd_29 : decode cX8_likeOnEnd 29 = .ok (.aload_n 2, 1) := by decide +kernel
theorem dX8_likeOnEnd_30 : decode cX8_likeOnEnd 30 = .ok (.iload_n 3, 1) := by decide +kernel
theorem dX8_likeOnEnd_31 : decode cX8_likeOnEnd 31 = .ok (.iload 4, 2) := by decide +kernel
theorem dX8_likeOnEnd_33 : decode cX8_likeOnEnd 33 = .ok (.iadd, 1) := by decide +kernel
theorem dX8_likeOnEnd_34 : decode cX8_likeOnEnd 34 = .ok (.invokevirtual 126, 3) := by decide +kernel
theorem dX8_likeOnEnd_37 : decode cX8_likeOnEnd 37 = .ok (.if_icmp .eq 6, 3) := by decide +kernel
theorem dX8_likeOnEnd_40 : decode cX8_likeOnEnd 40 = .ok (.iload 4, 2) := by decide +kernel
theorem dX8_likeOnEnd_42 : decode cX8_likeOnEnd 42 = .ok (.ireturn, 1) := by decide +kernel
theorem dX8_likeOnEnd_43 : decode cX8_likeOnEnd 43 = .ok (.iinc 4 1, 3) := by decide +kernel
theorem dX8_likeOnEnd_46 : decode cX8_likeOnEnd 46 = .ok (.goto (-43), 3) := by decide +kernel
theorem dX8_likeOnEnd_49 : decode cX8_likeOnEnd 49 = .ok (.bipush 12, 2) := by decide +kernel
theorem dX8_likeOnEnd_51 : decode cX8_likeOnEnd 51 = .ok (.ireturn, 1) := by decide +kernel
theorem dX8_leave_0 : decode cX8_leave 0 = .ok (.aload_n 0, 1) := by decide +kernel
theorem dX8_leave_1 : decode cX8_leave 1 = .ok (.bipush 31, 2) := by decide +kernel
theorem dX8_leave_3 : decode cX8_leave 3 = .ok (.aload_n 0, 1) := by decide +kernel
theorem dX8_leave_4 : decode cX8_leave 4 = .ok (.getfield 74, 3) := by decide +kernel
theorem dX8_leave_7 : decode cX8_leave 7 = .ok (.imul, 1) := by decide +kernel
theorem dX8_leave_8 : decode cX8_leave 8 = .ok (.iload_n 1, 1) := by decide +kernel
theorem dX8_leave_9 : decode cX8_leave 9 = .ok (.iadd, 1) := by decide +kernel
theorem dX8_leave_10 : decode cX8_leave 10 = .ok (.putfield 74, 3) := by decide +kernel
theorem dX8_leave_13 : decode cX8_leave 13 = .ok (.return_, 1) := by decide +kernel
set_option maxRecDepth 20000 in
theorem ggX8_wordTells_X8_leave : GoodIn wsX8_wordTells wsX8_leave := goodIn_r _ [6, 7, 20, 21, 22, 23, 24, 25, 26, 27, 28, 29, 30, 31, 32] (by decide +kernel) (by decide +kernel)
set_option maxRecDepth 20000 in
theorem gX8_wordTells_X8_leave : GoodIn wsX8_wordTells (wsV RX8 264 RX8 yX8_leave wsX8_leave) := goodIn_app (goodIn_of _ (by decide +kernel)) ggX8_wordTells_X8_leave
set_option maxRecDepth 20000 in
theorem ggX8_wordTells_X8_cryOf : GoodIn wsX8_wordTells wsX8_cryOf := goodIn_r _ [11, 1, 12, 20, 21, 22, 23, 24, 25, 26, 27, 28, 29, 30, 31, 32] (by decide +kernel) (by decide +kernel)
set_option maxRecDepth 20000 in
theorem gX8_wordTells_X8_cryOf : GoodIn wsX8_wordTells (wsV RX8 115 RX8 yX8_cryOf wsX8_cryOf) := goodIn_app (goodIn_of _ (by decide +kernel)) ggX8_wordTells_X8_cryOf
set_option maxRecDepth 20000 in
theorem ggX8_wordTells_X2_hasWord : GoodIn wsX8_wordTells wsX2_hasWord := goodIn_r _ [17, 18, 19, 33, 34] (by decide +kernel) (by decide +kernel)
set_option maxRecDepth 20000 in
theorem gX8_wordTells_X2_hasWord : GoodIn wsX8_wordTells (wsV RX8 268 RX2 yX2_hasWord wsX2_hasWord) := goodIn_app (goodIn_of _ (by decide +kernel)) ggX8_wordTells_X2_hasWord
theorem dX8_wordTells_0 : decode cX8_wordTells 0 = .ok (.aload_n 0, 1) := by decide +kernel
theorem dX8_wordTells_1 : decode cX8_wordTells 1 = .ok (.iconst 1, 1) := by decide +kernel
theorem dX8_wordTells_2 : decode cX8_wordTells 2 = .ok (.invokevirtual 264, 3) := by decide +kernel
theorem dX8_wordTells_5 : decode cX8_wordTells 5 = .ok (.iconst 0, 1) := by decide +kernel
theorem dX8_wordTells_6 : decode cX8_wordTells 6 = .ok (.istore_n 2, 1) := by decide +kernel
theorem dX8_wordTells_7 : decode cX8_wordTells 7 = .ok (.iconst 0, 1) := by decide +kernel
theorem dX8_wordTells_8 : decode cX8_wordTells 8 = .ok (.istore_n 3, 1) := by decide +kernel
theorem dX8_wordTells_9 : decode cX8_wordTells 9 = .ok (.iload_n 3, 1) := by decide +kernel
theorem dX8_wordTells_10 : decode cX8_wordTells 10 = .ok (.aload_n 0, 1) := by decide +kernel
theorem dX8_wordTells_11 : decode cX8_wordTells 11 = .ok (.getfield 70, 3) := by decide +kernel
theorem dX8_wordTells_14 : decode cX8_wordTells 14 = .ok (.if_icmp .ge 33, 3) := by decide +kernel
theorem dX8_wordTells_17 : decode cX8_wordTells 17 = .ok (.aload_n 0, 1) := by decide +kernel
theorem dX8_wordTells_18 : decode cX8_wordTells 18 = .ok (.iload_n 3, 1) := by decide +kernel
theorem dX8_wordTells_19 : decode cX8_wordTells 19 = .ok (.invokevirtual 115, 3) := by decide +kernel
theorem dX8_wordTells_22 : decode cX8_wordTells 22 = .ok (.astore 4, 2) := by decide +kernel
theorem dX8_wordTells_24 : decode cX8_wordTells 24 = .ok (.aload 4, 2) := by decide +kernel
theorem dX8_wordTells_26 : decode cX8_wordTells 26 = .ok (.ifnull 15, 3) := by decide +kernel
theorem dX8_wordTells_29 : decode cX8_wordTells 29 = .ok (.aload 4, 2) := by decide +kernel
theorem dX8_wordTells_31 : decode cX8_wordTells 31 = .ok (.iload_n 1, 1) := by decide +kernel
theorem dX8_wordTells_32 : decode cX8_wordTells 32 = .ok (.invokevirtual 268, 3) := by decide +kernel
theorem dX8_wordTells_35 : decode cX8_wordTells 35 = .ok (.ifCond .eq 6, 3) := by decide +kernel
theorem dX8_wordTells_38 : decode cX8_wordTells 38 = .ok (.iinc 2 1, 3) := by decide +kernel
theorem dX8_wordTells_41 : decode cX8_wordTells 41 = .ok (.iinc 3 1, 3) := by decide +kernel
theorem dX8_wordTells_44 : decode cX8_wordTells 44 = .ok (.goto (-35), 3) := by decide +kernel
theorem dX8_wordTells_47 : decode cX8_wordTells 47 = .ok (.iload_n 2, 1) := by decide +kernel
theorem dX8_wordTells_48 : decode cX8_wordTells 48 = .ok (.ireturn, 1) := by decide +kernel
set_option maxRecDepth 20000 in
theorem ggX8_denialTells_X8_leave : GoodIn wsX8_denialTells wsX8_leave := goodIn_r _ [5, 6, 24, 25, 26, 27, 28, 29, 30, 31, 32, 33, 34, 35, 36] (by decide +kernel) (by decide +kernel)
set_option maxRecDepth 20000 in
theorem gX8_denialTells_X8_leave : GoodIn wsX8_denialTells (wsV RX8 264 RX8 yX8_leave wsX8_leave) := goodIn_app (goodIn_of _ (by decide +kernel)) ggX8_denialTells_X8_leave
set_option maxRecDepth 20000 in
theorem ggX8_denialTells_X8_wordTells : GoodIn wsX8_denialTells wsX8_wordTells := goodIn_r _ [10, 11, 1, 2, 3, 4, 5, 6, 12, 13, 14, 15, 16, 17, 18, 19, 20, 21, 22, 23, 24, 25, 26, 27, 28, 29, 30, 31, 32, 33, 34, 35, 36, 37, 38] (by decide +kernel) (by decide +kernel)
set_option maxRecDepth 20000 in
theorem gX8_denialTells_X8_wordTells : GoodIn wsX8_denialTells (wsV RX8 230 RX8 yX8_wordTells wsX8_wordTells) := goodIn_app (goodIn_of _ (by decide +kernel)) ggX8_denialTells_X8_wordTells
theorem dX8_denialTells_0 : decode cX8_denialTells 0 = .ok (.aload_n 0, 1) := by decide +kernel
theorem dX8_denialTells_1 : decode cX8_denialTells 1 = .ok (.iconst 2, 1) := by decide +kernel
theorem dX8_denialTells_2 : decode cX8_denialTells 2 = .ok (.invokevirtual 264, 3) := by decide +kernel
theorem dX8_denialTells_5 : decode cX8_denialTells 5 = .ok (.aload_n 0, 1) := by decide +kernel
theorem dX8_denialTells_6 : decode cX8_denialTells 6 = .ok (.iload_n 1, 1) := by decide +kernel
theorem dX8_denialTells_7 : decode cX8_denialTells 7 = .ok (.invokevirtual 230, 3) := by decide +kernel
theorem dX8_denialTells_10 : decode cX8_denialTells 10 = .ok (.bipush 100, 2) := by decide +kernel
theorem dX8_denialTells_12 : decode cX8_denialTells 12 = .ok (.iadd, 1) := by decide +kernel
theorem dX8_denialTells_13 : decode cX8_denialTells 13 = .ok (.ireturn, 1) := by decide +kernel
set_option maxRecDepth 20000 in
theorem ggX8_doubtTells_X8_leave : GoodIn wsX8_doubtTells wsX8_leave := goodIn_r _ [5, 6, 28, 29, 30, 31, 32, 33, 34, 35, 36, 37, 38, 39, 40] (by decide +kernel) (by decide +kernel)
set_option maxRecDepth 20000 in
theorem gX8_doubtTells_X8_leave : GoodIn wsX8_doubtTells (wsV RX8 264 RX8 yX8_leave wsX8_leave) := goodIn_app (goodIn_of _ (by decide +kernel)) ggX8_doubtTells_X8_leave
set_option maxRecDepth 20000 in
theorem ggX8_doubtTells_X8_denialTells : GoodIn wsX8_doubtTells wsX8_denialTells := goodIn_r _ [10, 1, 2, 3, 4, 5, 6, 11, 12, 13, 14, 15, 16, 17, 18, 19, 20, 21, 22, 23, 24, 25, 26, 27, 28, 29, 30, 31, 32, 33, 34, 35, 36, 37, 38, 39, 40, 41, 42] (by decide +kernel) (by decide +kernel)
set_option maxRecDepth 20000 in
theorem gX8_doubtTells_X8_denialTells : GoodIn wsX8_doubtTells (wsV RX8 227 RX8 yX8_denialTells wsX8_denialTells) := goodIn_app (goodIn_of _ (by decide +kernel)) ggX8_doubtTells_X8_denialTells
set_option maxRecDepth 20000 in
theorem ggX8_doubtTells_X8_wordTells : GoodIn wsX8_doubtTells wsX8_wordTells := goodIn_r _ [14, 15, 1, 2, 3, 4, 5, 6, 16, 17, 18, 19, 20, 21, 22, 23, 24, 25, 26, 27, 28, 29, 30, 31, 32, 33, 34, 35, 36, 37, 38, 39, 40, 41, 42] (by decide +kernel) (by decide +kernel)
set_option maxRecDepth 20000 in
theorem gX8_doubtTells_X8_wordTells : GoodIn wsX8_doubtTells (wsV RX8 230 RX8 yX8_wordTells wsX8_wordTells) := goodIn_app (goodIn_of _ (by decide +kernel)) ggX8_doubtTells_X8_wordTells
theorem dX8_doubtTells_0 : decode cX8_doubtTells 0 = .ok (.aload_n 0, 1) := by decide +kernel
theorem dX8_doubtTells_1 : decode cX8_doubtTells 1 = .ok (.iconst 3, 1) := by decide +kernel
theorem dX8_doubtTells_2 : decode cX8_doubtTells 2 = .ok (.invokevirtual 264, 3) := by decide +kernel
theorem dX8_doubtTells_5 : decode cX8_doubtTells 5 = .ok (.aload_n 0, 1) := by decide +kernel
theorem dX8_doubtTells_6 : decode cX8_doubtTells 6 = .ok (.iload_n 1, 1) := by decide +kernel
theorem dX8_doubtTells_7 : decode cX8_doubtTells 7 = .ok (.invokevirtual 227, 3) := by decide +kernel
theorem dX8_doubtTells_10 : decode cX8_doubtTells 10 = .ok (.istore_n 2, 1) := by decide +kernel
theorem dX8_doubtTells_11 : decode cX8_doubtTells 11 = .ok (.iload_n 2, 1) := by decide +kernel
theorem dX8_doubtTells_12 : decode cX8_doubtTells 12 = .ok (.aload_n 0, 1) := by decide +kernel
theorem dX8_doubtTells_13 : decode cX8_doubtTells 13 = .ok (.iload_n 1, 1) := by decide +kernel
theorem dX8_doubtTells_14 : decode cX8_doubtTells 14 = .ok (.invokevirtual 230, 3) := by decide +kernel
theorem dX8_doubtTells_17 : decode cX8_doubtTells 17 = .ok (.iadd, 1) := by decide +kernel
theorem dX8_doubtTells_18 : decode cX8_doubtTells 18 = .ok (.ireturn, 1) := by decide +kernel
set_option maxRecDepth 20000 in
theorem ggX8_wordSings_X8_leave : GoodIn wsX8_wordSings wsX8_leave := goodIn_r _ [5, 6, 7, 8, 9, 10, 11, 12, 13, 14, 15, 16, 17, 18, 19] (by decide +kernel) (by decide +kernel)
set_option maxRecDepth 20000 in
theorem gX8_wordSings_X8_leave : GoodIn wsX8_wordSings (wsV RX8 264 RX8 yX8_leave wsX8_leave) := goodIn_app (goodIn_of _ (by decide +kernel)) ggX8_wordSings_X8_leave
theorem dX8_wordSings_0 : decode cX8_wordSings 0 = .ok (.aload_n 0, 1) := by decide +kernel
theorem dX8_wordSings_1 : decode cX8_wordSings 1 = .ok (.iconst 4, 1) := by decide +kernel
theorem dX8_wordSings_2 : decode cX8_wordSings 2 = .ok (.invokevirtual 264, 3) := by decide +kernel
theorem dX8_wordSings_5 : decode cX8_wordSings 5 = .ok (.iload_n 1, 1) := by decide +kernel
theorem dX8_wordSings_6 : decode cX8_wordSings 6 = .ok (.ireturn, 1) := by decide +kernel
set_option maxRecDepth 20000 in
theorem ggX8_doubtSings_X8_leave : GoodIn wsX8_doubtSings wsX8_leave := goodIn_r _ [5, 6, 7, 8, 9, 10, 11, 12, 13, 14, 15, 16, 17, 18, 19] (by decide +kernel) (by decide +kernel)
set_option maxRecDepth 20000 in
theorem gX8_doubtSings_X8_leave : GoodIn wsX8_doubtSings (wsV RX8 264 RX8 yX8_leave wsX8_leave) := goodIn_app (goodIn_of _ (by decide +kernel)) ggX8_doubtSings_X8_leave
theorem dX8_doubtSings_0 : decode cX8_doubtSings 0 = .ok (.aload_n 0, 1) := by decide +kernel
theorem dX8_doubtSings_1 : decode cX8_doubtSings 1 = .ok (.iconst 5, 1) := by decide +kernel
theorem dX8_doubtSings_2 : decode cX8_doubtSings 2 = .ok (.invokevirtual 264, 3) := by decide +kernel
theorem dX8_doubtSings_5 : decode cX8_doubtSings 5 = .ok (.bipush 40, 2) := by decide +kernel
theorem dX8_doubtSings_7 : decode cX8_doubtSings 7 = .ok (.ireturn, 1) := by decide +kernel
