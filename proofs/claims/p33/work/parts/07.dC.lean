theorem dX8_firstFaultOf_0 : decode cX8_firstFaultOf 0 = .ok (.iconst 1, 1) := by decide +kernel
theorem dX8_firstFaultOf_1 : decode cX8_firstFaultOf 1 = .ok (.istore_n 3, 1) := by decide +kernel
theorem dX8_firstFaultOf_2 : decode cX8_firstFaultOf 2 = .ok (.iconst 0, 1) := by decide +kernel
theorem dX8_firstFaultOf_3 : decode cX8_firstFaultOf 3 = .ok (.istore 4, 2) := by decide +kernel
theorem dX8_firstFaultOf_5 : decode cX8_firstFaultOf 5 = .ok (.iconst 0, 1) := by decide +kernel
theorem dX8_firstFaultOf_6 : decode cX8_firstFaultOf 6 = .ok (.istore 5, 2) := by decide +kernel
theorem dX8_firstFaultOf_8 : decode cX8_firstFaultOf 8 = .ok (.iload 5, 2) := by decide +kernel
theorem dX8_firstFaultOf_10 : decode cX8_firstFaultOf 10 = .ok (.iload_n 2, 1) := by decide +kernel
theorem dX8_firstFaultOf_11 : decode cX8_firstFaultOf 11 = .ok (.if_icmp .ge 70, 3) := by decide +kernel
theorem dX8_firstFaultOf_14 : decode cX8_firstFaultOf 14 = .ok (.aload_n 0, 1) := by decide +kernel
theorem dX8_firstFaultOf_15 : decode cX8_firstFaultOf 15 = .ok (.iload_n 1, 1) := by decide +kernel
theorem dX8_firstFaultOf_16 : decode cX8_firstFaultOf 16 = .ok (.iload 5, 2) := by decide +kernel
theorem dX8_firstFaultOf_18 : decode cX8_firstFaultOf 18 = .ok (.iadd, 1) := by decide +kernel
theorem dX8_firstFaultOf_19 : decode cX8_firstFaultOf 19 = .ok (.invokevirtual 216, 3) := by decide +kernel
theorem dX8_firstFaultOf_22 : decode cX8_firstFaultOf 22 = .ok (.istore 6, 2) := by decide +kernel
theorem dX8_firstFaultOf_24 : decode cX8_firstFaultOf 24 = .ok (.iload 6, 2) := by decide +kernel
theorem dX8_firstFaultOf_26 : decode cX8_firstFaultOf 26 = .ok (.invokestatic 239, 3) := by decide +kernel
theorem dX8_firstFaultOf_29 : decode cX8_firstFaultOf 29 = .ok (.ifCond .eq 16, 3) := by decide +kernel
theorem dX8_firstFaultOf_32 : decode cX8_firstFaultOf 32 = .ok (.iload 4, 2) := by decide +kernel
theorem dX8_firstFaultOf_34 : decode cX8_firstFaultOf 34 = .ok (.bipush 12, 2) := by decide +kernel
theorem dX8_firstFaultOf_36 : decode cX8_firstFaultOf 36 = .ok (.if_icmp .ge 9, 3) := by decide +kernel
theorem dX8_firstFaultOf_39 : decode cX8_firstFaultOf 39 = .ok (.iinc 4 1, 3) := by decide +kernel
theorem dX8_firstFaultOf_42 : decode cX8_firstFaultOf 42 = .ok (.goto 33, 3) := by decide +kernel
theorem dX8_firstFaultOf_45 : decode cX8_firstFaultOf 45 = .ok (.iload 6, 2) := by decide +kernel
theorem dX8_firstFaultOf_47 : decode cX8_firstFaultOf 47 = .ok (.bipush 59, 2) := by decide +kernel
theorem dX8_firstFaultOf_49 : decode cX8_firstFaultOf 49 = .ok (.if_icmp .ne 23, 3) := by decide +kernel
theorem dX8_firstFaultOf_52 : decode cX8_firstFaultOf 52 = .ok (.iload 4, 2) := by decide +kernel
theorem dX8_firstFaultOf_54 : decode cX8_firstFaultOf 54 = .ok (.ifCond .le 18, 3) := by decide +kernel
theorem dX8_firstFaultOf_57 : decode cX8_firstFaultOf 57 = .ok (.iload_n 3, 1) := by decide +kernel
theorem dX8_firstFaultOf_58 : decode cX8_firstFaultOf 58 = .ok (.bipush 6, 2) := by decide +kernel
theorem dX8_firstFaultOf_60 : decode cX8_firstFaultOf 60 = .ok (.if_icmp .ge 12, 3) := by decide +kernel
theorem dX8_firstFaultOf_63 : decode cX8_firstFaultOf 63 = .ok (.iinc 3 1, 3) := by decide +kernel
theorem dX8_firstFaultOf_66 : decode cX8_firstFaultOf 66 = .ok (.iconst 0, 1) := by decide +kernel
theorem dX8_firstFaultOf_67 : decode cX8_firstFaultOf 67 = .ok (.istore 4, 2) := by decide +kernel
theorem dX8_firstFaultOf_69 : decode cX8_firstFaultOf 69 = .ok (.goto 6, 3) := by decide +kernel
theorem dX8_firstFaultOf_72 : decode cX8_firstFaultOf 72 = .ok (.iload 5, 2) := by decide +kernel
theorem dX8_firstFaultOf_74 : decode cX8_firstFaultOf 74 = .ok (.ireturn, 1) := by decide +kernel
theorem dX8_firstFaultOf_75 : decode cX8_firstFaultOf 75 = .ok (.iinc 5 1, 3) := by decide +kernel
theorem dX8_firstFaultOf_78 : decode cX8_firstFaultOf 78 = .ok (.goto (-70), 3) := by decide +kernel
theorem dX8_firstFaultOf_81 : decode cX8_firstFaultOf 81 = .ok (.iload 4, 2) := by decide +kernel
theorem dX8_firstFaultOf_83 : decode cX8_firstFaultOf 83 = .ok (.ifCond .ne 7, 3) := by decide +kernel
theorem dX8_firstFaultOf_86 : decode cX8_firstFaultOf 86 = .ok (.iload_n 2, 1) := by decide +kernel
theorem dX8_firstFaultOf_87 : decode cX8_firstFaultOf 87 = .ok (.goto 5, 3) := by decide +kernel
theorem dX8_firstFaultOf_90 : decode cX8_firstFaultOf 90 = .ok (.bipush (-9), 2) := by decide +kernel
theorem dX8_firstFaultOf_92 : decode cX8_firstFaultOf 92 = .ok (.ireturn, 1) := by decide +kernel
set_option maxRecDepth 20000 in
theorem ggX8_takeText_X8_beginDay : GoodIn wsX8_takeText wsX8_beginDay := goodIn_r _ [6, 1, 7, 8, 9, 5, 10, 11, 12, 13, 14, 15, 16, 17, 18, 19, 20, 21, 49, 50, 51, 52, 53, 54, 55, 56, 57, 58, 59, 60, 61, 62, 63] (by decide +kernel) (by decide +kernel)
set_option maxRecDepth 20000 in
theorem gX8_takeText_X8_beginDay : GoodIn wsX8_takeText (wsV RX8 242 RX8 yX8_beginDay wsX8_beginDay) := goodIn_app (goodIn_of _ (by decide +kernel)) ggX8_takeText_X8_beginDay
set_option maxRecDepth 20000 in
theorem ggX8_takeText_X6_at : GoodIn wsX8_takeText wsX6_at := goodIn_r _ [26, 27, 28, 29, 30, 25, 31, 32, 64, 65, 66] (by decide +kernel) (by decide +kernel)
set_option maxRecDepth 20000 in
theorem gX8_takeText_X6_at : GoodIn wsX8_takeText (wsV RX8 216 RX6 yX6_at wsX6_at) := goodIn_app (goodIn_of _ (by decide +kernel)) ggX8_takeText_X6_at
set_option maxRecDepth 20000 in
theorem ggX8_takeText_X8_lastCry : GoodIn wsX8_takeText wsX8_lastCry := goodIn_r _ [10, 1, 11, 12, 13, 5, 14, 15, 49, 50, 51, 52, 53, 54, 55, 56, 57, 58, 59, 60, 61] (by decide +kernel) (by decide +kernel)
set_option maxRecDepth 20000 in
theorem gX8_takeText_X8_lastCry : GoodIn wsX8_takeText (wsV RX8 129 RX8 yX8_lastCry wsX8_lastCry) := goodIn_app (goodIn_of _ (by decide +kernel)) ggX8_takeText_X8_lastCry
set_option maxRecDepth 20000 in
theorem ggX8_takeText_X8_isLetter : GoodIn wsX8_takeText wsX8_isLetter := goodIn_r _ [35] (by decide +kernel) (by decide +kernel)
set_option maxRecDepth 20000 in
theorem gX8_takeText_X8_isLetter : GoodIn wsX8_takeText (va_wsS RX8 239 yX8_isLetter wsX8_isLetter) := goodIn_app (goodIn_of _ (by decide +kernel)) ggX8_takeText_X8_isLetter
set_option maxRecDepth 20000 in
theorem ggX8_takeText_X2_size : GoodIn wsX8_takeText wsX2_size := goodIn_r _ [39, 21, 62, 63] (by decide +kernel) (by decide +kernel)
set_option maxRecDepth 20000 in
theorem gX8_takeText_X2_size : GoodIn wsX8_takeText (wsV RX8 119 RX2 yX2_size wsX2_size) := goodIn_app (goodIn_of _ (by decide +kernel)) ggX8_takeText_X2_size
set_option maxRecDepth 20000 in
theorem ggX8_takeText_X2_insert : GoodIn wsX8_takeText wsX2_insert := goodIn_r _ [43, 21, 44, 45, 46, 47, 19, 48, 62, 63] (by decide +kernel) (by decide +kernel)
set_option maxRecDepth 20000 in
theorem gX8_takeText_X2_insert : GoodIn wsX8_takeText (wsV RX8 137 RX2 yX2_insert wsX2_insert) := goodIn_app (goodIn_of _ (by decide +kernel)) ggX8_takeText_X2_insert
theorem dX8_takeText_0 : decode cX8_takeText 0 = .ok (.aload_n 0, 1) := by decide +kernel
theorem dX8_takeText_1 : decode cX8_takeText 1 = .ok (.iconst 0, 1) := by decide +kernel
theorem dX8_takeText_2 : decode cX8_takeText 2 = .ok (.putfield 70, 3) := by decide +kernel
theorem dX8_takeText_5 : decode cX8_takeText 5 = .ok (.aload_n 0, 1) := by decide +kernel
theorem dX8_takeText_6 : decode cX8_takeText 6 = .ok (.invokevirtual 242, 3) := by decide +kernel
theorem dX8_takeText_9 : decode cX8_takeText 9 = .ok (.iconst 0, 1) := by decide +kernel
theorem dX8_takeText_10 : decode cX8_takeText 10 = .ok (.istore 4, 2) := by decide +kernel
theorem dX8_takeText_12 : decode cX8_takeText 12 = .ok (.iload 4, 2) := by decide +kernel
theorem dX8_takeText_14 : decode cX8_takeText 14 = .ok (.iload_n 3, 1) := by decide +kernel
theorem dX8_takeText_15 : decode cX8_takeText 15 = .ok (.if_icmp .ge 67, 3) := by decide +kernel
theorem dX8_takeText_18 : decode cX8_takeText 18 = .ok (.aload_n 1, 1) := by decide +kernel
theorem dX8_takeText_19 : decode cX8_takeText 19 = .ok (.iload_n 2, 1) := by decide +kernel
theorem dX8_takeText_20 : decode cX8_takeText 20 = .ok (.iload 4, 2) := by decide +kernel
theorem dX8_takeText_22 : decode cX8_takeText 22 = .ok (.iadd, 1) := by decide +kernel
theorem dX8_takeText_23 : decode cX8_takeText 23 = .ok (.invokevirtual 216, 3) := by decide +kernel
theorem dX8_takeText_26 : decode cX8_takeText 26 = .ok (.istore 5, 2) := by decide +kernel
theorem dX8_takeText_28 : decode cX8_takeText 28 = .ok (.aload_n 0, 1) := by decide +kernel
theorem dX8_takeText_29 : decode cX8_takeText 29 = .ok (.invokevirtual 129, 3) := by decide +kernel
theorem dX8_takeText_32 : decode cX8_takeText 32 = .ok (.astore 6, 2) := by decide +kernel
theorem dX8_takeText_34 : decode cX8_takeText 34 = .ok (.iload 5, 2) := by decide +kernel
theorem dX8_takeText_36 : decode cX8_takeText 36 = .ok (.bipush 59, 2) := by decide +kernel
theorem dX8_takeText_38 : decode cX8_takeText 38 = .ok (.if_icmp .ne 10, 3) := by decide +kernel
theorem dX8_takeText_41 : decode cX8_takeText 41 = .ok (.aload_n 0, 1) := by decide +kernel
theorem dX8_takeText_42 : decode cX8_takeText 42 = .ok (.invokevirtual 242, 3) := by decide +kernel
theorem dX8_takeText_45 : decode cX8_takeText 45 = .ok (.goto 31, 3) := by decide +kernel
theorem dX8_takeText_48 : decode cX8_takeText 48 = .ok (.aload 6, 2) := by decide +kernel
theorem dX8_takeText_50 : decode cX8_takeText 50 = .ok (.ifnull 26, 3) := by decide +kernel
theorem dX8_takeText_53 : decode cX8_takeText 53 = .ok (.iload 5, 2) := by decide +kernel
theorem dX8_takeText_55 : decode cX8_takeText 55 = .ok (.invokestatic 239, 3) := by decide +kernel
theorem dX8_takeText_58 : decode cX8_takeText 58 = .ok (.ifCond .eq 18, 3) := by decide +kernel
theorem dX8_takeText_61 : decode cX8_takeText 61 = .ok (.aload 6, 2) := by decide +kernel
theorem dX8_takeText_63 : decode cX8_takeText 63 = .ok (.aload 6, 2) := by decide +kernel
theorem dX8_takeText_65 : decode cX8_takeText 65 = .ok (.invokevirtual 119, 3) := by decide +kernel
theorem dX8_takeText_68 : decode cX8_takeText 68 = .ok (.iload 5, 2) := by decide +kernel
theorem dX8_takeText_70 : decode cX8_takeText 70 = .ok (.bipush 97, 2) := by decide +kernel
theorem dX8_takeText_72 : decode cX8_takeText 72 = .ok (.isub, 1) := by decide +kernel
theorem dX8_takeText_73 : decode cX8_takeText 73 = .ok (.invokevirtual 137, 3) := by decide +kernel
theorem dX8_takeText_76 : decode cX8_takeText 76 = .ok (.iinc 4 1, 3) := by decide +kernel
theorem dX8_takeText_79 : decode cX8_takeText 79 = .ok (.goto (-67), 3) := by decide +kernel
theorem dX8_takeText_82 : decode cX8_takeText 82 = .ok (.return_, 1) := by decide +kernel
set_option maxRecDepth 20000 in
theorem ggX8_beginDay_X8_lastCry : GoodIn wsX8_beginDay wsX8_lastCry := goodIn_r _ [6, 1, 7, 8, 9, 5, 10, 11, 18, 19, 20, 21, 22, 23, 24, 25, 26, 27, 28, 29, 30] (by decide +kernel) (by decide +kernel)
set_option maxRecDepth 20000 in
theorem gX8_beginDay_X8_lastCry : GoodIn wsX8_beginDay (wsV RX8 129 RX8 yX8_lastCry wsX8_lastCry) := goodIn_app (goodIn_of _ (by decide +kernel)) ggX8_beginDay_X8_lastCry
set_option maxRecDepth 20000 in
theorem ggX8_beginDay_X2_clear : GoodIn wsX8_beginDay wsX2_clear := goodIn_r _ [16, 17, 31, 32] (by decide +kernel) (by decide +kernel)
set_option maxRecDepth 20000 in
theorem gX8_beginDay_X2_clear : GoodIn wsX8_beginDay (wsV RX8 245 RX2 yX2_clear wsX2_clear) := goodIn_app (goodIn_of _ (by decide +kernel)) ggX8_beginDay_X2_clear
theorem dX8_beginDay_0 : decode cX8_beginDay 0 = .ok (.aload_n 0, 1) := by decide +kernel
theorem dX8_beginDay_1 : decode cX8_beginDay 1 = .ok (.getfield 70, 3) := by decide +kernel
theorem dX8_beginDay_4 : decode cX8_beginDay 4 = .ok (.bipush 6, 2) := by decide +kernel
theorem dX8_beginDay_6 : decode cX8_beginDay 6 = .ok (.if_icmp .lt 4, 3) := by decide +kernel
theorem dX8_beginDay_9 : decode cX8_beginDay 9 = .ok (.return_, 1) := by decide +kernel
theorem dX8_beginDay_10 : decode cX8_beginDay 10 = .ok (.aload_n 0, 1) := by decide +kernel
theorem dX8_beginDay_11 : decode cX8_beginDay 11 = .ok (.dup, 1) := by decide +kernel
theorem dX8_beginDay_12 : decode cX8_beginDay 12 = .ok (.getfield 70, 3) := by decide +kernel
theorem dX8_beginDay_15 : decode cX8_beginDay 15 = .ok (.iconst 1, 1) := by decide +kernel
theorem dX8_beginDay_16 : decode cX8_beginDay 16 = .ok (.iadd, 1) := by decide +kernel
theorem dX8_beginDay_17 : decode cX8_beginDay 17 = .ok (.putfield 70, 3) := by decide +kernel
theorem dX8_beginDay_20 : decode cX8_beginDay 20 = .ok (.aload_n 0, 1) := by decide +kernel
theorem dX8_beginDay_21 : decode cX8_beginDay 21 = .ok (.invokevirtual 129, 3) := by decide +kernel
theorem dX8_beginDay_24 : decode cX8_beginDay 24 = .ok (.astore_n 1, 1) := by decide +kernel
theorem dX8_beginDay_25 : decode cX8_beginDay 25 = .ok (.aload_n 1, 1) := by decide +kernel
theorem dX8_beginDay_26 : decode cX8_beginDay 26 = .ok (.ifnull 7, 3) := by decide +kernel
theorem dX8_beginDay_29 : decode cX8_beginDay 29 = .ok (.aload_n 1, 1) := by decide +kernel
theorem dX8_beginDay_30 : decode cX8_beginDay 30 = .ok (.invokevirtual 245, 3) := by decide +kernel
theorem dX8_beginDay_33 : decode cX8_beginDay 33 = .ok (.return_, 1) := by decide +kernel
theorem dJ9_min_7cf53_0 : decode cJ9_min_7cf53 0 = .ok (.iload_n 0, 1) := by decide +kernel
theorem dJ9_min_7cf53_1 : decode cJ9_min_7cf53 1 = .ok (.iload_n 1, 1) := by decide +kernel
theorem dJ9_min_7cf53_2 : decode cJ9_min_7cf53 2 = .ok (.if_icmp .gt 7, 3) := by decide +kernel
theorem dJ9_min_7cf53_5 : decode cJ9_min_7cf53 5 = .ok (.iload_n 0, 1) := by decide +kernel
theorem dJ9_min_7cf53_6 : decode cJ9_min_7cf53 6 = .ok (.goto 4, 3) := by decide +kernel
theorem dJ9_min_7cf53_9 : decode cJ9_min_7cf53 9 = .ok (.iload_n 1, 1) := by decide +kernel
theorem dJ9_min_7cf53_10 : decode cJ9_min_7cf53 10 = .ok (.ireturn, 1) := by decide +kernel
theorem dJ7_fill_d0a16_0 : decode cJ7_fill_d0a16 0 = .ok (.iconst 0, 1) := by decide +kernel
theorem dJ7_fill_d0a16_1 : decode cJ7_fill_d0a16 1 = .ok (.istore_n 3, 1) := by decide +kernel
theorem dJ7_fill_d0a16_2 : decode cJ7_fill_d0a16 2 = .ok (.aload_n 0, 1) := by decide +kernel
theorem dJ7_fill_d0a16_3 : decode cJ7_fill_d0a16 3 = .ok (.arraylength, 1) := by decide +kernel
theorem dJ7_fill_d0a16_4 : decode cJ7_fill_d0a16 4 = .ok (.istore 4, 2) := by decide +kernel
theorem dJ7_fill_d0a16_6 : decode cJ7_fill_d0a16 6 = .ok (.iload_n 3, 1) := by decide +kernel
theorem dJ7_fill_d0a16_7 : decode cJ7_fill_d0a16 7 = .ok (.iload 4, 2) := by decide +kernel
theorem dJ7_fill_d0a16_9 : decode cJ7_fill_d0a16 9 = .ok (.if_icmp .ge 13, 3) := by decide +kernel
theorem dJ7_fill_d0a16_12 : decode cJ7_fill_d0a16 12 = .ok (.aload_n 0, 1) := by decide +kernel
theorem dJ7_fill_d0a16_13 : decode cJ7_fill_d0a16 13 = .ok (.iload_n 3, 1) := by decide +kernel
theorem dJ7_fill_d0a16_14 : decode cJ7_fill_d0a16 14 = .ok (.lload_n 1, 1) := by decide +kernel
theorem dJ7_fill_d0a16_15 : decode cJ7_fill_d0a16 15 = .ok (.lastore, 1) := by decide +kernel
theorem dJ7_fill_d0a16_16 : decode cJ7_fill_d0a16 16 = .ok (.iinc 3 1, 3) := by decide +kernel
theorem dJ7_fill_d0a16_19 : decode cJ7_fill_d0a16 19 = .ok (.goto (-13), 3) := by decide +kernel
theorem dJ7_fill_d0a16_22 : decode cJ7_fill_d0a16 22 = .ok (.return_, 1) := by decide +kernel
theorem dJ7_fill_53178_0 : decode cJ7_fill_53178 0 = .ok (.iconst 0, 1) := by decide +kernel
theorem dJ7_fill_53178_1 : decode cJ7_fill_53178 1 = .ok (.istore_n 2, 1) := by decide +kernel
theorem dJ7_fill_53178_2 : decode cJ7_fill_53178 2 = .ok (.aload_n 0, 1) := by decide +kernel
theorem dJ7_fill_53178_3 : decode cJ7_fill_53178 3 = .ok (.arraylength, 1) := by decide +kernel
theorem dJ7_fill_53178_4 : decode cJ7_fill_53178 4 = .ok (.istore_n 3, 1) := by decide +kernel
theorem dJ7_fill_53178_5 : decode cJ7_fill_53178 5 = .ok (.iload_n 2, 1) := by decide +kernel
theorem dJ7_fill_53178_6 : decode cJ7_fill_53178 6 = .ok (.iload_n 3, 1) := by decide +kernel
theorem dJ7_fill_53178_7 : decode cJ7_fill_53178 7 = .ok (.if_icmp .ge 13, 3) := by decide +kernel
theorem dJ7_fill_53178_10 : decode cJ7_fill_53178 10 = .ok (.aload_n 0, 1) := by decide +kernel
theorem dJ7_fill_53178_11 : decode cJ7_fill_53178 11 = .ok (.iload_n 2, 1) := by decide +kernel
theorem dJ7_fill_53178_12 : decode cJ7_fill_53178 12 = .ok (.iload_n 1, 1) := by decide +kernel
theorem dJ7_fill_53178_13 : decode cJ7_fill_53178 13 = .ok (.iastore, 1) := by decide +kernel
theorem dJ7_fill_53178_14 : decode cJ7_fill_53178 14 = .ok (.iinc 2 1, 3) := by decide +kernel
theorem dJ7_fill_53178_17 : decode cJ7_fill_53178 17 = .ok (.goto (-12), 3) := by decide +kernel
theorem dJ7_fill_53178_20 : decode cJ7_fill_53178 20 = .ok (.return_, 1) := by decide +kernel
theorem dL_cell_0 : decode cL_cell 0 = .ok (.iload_n 1, 1) := by decide +kernel
theorem dL_cell_1 : decode cL_cell 1 = .ok (.aload_n 0, 1) := by decide +kernel
theorem dL_cell_2 : decode cL_cell 2 = .ok (.arraylength, 1) := by decide +kernel
theorem dL_cell_3 : decode cL_cell 3 = .ok (.if_icmp .ge 9, 3) := by decide +kernel
theorem dL_cell_6 : decode cL_cell 6 = .ok (.aload_n 0, 1) := by decide +kernel
theorem dL_cell_7 : decode cL_cell 7 = .ok (.iload_n 1, 1) := by decide +kernel
theorem dL_cell_8 : decode cL_cell 8 = .ok (.iaload, 1) := by decide +kernel
theorem dL_cell_9 : decode cL_cell 9 = .ok (.goto 9, 3) := by decide +kernel
theorem dL_cell_12 : decode cL_cell 12 = .ok (.ldc 7, 2) := by decide +kernel
theorem dL_cell_14 : decode cL_cell 14 = .ok (.iload_n 1, 1) := by decide +kernel
theorem dL_cell_15 : decode cL_cell 15 = .ok (.iconst 1, 1) := by decide +kernel
theorem dL_cell_16 : decode cL_cell 16 = .ok (.iadd, 1) := by decide +kernel
theorem dL_cell_17 : decode cL_cell 17 = .ok (.imul, 1) := by decide +kernel
theorem dL_cell_18 : decode cL_cell 18 = .ok (.ireturn, 1) := by decide +kernel
theorem dL_some_0 : decode cL_some 0 = .ok (.iload_n 0, 1) := by decide +kernel
theorem dL_some_1 : decode cL_some 1 = .ok (.ldc 8, 2) := by decide +kernel
theorem dL_some_3 : decode cL_some 3 = .ok (.iand, 1) := by decide +kernel
theorem dL_some_4 : decode cL_some 4 = .ok (.iload_n 1, 1) := by decide +kernel
theorem dL_some_5 : decode cL_some 5 = .ok (.irem, 1) := by decide +kernel
theorem dL_some_6 : decode cL_some 6 = .ok (.ireturn, 1) := by decide +kernel
set_option maxRecDepth 20000 in
theorem ggL_put_L_cell : GoodIn wsL_put wsL_cell := goodIn_r _ [4, 5] (by decide +kernel) (by decide +kernel)
set_option maxRecDepth 20000 in
theorem gL_put_L_cell : GoodIn wsL_put (va_wsS RL 9 yL_cell wsL_cell) := goodIn_app (goodIn_of _ (by decide +kernel)) ggL_put_L_cell
set_option maxRecDepth 20000 in
theorem ggL_put_L_some : GoodIn wsL_put wsL_some := goodIn_r _ [8, 9] (by decide +kernel) (by decide +kernel)
set_option maxRecDepth 20000 in
theorem gL_put_L_some : GoodIn wsL_put (va_wsS RL 15 yL_some wsL_some) := goodIn_app (goodIn_of _ (by decide +kernel)) ggL_put_L_some
set_option maxRecDepth 20000 in
theorem ggL_put_X8_sheet : GoodIn wsL_put wsX8_sheet := goodIn_r _ [14, 15, 16, 17, 18, 13, 19, 20, 21, 22, 23, 24, 25, 26, 27, 28, 29, 30, 31, 32, 33, 34, 35, 36, 37, 38, 39, 68, 69, 70, 71, 72, 73, 74, 75, 76, 77, 78, 79, 80, 81, 82, 83] (by decide +kernel) (by decide +kernel)
set_option maxRecDepth 20000 in
theorem gL_put_X8_sheet : GoodIn wsL_put (wsV RL 19 RX8 yX8_sheet wsX8_sheet) := goodIn_app (goodIn_of _ (by decide +kernel)) ggL_put_X8_sheet
set_option maxRecDepth 20000 in
theorem ggL_put_L_with : GoodIn wsL_put wsL_with := goodIn_r _ [42] (by decide +kernel) (by decide +kernel)
set_option maxRecDepth 20000 in
theorem gL_put_L_with : GoodIn wsL_put (va_wsS RL 25 yL_with wsL_with) := goodIn_app (goodIn_of _ (by decide +kernel)) ggL_put_L_with
set_option maxRecDepth 20000 in
theorem ggL_put_X8_put : GoodIn wsL_put wsX8_put := goodIn_r _ [46, 15, 16, 17, 18, 13, 19, 20, 47, 48, 49, 31, 50, 34, 24, 25, 26, 27, 51, 52, 53, 54, 55, 56, 57, 58, 33, 59, 60, 61, 62, 63, 35, 68, 69, 70, 71, 72, 73, 74, 75, 76, 77, 78, 79, 80, 81, 82, 83] (by decide +kernel) (by decide +kernel)
set_option maxRecDepth 20000 in
theorem gL_put_X8_put : GoodIn wsL_put (wsV RL 29 RX8 yX8_put wsX8_put) := goodIn_app (goodIn_of _ (by decide +kernel)) ggL_put_X8_put
set_option maxRecDepth 20000 in
theorem ggL_put_L_word : GoodIn wsL_put wsL_word := goodIn_r _ [66, 67] (by decide +kernel) (by decide +kernel)
set_option maxRecDepth 20000 in
theorem gL_put_L_word : GoodIn wsL_put (va_wsS RL 32 yL_word wsL_word) := goodIn_app (goodIn_of _ (by decide +kernel)) ggL_put_L_word
theorem dL_put_0 : decode cL_put 0 = .ok (.aload_n 1, 1) := by decide +kernel
theorem dL_put_1 : decode cL_put 1 = .ok (.iload_n 2, 1) := by decide +kernel
theorem dL_put_2 : decode cL_put 2 = .ok (.invokestatic 9, 3) := by decide +kernel
theorem dL_put_5 : decode cL_put 5 = .ok (.istore 6, 2) := by decide +kernel
theorem dL_put_7 : decode cL_put 7 = .ok (.aload 5, 2) := by decide +kernel
theorem dL_put_9 : decode cL_put 9 = .ok (.iconst 0, 1) := by decide +kernel
theorem dL_put_10 : decode cL_put 10 = .ok (.iconst 1, 1) := by decide +kernel
theorem dL_put_11 : decode cL_put 11 = .ok (.iload 6, 2) := by decide +kernel
theorem dL_put_13 : decode cL_put 13 = .ok (.bipush 6, 2) := by decide +kernel
theorem dL_put_15 : decode cL_put 15 = .ok (.invokestatic 15, 3) := by decide +kernel
theorem dL_put_18 : decode cL_put 18 = .ok (.iadd, 1) := by decide +kernel
theorem dL_put_19 : decode cL_put 19 = .ok (.iastore, 1) := by decide +kernel
theorem dL_put_20 : decode cL_put 20 = .ok (.aload_n 0, 1) := by decide +kernel
theorem dL_put_21 : decode cL_put 21 = .ok (.iconst 0, 1) := by decide +kernel
theorem dL_put_22 : decode cL_put 22 = .ok (.iconst 0, 1) := by decide +kernel
theorem dL_put_23 : decode cL_put 23 = .ok (.bipush 80, 2) := by decide +kernel
theorem dL_put_25 : decode cL_put 25 = .ok (.invokevirtual 19, 3) := by decide +kernel
theorem dL_put_28 : decode cL_put 28 = .ok (.iconst 1, 1) := by decide +kernel
theorem dL_put_29 : decode cL_put 29 = .ok (.if_icmp .eq 6, 3) := by decide +kernel
theorem dL_put_32 : decode cL_put 32 = .ok (.bipush (-99), 2) := by decide +kernel
theorem dL_put_34 : decode cL_put 34 = .ok (.ireturn, 1) := by decide +kernel
theorem dL_put_35 : decode cL_put 35 = .ok (.iconst 0, 1) := by decide +kernel
theorem dL_put_36 : decode cL_put 36 = .ok (.istore 7, 2) := by decide +kernel
theorem dL_put_38 : decode cL_put 38 = .ok (.iconst 0, 1) := by decide +kernel
theorem dL_put_39 : decode cL_put 39 = .ok (.istore 8, 2) := by decide +kernel
theorem dL_put_41 : decode cL_put 41 = .ok (.iload 8, 2) := by decide +kernel
theorem dL_put_43 : decode cL_put 43 = .ok (.aload 5, 2) := by decide +kernel
theorem dL_put_45 : decode cL_put 45 = .ok (.iconst 0, 1) := by decide +kernel
theorem dL_put_46 : decode cL_put 46 = .ok (.iaload, 1) := by decide +kernel
theorem dL_put_47 : decode cL_put 47 = .ok (.if_icmp .ge 305, 3) := by decide +kernel
theorem dL_put_50 : decode cL_put 50 = .ok (.aload_n 1, 1) := by decide +kernel
theorem dL_put_51 : decode cL_put 51 = .ok (.iload_n 2, 1) := by decide +kernel
theorem dL_put_52 : decode cL_put 52 = .ok (.iconst 1, 1) := by decide +kernel
theorem dL_put_53 : decode cL_put 53 = .ok (.iadd, 1) := by decide +kernel
theorem dL_put_54 : decode cL_put 54 = .ok (.iload 8, 2) := by decide +kernel
theorem dL_put_56 : decode cL_put 56 = .ok (.iconst 3, 1) := by decide +kernel
theorem dL_put_57 : decode cL_put 57 = .ok (.irem, 1) := by decide +kernel
theorem dL_put_58 : decode cL_put 58 = .ok (.iadd, 1) := by decide +kernel
theorem dL_put_59 : decode cL_put 59 = .ok (.invokestatic 9, 3) := by decide +kernel
theorem dL_put_62 : decode cL_put 62 = .ok (.iload 8, 2) := by decide +kernel
theorem dL_put_64 : decode cL_put 64 = .ok (.iconst 3, 1) := by decide +kernel
theorem dL_put_65 : decode cL_put 65 = .ok (.idiv, 1) := by decide +kernel
theorem dL_put_66 : decode cL_put 66 = .ok (.bipush 9, 2) := by decide +kernel
theorem dL_put_68 : decode cL_put 68 = .ok (.imul, 1) := by decide +kernel
theorem dL_put_69 : decode cL_put 69 = .ok (.ishr, 1) := by decide +kernel
theorem dL_put_70 : decode cL_put 70 = .ok (.istore 9, 2) := by decide +kernel
theorem dL_put_72 : decode cL_put 72 = .ok (.iload 8, 2) := by decide +kernel
theorem dL_put_74 : decode cL_put 74 = .ok (.ifCond .le 16, 3) := by decide +kernel
theorem dL_put_77 : decode cL_put 77 = .ok (.iload 9, 2) := by decide +kernel
theorem dL_put_79 : decode cL_put 79 = .ok (.iconst 4, 1) := by decide +kernel
theorem dL_put_80 : decode cL_put 80 = .ok (.invokestatic 15, 3) := by decide +kernel
theorem dL_put_83 : decode cL_put 83 = .ok (.ifCond .le 7, 3) := by decide +kernel
theorem dL_put_86 : decode cL_put 86 = .ok (.iconst 1, 1) := by decide +kernel
theorem dL_put_87 : decode cL_put 87 = .ok (.goto 4, 3) := by decide +kernel
theorem dL_put_90 : decode cL_put 90 = .ok (.iconst 0, 1) := by decide +kernel
theorem dL_put_91 : decode cL_put 91 = .ok (.istore 10, 2) := by decide +kernel
theorem dL_put_93 : decode cL_put 93 = .ok (.aload 4, 2) := by decide +kernel
theorem dL_put_95 : decode cL_put 95 = .ok (.iload 8, 2) := by decide +kernel
theorem dL_put_97 : decode cL_put 97 = .ok (.iload 10, 2) := by decide +kernel
theorem dL_put_99 : decode cL_put 99 = .ok (.ifCond .eq 13, 3) := by decide +kernel
theorem dL_put_102 : decode cL_put 102 = .ok (.aload 4, 2) := by decide +kernel
theorem dL_put_104 : decode cL_put 104 = .ok (.iload 8, 2) := by decide +kernel
theorem dL_put_106 : decode cL_put 106 = .ok (.iconst 1, 1) := by decide +kernel
theorem dL_put_107 : decode cL_put 107 = .ok (.isub, 1) := by decide +kernel
theorem dL_put_108 : decode cL_put 108 = .ok (.laload, 1) := by decide +kernel
theorem dL_put_109 : decode cL_put 109 = .ok (.goto 4, 3) := by decide +kernel
theorem dL_put_112 : decode cL_put 112 = .ok (.lconst 0, 1) := by decide +kernel
theorem dL_put_113 : decode cL_put 113 = .ok (.lastore, 1) := by decide +kernel
theorem dL_put_114 : decode cL_put 114 = .ok (.aload 5, 2) := by decide +kernel
theorem dL_put_116 : decode cL_put 116 = .ok (.iconst 1, 1) := by decide +kernel
theorem dL_put_117 : decode cL_put 117 = .ok (.iload 8, 2) := by decide +kernel
theorem dL_put_119 : decode cL_put 119 = .ok (.iadd, 1) := by decide +kernel
theorem dL_put_120 : decode cL_put 120 = .ok (.iload 10, 2) := by decide +kernel
theorem dL_put_122 : decode cL_put 122 = .ok (.ifCond .eq 11, 3) := by decide +kernel
theorem dL_put_125 : decode cL_put 125 = .ok (.aload 5, 2) := by decide +kernel
theorem dL_put_127 : decode cL_put 127 = .ok (.iload 8, 2) := by decide +kernel
theorem dL_put_129 : decode cL_put 129 = .ok (.iaload, 1) := by decide +kernel
theorem dL_put_130 : decode cL_put 130 = .ok (.goto 4, 3) := by decide +kernel
theorem dL_put_133 : decode cL_put 133 = .ok (.iconst 0, 1) := by decide +kernel
theorem dL_put_134 : decode cL_put 134 = .ok (.iastore, 1) := by decide +kernel
theorem dL_put_135 : decode cL_put 135 = .ok (.iload 10, 2) := by decide +kernel
theorem dL_put_137 : decode cL_put 137 = .ok (.ifCond .eq 14, 3) := by decide +kernel
theorem dL_put_140 : decode cL_put 140 = .ok (.iload 9, 2) := by decide +kernel
theorem dL_put_142 : decode cL_put 142 = .ok (.iconst 2, 1) := by decide +kernel
theorem dL_put_143 : decode cL_put 143 = .ok (.ishr, 1) := by decide +kernel
theorem dL_put_144 : decode cL_put 144 = .ok (.iconst 3, 1) := by decide +kernel
theorem dL_put_145 : decode cL_put 145 = .ok (.invokestatic 15, 3) := by decide +kernel
theorem dL_put_148 : decode cL_put 148 = .ok (.goto 14, 3) := by decide +kernel
theorem dL_put_151 : decode cL_put 151 = .ok (.iconst 1, 1) := by decide +kernel
theorem dL_put_152 : decode cL_put 152 = .ok (.iload 9, 2) := by decide +kernel
theorem dL_put_154 : decode cL_put 154 = .ok (.iconst 2, 1) := by decide +kernel
theorem dL_put_155 : decode cL_put 155 = .ok (.ishr, 1) := by decide +kernel
theorem dL_put_156 : decode cL_put 156 = .ok (.bipush 6, 2) := by decide +kernel
theorem dL_put_158 : decode cL_put 158 = .ok (.invokestatic 15, 3) := by decide +kernel
theorem dL_put_161 : decode cL_put 161 = .ok (.iadd, 1) := by decide +kernel
theorem dL_put_162 : decode cL_put 162 = .ok (.istore 11, 2) := by decide +kernel
theorem dL_put_164 : decode cL_put 164 = .ok (.iconst 0, 1) := by decide +kernel
theorem dL_put_165 : decode cL_put 165 = .ok (.istore 12, 2) := by decide +kernel
theorem dL_put_167 : decode cL_put 167 = .ok (.iload 12, 2) := by decide +kernel
theorem dL_put_169 : decode cL_put 169 = .ok (.iload 11, 2) := by decide +kernel
theorem dL_put_171 : decode cL_put 171 = .ok (.if_icmp .ge 100, 3) := by decide +kernel
theorem dL_put_174 : decode cL_put 174 = .ok (.aload 5, 2) := by decide +kernel
theorem dL_put_176 : decode cL_put 176 = .ok (.iconst 1, 1) := by decide +kernel
theorem dL_put_177 : decode cL_put 177 = .ok (.iload 8, 2) := by decide +kernel
theorem dL_put_179 : decode cL_put 179 = .ok (.iadd, 1) := by decide +kernel
theorem dL_put_180 : decode cL_put 180 = .ok (.iaload, 1) := by decide +kernel
theorem dL_put_181 : decode cL_put 181 = .ok (.iload_n 3, 1) := by decide +kernel
theorem dL_put_182 : decode cL_put 182 = .ok (.if_icmp .ge 89, 3) := by decide +kernel
theorem dL_put_185 : decode cL_put 185 = .ok (.iload 9, 2) := by decide +kernel
theorem dL_put_187 : decode cL_put 187 = .ok (.iconst 4, 1) := by decide +kernel
theorem dL_put_188 : decode cL_put 188 = .ok (.iload 12, 2) := by decide +kernel
theorem dL_put_190 : decode cL_put 190 = .ok (.iadd, 1) := by decide +kernel
theorem dL_put_191 : decode cL_put 191 = .ok (.ishr, 1) := by decide +kernel
theorem dL_put_192 : decode cL_put 192 = .ok (.aload 5, 2) := by decide +kernel
theorem dL_put_194 : decode cL_put 194 = .ok (.iconst 1, 1) := by decide +kernel
theorem dL_put_195 : decode cL_put 195 = .ok (.iload 8, 2) := by decide +kernel
theorem dL_put_197 : decode cL_put 197 = .ok (.iadd, 1) := by decide +kernel
theorem dL_put_198 : decode cL_put 198 = .ok (.iaload, 1) := by decide +kernel
theorem dL_put_199 : decode cL_put 199 = .ok (.iconst 1, 1) := by decide +kernel
theorem dL_put_200 : decode cL_put 200 = .ok (.iadd, 1) := by decide +kernel
theorem dL_put_201 : decode cL_put 201 = .ok (.invokestatic 15, 3) := by decide +kernel
theorem dL_put_204 : decode cL_put 204 = .ok (.istore 13, 2) := by decide +kernel
theorem dL_put_206 : decode cL_put 206 = .ok (.iload 9, 2) := by decide +kernel
theorem dL_put_208 : decode cL_put 208 = .ok (.iconst 3, 1) := by decide +kernel
theorem dL_put_209 : decode cL_put 209 = .ok (.iconst 2, 1) := by decide +kernel
theorem dL_put_210 : decode cL_put 210 = .ok (.iload 12, 2) := by decide +kernel
theorem dL_put_212 : decode cL_put 212 = .ok (.imul, 1) := by decide +kernel
theorem dL_put_213 : decode cL_put 213 = .ok (.iadd, 1) := by decide +kernel
theorem dL_put_214 : decode cL_put 214 = .ok (.ishr, 1) := by decide +kernel
theorem dL_put_215 : decode cL_put 215 = .ok (.iload 6, 2) := by decide +kernel
theorem dL_put_217 : decode cL_put 217 = .ok (.iconst 5, 1) := by decide +kernel
theorem dL_put_218 : decode cL_put 218 = .ok (.ishr, 1) := by decide +kernel
theorem dL_put_219 : decode cL_put 219 = .ok (.iconst 2, 1) := by decide +kernel
theorem dL_put_220 : decode cL_put 220 = .ok (.invokestatic 15, 3) := by decide +kernel
theorem dL_put_223 : decode cL_put 223 = .ok (.ifCond .ne 8, 3) := by decide +kernel
theorem dL_put_226 : decode cL_put 226 = .ok (.bipush 8, 2) := by decide +kernel
theorem dL_put_228 : decode cL_put 228 = .ok (.goto 4, 3) := by decide +kernel
theorem dL_put_231 : decode cL_put 231 = .ok (.iconst 3, 1) := by decide +kernel
theorem dL_put_232 : decode cL_put 232 = .ok (.invokestatic 15, 3) := by decide +kernel
theorem dL_put_235 : decode cL_put 235 = .ok (.istore 14, 2) := by decide +kernel
theorem dL_put_237 : decode cL_put 237 = .ok (.aload 4, 2) := by decide +kernel
theorem dL_put_239 : decode cL_put 239 = .ok (.iload 8, 2) := by decide +kernel
theorem dL_put_241 : decode cL_put 241 = .ok (.aload 4, 2) := by decide +kernel
theorem dL_put_243 : decode cL_put 243 = .ok (.iload 8, 2) := by decide +kernel
theorem dL_put_245 : decode cL_put 245 = .ok (.laload, 1) := by decide +kernel
theorem dL_put_246 : decode cL_put 246 = .ok (.iload 13, 2) := by decide +kernel
theorem dL_put_248 : decode cL_put 248 = .ok (.iload 14, 2) := by decide +kernel
theorem dL_put_250 : decode cL_put 250 = .ok (.invokestatic 25, 3) := by decide +kernel
theorem dL_put_253 : decode cL_put 253 = .ok (.lastore, 1) := by decide +kernel
theorem dL_put_254 : decode cL_put 254 = .ok (.aload 5, 2) := by decide +kernel
theorem dL_put_256 : decode cL_put 256 = .ok (.iconst 1, 1) := by decide +kernel
theorem dL_put_257 : decode cL_put 257 = .ok (.iload 8, 2) := by decide +kernel
theorem dL_put_259 : decode cL_put 259 = .ok (.iadd, 1) := by decide +kernel
theorem dL_put_260 : decode cL_put 260 = .ok (.dup2, 1) := by decide +kernel
theorem dL_put_261 : decode cL_put 261 = .ok (.iaload, 1) := by decide +kernel
theorem dL_put_262 : decode cL_put 262 = .ok (.iconst 1, 1) := by decide +kernel
theorem dL_put_263 : decode cL_put 263 = .ok (.iadd, 1) := by decide +kernel
theorem dL_put_264 : decode cL_put 264 = .ok (.iastore, 1) := by decide +kernel
theorem dL_put_265 : decode cL_put 265 = .ok (.iinc 12 1, 3) := by decide +kernel
theorem dL_put_268 : decode cL_put 268 = .ok (.goto (-101), 3) := by decide +kernel
theorem dL_put_271 : decode cL_put 271 = .ok (.iload 8, 2) := by decide +kernel
theorem dL_put_273 : decode cL_put 273 = .ok (.ifCond .le 22, 3) := by decide +kernel
theorem dL_put_276 : decode cL_put 276 = .ok (.aload_n 0, 1) := by decide +kernel
theorem dL_put_277 : decode cL_put 277 = .ok (.iconst 0, 1) := by decide +kernel
theorem dL_put_278 : decode cL_put 278 = .ok (.iload 7, 2) := by decide +kernel
theorem dL_put_280 : decode cL_put 280 = .ok (.iinc 7 1, 3) := by decide +kernel
theorem dL_put_283 : decode cL_put 283 = .ok (.bipush 59, 2) := by decide +kernel
theorem dL_put_285 : decode cL_put 285 = .ok (.invokevirtual 29, 3) := by decide +kernel
theorem dL_put_288 : decode cL_put 288 = .ok (.iconst 1, 1) := by decide +kernel
theorem dL_put_289 : decode cL_put 289 = .ok (.if_icmp .eq 6, 3) := by decide +kernel
theorem dL_put_292 : decode cL_put 292 = .ok (.bipush (-99), 2) := by decide +kernel
theorem dL_put_294 : decode cL_put 294 = .ok (.ireturn, 1) := by decide +kernel
theorem dL_put_295 : decode cL_put 295 = .ok (.iconst 0, 1) := by decide +kernel
theorem dL_put_296 : decode cL_put 296 = .ok (.istore 12, 2) := by decide +kernel
theorem dL_put_298 : decode cL_put 298 = .ok (.iload 12, 2) := by decide +kernel
theorem dL_put_300 : decode cL_put 300 = .ok (.aload 5, 2) := by decide +kernel
theorem dL_put_302 : decode cL_put 302 = .ok (.iconst 1, 1) := by decide +kernel
theorem dL_put_303 : decode cL_put 303 = .ok (.iload 8, 2) := by decide +kernel
theorem dL_put_305 : decode cL_put 305 = .ok (.iadd, 1) := by decide +kernel
theorem dL_put_306 : decode cL_put 306 = .ok (.iaload, 1) := by decide +kernel
theorem dL_put_307 : decode cL_put 307 = .ok (.if_icmp .ge 39, 3) := by decide +kernel
theorem dL_put_310 : decode cL_put 310 = .ok (.aload_n 0, 1) := by decide +kernel
theorem dL_put_311 : decode cL_put 311 = .ok (.iconst 0, 1) := by decide +kernel
theorem dL_put_312 : decode cL_put 312 = .ok (.iload 7, 2) := by decide +kernel
theorem dL_put_314 : decode cL_put 314 = .ok (.iinc 7 1, 3) := by decide +kernel
theorem dL_put_317 : decode cL_put 317 = .ok (.bipush 97, 2) := by decide +kernel
theorem dL_put_319 : decode cL_put 319 = .ok (.aload 4, 2) := by decide +kernel
theorem dL_put_321 : decode cL_put 321 = .ok (.iload 8, 2) := by decide +kernel
theorem dL_put_323 : decode cL_put 323 = .ok (.laload, 1) := by decide +kernel
theorem dL_put_324 : decode cL_put 324 = .ok (.iload 12, 2) := by decide +kernel
theorem dL_put_326 : decode cL_put 326 = .ok (.invokestatic 32, 3) := by decide +kernel
theorem dL_put_329 : decode cL_put 329 = .ok (.iadd, 1) := by decide +kernel
theorem dL_put_330 : decode cL_put 330 = .ok (.invokevirtual 29, 3) := by decide +kernel
theorem dL_put_333 : decode cL_put 333 = .ok (.iconst 1, 1) := by decide +kernel
theorem dL_put_334 : decode cL_put 334 = .ok (.if_icmp .eq 6, 3) := by decide +kernel
theorem dL_put_337 : decode cL_put 337 = .ok (.bipush (-99), 2) := by decide +kernel
theorem dL_put_339 : decode cL_put 339 = .ok (.ireturn, 1) := by decide +kernel
theorem dL_put_340 : decode cL_put 340 = .ok (.iinc 12 1, 3) := by decide +kernel
theorem dL_put_343 : decode cL_put 343 = .ok (.goto (-45), 3) := by decide +kernel
theorem dL_put_346 : decode cL_put 346 = .ok (.iinc 8 1, 3) := by decide +kernel
theorem dL_put_349 : decode cL_put 349 = .ok (.goto (-308), 3) := by decide +kernel
theorem dL_put_352 : decode cL_put 352 = .ok (.iload 7, 2) := by decide +kernel
theorem dL_put_354 : decode cL_put 354 = .ok (.ireturn, 1) := by decide +kernel
theorem dL_word_0 : decode cL_word 0 = .ok (.lload_n 0, 1) := by decide +kernel
theorem dL_word_1 : decode cL_word 1 = .ok (.iconst 3, 1) := by decide +kernel
theorem dL_word_2 : decode cL_word 2 = .ok (.iload_n 2, 1) := by decide +kernel
theorem dL_word_3 : decode cL_word 3 = .ok (.imul, 1) := by decide +kernel
theorem dL_word_4 : decode cL_word 4 = .ok (.lshr, 1) := by decide +kernel
theorem dL_word_5 : decode cL_word 5 = .ok (.ldc2_w 36, 3) := by decide +kernel
theorem dL_word_8 : decode cL_word 8 = .ok (.land, 1) := by decide +kernel
theorem dL_word_9 : decode cL_word 9 = .ok (.l2i, 1) := by decide +kernel
theorem dL_word_10 : decode cL_word 10 = .ok (.ireturn, 1) := by decide +kernel
theorem dL_with_0 : decode cL_with 0 = .ok (.lload_n 0, 1) := by decide +kernel
theorem dL_with_1 : decode cL_with 1 = .ok (.lconst 1, 1) := by decide +kernel
theorem dL_with_2 : decode cL_with 2 = .ok (.iconst 3, 1) := by decide +kernel
theorem dL_with_3 : decode cL_with 3 = .ok (.iload_n 2, 1) := by decide +kernel
theorem dL_with_4 : decode cL_with 4 = .ok (.imul, 1) := by decide +kernel
theorem dL_with_5 : decode cL_with 5 = .ok (.lshl, 1) := by decide +kernel
theorem dL_with_6 : decode cL_with 6 = .ok (.lconst 1, 1) := by decide +kernel
theorem dL_with_7 : decode cL_with 7 = .ok (.lsub, 1) := by decide +kernel
theorem dL_with_8 : decode cL_with 8 = .ok (.land, 1) := by decide +kernel
theorem dL_with_9 : decode cL_with 9 = .ok (.lstore 4, 2) := by decide +kernel
theorem dL_with_11 : decode cL_with 11 = .ok (.lload 4, 2) := by decide +kernel
theorem dL_with_13 : decode cL_with 13 = .ok (.iload_n 3, 1) := by decide +kernel
theorem dL_with_14 : decode cL_with 14 = .ok (.i2l, 1) := by decide +kernel
theorem dL_with_15 : decode cL_with 15 = .ok (.iconst 3, 1) := by decide +kernel
theorem dL_with_16 : decode cL_with 16 = .ok (.iload_n 2, 1) := by decide +kernel
theorem dL_with_17 : decode cL_with 17 = .ok (.imul, 1) := by decide +kernel
theorem dL_with_18 : decode cL_with 18 = .ok (.lshl, 1) := by decide +kernel
theorem dL_with_19 : decode cL_with 19 = .ok (.lor, 1) := by decide +kernel
theorem dL_with_20 : decode cL_with 20 = .ok (.lload_n 0, 1) := by decide +kernel
theorem dL_with_21 : decode cL_with 21 = .ok (.iconst 3, 1) := by decide +kernel
theorem dL_with_22 : decode cL_with 22 = .ok (.iload_n 2, 1) := by decide +kernel
theorem dL_with_23 : decode cL_with 23 = .ok (.imul, 1) := by decide +kernel
theorem dL_with_24 : decode cL_with 24 = .ok (.lshr, 1) := by decide +kernel
theorem dL_with_25 : decode cL_with 25 = .ok (.iconst 3, 1) := by decide +kernel
theorem dL_with_26 : decode cL_with 26 = .ok (.iload_n 2, 1) := by decide +kernel
theorem dL_with_27 : decode cL_with 27 = .ok (.imul, 1) := by decide +kernel
theorem dL_with_28 : decode cL_with 28 = .ok (.iconst 3, 1) := by decide +kernel
theorem dL_with_29 : decode cL_with 29 = .ok (.iadd, 1) := by decide +kernel
theorem dL_with_30 : decode cL_with 30 = .ok (.lshl, 1) := by decide +kernel
theorem dL_with_31 : decode cL_with 31 = .ok (.lor, 1) := by decide +kernel
theorem dL_with_32 : decode cL_with 32 = .ok (.lreturn, 1) := by decide +kernel
set_option maxRecDepth 20000 in
theorem ggL_kinds_L_some : GoodIn wsL_kinds wsL_some := goodIn_r _ [4, 5] (by decide +kernel) (by decide +kernel)
set_option maxRecDepth 20000 in
theorem gL_kinds_L_some : GoodIn wsL_kinds (va_wsS RL 15 yL_some wsL_some) := goodIn_app (goodIn_of _ (by decide +kernel)) ggL_kinds_L_some
set_option maxRecDepth 20000 in
theorem ggL_kinds_X8_kind : GoodIn wsL_kinds wsX8_kind := goodIn_r _ [10, 11, 12, 13, 9, 14, 15, 16, 17, 18, 19, 20, 21, 22, 23, 24, 25, 26, 27, 28, 29, 30] (by decide +kernel) (by decide +kernel)
set_option maxRecDepth 20000 in
theorem gL_kinds_X8_kind : GoodIn wsL_kinds (wsV RL 38 RX8 yX8_kind wsX8_kind) := goodIn_app (goodIn_of _ (by decide +kernel)) ggL_kinds_X8_kind
theorem dL_kinds_0 : decode cL_kinds 0 = .ok (.iconst 0, 1) := by decide +kernel
theorem dL_kinds_1 : decode cL_kinds 1 = .ok (.istore_n 3, 1) := by decide +kernel
theorem dL_kinds_2 : decode cL_kinds 2 = .ok (.iload_n 3, 1) := by decide +kernel
theorem dL_kinds_3 : decode cL_kinds 3 = .ok (.iconst 3, 1) := by decide +kernel
theorem dL_kinds_4 : decode cL_kinds 4 = .ok (.if_icmp .ge 57, 3) := by decide +kernel
theorem dL_kinds_7 : decode cL_kinds 7 = .ok (.iload_n 1, 1) := by decide +kernel
theorem dL_kinds_8 : decode cL_kinds 8 = .ok (.iconst 4, 1) := by decide +kernel
theorem dL_kinds_9 : decode cL_kinds 9 = .ok (.iload_n 3, 1) := by decide +kernel
theorem dL_kinds_10 : decode cL_kinds 10 = .ok (.imul, 1) := by decide +kernel
theorem dL_kinds_11 : decode cL_kinds 11 = .ok (.ishr, 1) := by decide +kernel
theorem dL_kinds_12 : decode cL_kinds 12 = .ok (.bipush 8, 2) := by decide +kernel
theorem dL_kinds_14 : decode cL_kinds 14 = .ok (.invokestatic 15, 3) := by decide +kernel
theorem dL_kinds_17 : decode cL_kinds 17 = .ok (.istore 4, 2) := by decide +kernel
theorem dL_kinds_19 : decode cL_kinds 19 = .ok (.iload_n 1, 1) := by decide +kernel
theorem dL_kinds_20 : decode cL_kinds 20 = .ok (.iconst 3, 1) := by decide +kernel
theorem dL_kinds_21 : decode cL_kinds 21 = .ok (.iconst 4, 1) := by decide +kernel
theorem dL_kinds_22 : decode cL_kinds 22 = .ok (.iload_n 3, 1) := by decide +kernel
theorem dL_kinds_23 : decode cL_kinds 23 = .ok (.imul, 1) := by decide +kernel
theorem dL_kinds_24 : decode cL_kinds 24 = .ok (.iadd, 1) := by decide +kernel
theorem dL_kinds_25 : decode cL_kinds 25 = .ok (.ishr, 1) := by decide +kernel
theorem dL_kinds_26 : decode cL_kinds 26 = .ok (.iconst 3, 1) := by decide +kernel
theorem dL_kinds_27 : decode cL_kinds 27 = .ok (.invokestatic 15, 3) := by decide +kernel
theorem dL_kinds_30 : decode cL_kinds 30 = .ok (.istore 5, 2) := by decide +kernel
theorem dL_kinds_32 : decode cL_kinds 32 = .ok (.aload_n 0, 1) := by decide +kernel
theorem dL_kinds_33 : decode cL_kinds 33 = .ok (.iload 4, 2) := by decide +kernel
theorem dL_kinds_35 : decode cL_kinds 35 = .ok (.iload 5, 2) := by decide +kernel
theorem dL_kinds_37 : decode cL_kinds 37 = .ok (.invokevirtual 38, 3) := by decide +kernel
theorem dL_kinds_40 : decode cL_kinds 40 = .ok (.aload_n 2, 1) := by decide +kernel
theorem dL_kinds_41 : decode cL_kinds 41 = .ok (.iload 4, 2) := by decide +kernel
theorem dL_kinds_43 : decode cL_kinds 43 = .ok (.iaload, 1) := by decide +kernel
theorem dL_kinds_44 : decode cL_kinds 44 = .ok (.if_icmp .eq 5, 3) := by decide +kernel
theorem dL_kinds_47 : decode cL_kinds 47 = .ok (.iconst 0, 1) := by decide +kernel
theorem dL_kinds_48 : decode cL_kinds 48 = .ok (.ireturn, 1) := by decide +kernel
theorem dL_kinds_49 : decode cL_kinds 49 = .ok (.aload_n 2, 1) := by decide +kernel
theorem dL_kinds_50 : decode cL_kinds 50 = .ok (.iload 4, 2) := by decide +kernel
theorem dL_kinds_52 : decode cL_kinds 52 = .ok (.iload 5, 2) := by decide +kernel
theorem dL_kinds_54 : decode cL_kinds 54 = .ok (.iastore, 1) := by decide +kernel
theorem dL_kinds_55 : decode cL_kinds 55 = .ok (.iinc 3 1, 3) := by decide +kernel
theorem dL_kinds_58 : decode cL_kinds 58 = .ok (.goto (-56), 3) := by decide +kernel
theorem dL_kinds_61 : decode cL_kinds 61 = .ok (.iconst 1, 1) := by decide +kernel
theorem dL_kinds_62 : decode cL_kinds 62 = .ok (.ireturn, 1) := by decide +kernel
set_option maxRecDepth 20000 in
theorem ggL_within_L_word : GoodIn wsL_within wsL_word := goodIn_r _ [4, 5] (by decide +kernel) (by decide +kernel)
set_option maxRecDepth 20000 in
theorem gL_within_L_word : GoodIn wsL_within (va_wsS RL 32 yL_word wsL_word) := goodIn_app (goodIn_of _ (by decide +kernel)) ggL_within_L_word
theorem dL_within_0 : decode cL_within 0 = .ok (.iconst 0, 1) := by decide +kernel
theorem dL_within_1 : decode cL_within 1 = .ok (.istore 6, 2) := by decide +kernel
theorem dL_within_3 : decode cL_within 3 = .ok (.iconst 0, 1) := by decide +kernel
theorem dL_within_4 : decode cL_within 4 = .ok (.istore 7, 2) := by decide +kernel
theorem dL_within_6 : decode cL_within 6 = .ok (.iload 7, 2) := by decide +kernel
theorem dL_within_8 : decode cL_within 8 = .ok (.iload 5, 2) := by decide +kernel
theorem dL_within_10 : decode cL_within 10 = .ok (.if_icmp .ge 40, 3) := by decide +kernel
theorem dL_within_13 : decode cL_within 13 = .ok (.iload 6, 2) := by decide +kernel
theorem dL_within_15 : decode cL_within 15 = .ok (.iload_n 2, 1) := by decide +kernel
theorem dL_within_16 : decode cL_within 16 = .ok (.if_icmp .ge 34, 3) := by decide +kernel
theorem dL_within_19 : decode cL_within 19 = .ok (.iload 6, 2) := by decide +kernel
theorem dL_within_21 : decode cL_within 21 = .ok (.lload_n 0, 1) := by decide +kernel
theorem dL_within_22 : decode cL_within 22 = .ok (.iload 6, 2) := by decide +kernel
theorem dL_within_24 : decode cL_within 24 = .ok (.invokestatic 32, 3) := by decide +kernel
theorem dL_within_27 : decode cL_within 27 = .ok (.lload_n 3, 1) := by decide +kernel
theorem dL_within_28 : decode cL_within 28 = .ok (.iload 7, 2) := by decide +kernel
theorem dL_within_30 : decode cL_within 30 = .ok (.invokestatic 32, 3) := by decide +kernel
theorem dL_within_33 : decode cL_within 33 = .ok (.if_icmp .ne 7, 3) := by decide +kernel
theorem dL_within_36 : decode cL_within 36 = .ok (.iconst 1, 1) := by decide +kernel
theorem dL_within_37 : decode cL_within 37 = .ok (.goto 4, 3) := by decide +kernel
theorem dL_within_40 : decode cL_within 40 = .ok (.iconst 0, 1) := by decide +kernel
theorem dL_within_41 : decode cL_within 41 = .ok (.iadd, 1) := by decide +kernel
theorem dL_within_42 : decode cL_within 42 = .ok (.istore 6, 2) := by decide +kernel
theorem dL_within_44 : decode cL_within 44 = .ok (.iinc 7 1, 3) := by decide +kernel
theorem dL_within_47 : decode cL_within 47 = .ok (.goto (-41), 3) := by decide +kernel
theorem dL_within_50 : decode cL_within 50 = .ok (.iload 6, 2) := by decide +kernel
theorem dL_within_52 : decode cL_within 52 = .ok (.iload_n 2, 1) := by decide +kernel
theorem dL_within_53 : decode cL_within 53 = .ok (.if_icmp .ne 7, 3) := by decide +kernel
theorem dL_within_56 : decode cL_within 56 = .ok (.iconst 1, 1) := by decide +kernel
theorem dL_within_57 : decode cL_within 57 = .ok (.goto 4, 3) := by decide +kernel
theorem dL_within_60 : decode cL_within 60 = .ok (.iconst 0, 1) := by decide +kernel
theorem dL_within_61 : decode cL_within 61 = .ok (.ireturn, 1) := by decide +kernel
set_option maxRecDepth 20000 in
theorem ggL_part_L_word : GoodIn wsL_part wsL_word := goodIn_r _ [4, 5] (by decide +kernel) (by decide +kernel)
set_option maxRecDepth 20000 in
theorem gL_part_L_word : GoodIn wsL_part (va_wsS RL 32 yL_word wsL_word) := goodIn_app (goodIn_of _ (by decide +kernel)) ggL_part_L_word
theorem dL_part_0 : decode cL_part 0 = .ok (.lconst 0, 1) := by decide +kernel
theorem dL_part_1 : decode cL_part 1 = .ok (.lstore 4, 2) := by decide +kernel
theorem dL_part_3 : decode cL_part 3 = .ok (.iconst 0, 1) := by decide +kernel
theorem dL_part_4 : decode cL_part 4 = .ok (.istore 6, 2) := by decide +kernel
theorem dL_part_6 : decode cL_part 6 = .ok (.iconst 0, 1) := by decide +kernel
theorem dL_part_7 : decode cL_part 7 = .ok (.istore 7, 2) := by decide +kernel
theorem dL_part_9 : decode cL_part 9 = .ok (.iload 7, 2) := by decide +kernel
theorem dL_part_11 : decode cL_part 11 = .ok (.iload_n 2, 1) := by decide +kernel
theorem dL_part_12 : decode cL_part 12 = .ok (.if_icmp .ge 41, 3) := by decide +kernel
theorem dL_part_15 : decode cL_part 15 = .ok (.iload_n 3, 1) := by decide +kernel
theorem dL_part_16 : decode cL_part 16 = .ok (.iload 7, 2) := by decide +kernel
theorem dL_part_18 : decode cL_part 18 = .ok (.ishr, 1) := by decide +kernel
theorem dL_part_19 : decode cL_part 19 = .ok (.iconst 1, 1) := by decide +kernel
theorem dL_part_20 : decode cL_part 20 = .ok (.iand, 1) := by decide +kernel
theorem dL_part_21 : decode cL_part 21 = .ok (.ifCond .ne 6, 3) := by decide +kernel
theorem dL_part_24 : decode cL_part 24 = .ok (.goto 23, 3) := by decide +kernel
theorem dL_part_27 : decode cL_part 27 = .ok (.lload 4, 2) := by decide +kernel
theorem dL_part_29 : decode cL_part 29 = .ok (.lload_n 0, 1) := by decide +kernel
theorem dL_part_30 : decode cL_part 30 = .ok (.iload 7, 2) := by decide +kernel
theorem dL_part_32 : decode cL_part 32 = .ok (.invokestatic 32, 3) := by decide +kernel
theorem dL_part_35 : decode cL_part 35 = .ok (.i2l, 1) := by decide +kernel
theorem dL_part_36 : decode cL_part 36 = .ok (.iconst 3, 1) := by decide +kernel
theorem dL_part_37 : decode cL_part 37 = .ok (.iload 6, 2) := by decide +kernel
theorem dL_part_39 : decode cL_part 39 = .ok (.imul, 1) := by decide +kernel
theorem dL_part_40 : decode cL_part 40 = .ok (.lshl, 1) := by decide +kernel
theorem dL_part_41 : decode cL_part 41 = .ok (.lor, 1) := by decide +kernel
theorem dL_part_42 : decode cL_part 42 = .ok (.lstore 4, 2) := by decide +kernel
theorem dL_part_44 : decode cL_part 44 = .ok (.iinc 6 1, 3) := by decide +kernel
theorem dL_part_47 : decode cL_part 47 = .ok (.iinc 7 1, 3) := by decide +kernel
theorem dL_part_50 : decode cL_part 50 = .ok (.goto (-41), 3) := by decide +kernel
theorem dL_part_53 : decode cL_part 53 = .ok (.lload 4, 2) := by decide +kernel
theorem dL_part_55 : decode cL_part 55 = .ok (.lreturn, 1) := by decide +kernel
theorem dL_size_0 : decode cL_size 0 = .ok (.iconst 0, 1) := by decide +kernel
theorem dL_size_1 : decode cL_size 1 = .ok (.istore_n 1, 1) := by decide +kernel
theorem dL_size_2 : decode cL_size 2 = .ok (.iload_n 0, 1) := by decide +kernel
theorem dL_size_3 : decode cL_size 3 = .ok (.istore_n 2, 1) := by decide +kernel
theorem dL_size_4 : decode cL_size 4 = .ok (.iload_n 2, 1) := by decide +kernel
theorem dL_size_5 : decode cL_size 5 = .ok (.ifCond .le 15, 3) := by decide +kernel
theorem dL_size_8 : decode cL_size 8 = .ok (.iinc 1 1, 3) := by decide +kernel
theorem dL_size_11 : decode cL_size 11 = .ok (.iload_n 2, 1) := by decide +kernel
theorem dL_size_12 : decode cL_size 12 = .ok (.iload_n 2, 1) := by decide +kernel
theorem dL_size_13 : decode cL_size 13 = .ok (.iconst 1, 1) := by decide +kernel
theorem dL_size_14 : decode cL_size 14 = .ok (.isub, 1) := by decide +kernel
theorem dL_size_15 : decode cL_size 15 = .ok (.iand, 1) := by decide +kernel
theorem dL_size_16 : decode cL_size 16 = .ok (.istore_n 2, 1) := by decide +kernel
theorem dL_size_17 : decode cL_size 17 = .ok (.goto (-13), 3) := by decide +kernel
theorem dL_size_20 : decode cL_size 20 = .ok (.iload_n 1, 1) := by decide +kernel
theorem dL_size_21 : decode cL_size 21 = .ok (.ireturn, 1) := by decide +kernel
set_option maxRecDepth 20000 in
theorem ggL_said_L_word : GoodIn wsL_said wsL_word := goodIn_r _ [4, 5] (by decide +kernel) (by decide +kernel)
set_option maxRecDepth 20000 in
theorem gL_said_L_word : GoodIn wsL_said (va_wsS RL 32 yL_word wsL_word) := goodIn_app (goodIn_of _ (by decide +kernel)) ggL_said_L_word
theorem dL_said_0 : decode cL_said 0 = .ok (.iconst 0, 1) := by decide +kernel
theorem dL_said_1 : decode cL_said 1 = .ok (.istore 4, 2) := by decide +kernel
theorem dL_said_3 : decode cL_said 3 = .ok (.iconst 0, 1) := by decide +kernel
theorem dL_said_4 : decode cL_said 4 = .ok (.istore 5, 2) := by decide +kernel
theorem dL_said_6 : decode cL_said 6 = .ok (.iconst (-1), 1) := by decide +kernel
theorem dL_said_7 : decode cL_said 7 = .ok (.istore 6, 2) := by decide +kernel
theorem dL_said_9 : decode cL_said 9 = .ok (.iconst 0, 1) := by decide +kernel
theorem dL_said_10 : decode cL_said 10 = .ok (.istore 7, 2) := by decide +kernel
theorem dL_said_12 : decode cL_said 12 = .ok (.iload 7, 2) := by decide +kernel
theorem dL_said_14 : decode cL_said 14 = .ok (.iload_n 3, 1) := by decide +kernel
theorem dL_said_15 : decode cL_said 15 = .ok (.if_icmp .ge 98, 3) := by decide +kernel
theorem dL_said_18 : decode cL_said 18 = .ok (.lload_n 1, 1) := by decide +kernel
theorem dL_said_19 : decode cL_said 19 = .ok (.iload 7, 2) := by decide +kernel
theorem dL_said_21 : decode cL_said 21 = .ok (.invokestatic 32, 3) := by decide +kernel
theorem dL_said_24 : decode cL_said 24 = .ok (.istore 8, 2) := by decide +kernel
theorem dL_said_26 : decode cL_said 26 = .ok (.aload_n 0, 1) := by decide +kernel
theorem dL_said_27 : decode cL_said 27 = .ok (.iload 8, 2) := by decide +kernel
theorem dL_said_29 : decode cL_said 29 = .ok (.iaload, 1) := by decide +kernel
theorem dL_said_30 : decode cL_said 30 = .ok (.ifCond .le 9, 3) := by decide +kernel
theorem dL_said_33 : decode cL_said 33 = .ok (.iload 5, 2) := by decide +kernel
theorem dL_said_35 : decode cL_said 35 = .ok (.iconst 1, 1) := by decide +kernel
theorem dL_said_36 : decode cL_said 36 = .ok (.ixor, 1) := by decide +kernel
theorem dL_said_37 : decode cL_said 37 = .ok (.istore 5, 2) := by decide +kernel
theorem dL_said_39 : decode cL_said 39 = .ok (.aload_n 0, 1) := by decide +kernel
theorem dL_said_40 : decode cL_said 40 = .ok (.iload 8, 2) := by decide +kernel
theorem dL_said_42 : decode cL_said 42 = .ok (.iaload, 1) := by decide +kernel
theorem dL_said_43 : decode cL_said 43 = .ok (.iconst 2, 1) := by decide +kernel
theorem dL_said_44 : decode cL_said 44 = .ok (.if_icmp .ne 19, 3) := by decide +kernel
theorem dL_said_47 : decode cL_said 47 = .ok (.iload 6, 2) := by decide +kernel
theorem dL_said_49 : decode cL_said 49 = .ok (.ifCond .lt 14, 3) := by decide +kernel
theorem dL_said_52 : decode cL_said 52 = .ok (.iload 4, 2) := by decide +kernel
theorem dL_said_54 : decode cL_said 54 = .ok (.iconst 1, 1) := by decide +kernel
theorem dL_said_55 : decode cL_said 55 = .ok (.iload 6, 2) := by decide +kernel
theorem dL_said_57 : decode cL_said 57 = .ok (.ishl, 1) := by decide +kernel
theorem dL_said_58 : decode cL_said 58 = .ok (.iconst (-1), 1) := by decide +kernel
theorem dL_said_59 : decode cL_said 59 = .ok (.ixor, 1) := by decide +kernel
theorem dL_said_60 : decode cL_said 60 = .ok (.iand, 1) := by decide +kernel
theorem dL_said_61 : decode cL_said 61 = .ok (.istore 4, 2) := by decide +kernel
theorem dL_said_63 : decode cL_said 63 = .ok (.aload_n 0, 1) := by decide +kernel
theorem dL_said_64 : decode cL_said 64 = .ok (.iload 8, 2) := by decide +kernel
theorem dL_said_66 : decode cL_said 66 = .ok (.iaload, 1) := by decide +kernel
theorem dL_said_67 : decode cL_said 67 = .ok (.ifCond .le 6, 3) := by decide +kernel
theorem dL_said_70 : decode cL_said 70 = .ok (.goto 37, 3) := by decide +kernel
theorem dL_said_73 : decode cL_said 73 = .ok (.iload 5, 2) := by decide +kernel
theorem dL_said_75 : decode cL_said 75 = .ok (.iconst 1, 1) := by decide +kernel
theorem dL_said_76 : decode cL_said 76 = .ok (.if_icmp .ne 15, 3) := by decide +kernel
theorem dL_said_79 : decode cL_said 79 = .ok (.iload 4, 2) := by decide +kernel
theorem dL_said_81 : decode cL_said 81 = .ok (.iconst 1, 1) := by decide +kernel
theorem dL_said_82 : decode cL_said 82 = .ok (.iload 8, 2) := by decide +kernel
theorem dL_said_84 : decode cL_said 84 = .ok (.ishl, 1) := by decide +kernel
theorem dL_said_85 : decode cL_said 85 = .ok (.iconst (-1), 1) := by decide +kernel
theorem dL_said_86 : decode cL_said 86 = .ok (.ixor, 1) := by decide +kernel
theorem dL_said_87 : decode cL_said 87 = .ok (.iand, 1) := by decide +kernel
theorem dL_said_88 : decode cL_said 88 = .ok (.goto 10, 3) := by decide +kernel
theorem dL_said_91 : decode cL_said 91 = .ok (.iload 4, 2) := by decide +kernel
theorem dL_said_93 : decode cL_said 93 = .ok (.iconst 1, 1) := by decide +kernel
theorem dL_said_94 : decode cL_said 94 = .ok (.iload 8, 2) := by decide +kernel
theorem dL_said_96 : decode cL_said 96 = .ok (.ishl, 1) := by decide +kernel
theorem dL_said_97 : decode cL_said 97 = .ok (.ior, 1) := by decide +kernel
theorem dL_said_98 : decode cL_said 98 = .ok (.istore 4, 2) := by decide +kernel
theorem dL_said_100 : decode cL_said 100 = .ok (.iconst 0, 1) := by decide +kernel
theorem dL_said_101 : decode cL_said 101 = .ok (.istore 5, 2) := by decide +kernel
theorem dL_said_103 : decode cL_said 103 = .ok (.iload 8, 2) := by decide +kernel
theorem dL_said_105 : decode cL_said 105 = .ok (.istore 6, 2) := by decide +kernel
theorem dL_said_107 : decode cL_said 107 = .ok (.iinc 7 1, 3) := by decide +kernel
theorem dL_said_110 : decode cL_said 110 = .ok (.goto (-98), 3) := by decide +kernel
theorem dL_said_113 : decode cL_said 113 = .ok (.iload 4, 2) := by decide +kernel
theorem dL_said_115 : decode cL_said 115 = .ok (.ireturn, 1) := by decide +kernel
