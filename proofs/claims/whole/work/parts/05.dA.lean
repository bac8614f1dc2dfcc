set_option maxRecDepth 20000 in
theorem ggX0_init_X4_init : GoodIn wsX0_init wsX4_init := goodIn_r _ [10, 11, 2, 3, 12, 13, 14] (by decide +kernel) (by decide +kernel)
set_option maxRecDepth 20000 in
theorem gX0_init_X4_init_n9 : GoodIn wsX0_init (wsX4_init) := ggX0_init_X4_init
theorem dX0_init_0 : decode cX0_init 0 = .ok (.aload_n 0, 1) := by decide +kernel
theorem dX0_init_1 : decode cX0_init 1 = .ok (.invokespecial 1, 3) := by decide +kernel
theorem dX0_init_4 : decode cX0_init 4 = .ok (.aload_n 0, 1) := by decide +kernel
theorem dX0_init_5 : decode cX0_init 5 = .ok (.new 7, 3) := by decide +kernel
theorem dX0_init_8 : decode cX0_init 8 = .ok (.dup, 1) := by decide +kernel
theorem dX0_init_9 : decode cX0_init 9 = .ok (.invokespecial 9, 3) := by decide +kernel
theorem dX0_init_12 : decode cX0_init 12 = .ok (.putfield 10, 3) := by decide +kernel
theorem dX0_init_15 : decode cX0_init 15 = .ok (.aload_n 0, 1) := by decide +kernel
theorem dX0_init_16 : decode cX0_init 16 = .ok (.new 7, 3) := by decide +kernel
theorem dX0_init_19 : decode cX0_init 19 = .ok (.dup, 1) := by decide +kernel
theorem dX0_init_20 : decode cX0_init 20 = .ok (.invokespecial 9, 3) := by decide +kernel
theorem dX0_init_23 : decode cX0_init 23 = .ok (.putfield 16, 3) := by decide +kernel
theorem dX0_init_26 : decode cX0_init 26 = .ok (.return_, 1) := by decide +kernel
set_option maxRecDepth 20000 in
theorem ggX0_count_X4_clear : GoodIn wsX0_count wsX4_clear := goodIn_r _ [6, 7, 8, 9, 10, 11, 56] (by decide +kernel) (by decide +kernel)
set_option maxRecDepth 20000 in
theorem gX0_count_X4_clear : GoodIn wsX0_count (wsV RX0 19 RX4 yX4_clear wsX4_clear) := goodIn_app (goodIn_of _ (by decide +kernel)) ggX0_count_X4_clear
set_option maxRecDepth 20000 in
theorem ggX0_count_X4_write : GoodIn wsX0_count wsX4_write := goodIn_r _ [15, 7, 16, 17, 5, 18, 56] (by decide +kernel) (by decide +kernel)
set_option maxRecDepth 20000 in
theorem gX0_count_X4_write : GoodIn wsX0_count (wsV RX0 22 RX4 yX4_write wsX4_write) := goodIn_app (goodIn_of _ (by decide +kernel)) ggX0_count_X4_write
set_option maxRecDepth 20000 in
theorem ggX0_count_X0_goOn : GoodIn wsX0_count wsX0_goOn := goodIn_r _ [23, 24, 1, 2, 3, 4, 5, 6, 7, 8, 9, 10, 11, 25, 26, 27, 28, 29, 30, 31, 32, 33, 34, 16, 17, 18, 35, 36, 37, 22, 38, 39, 40, 41, 42, 43, 44, 45, 46, 47, 48, 49, 50, 51, 52, 53, 13, 14, 15, 54, 55, 56, 57, 58] (by decide +kernel) (by decide +kernel)
set_option maxRecDepth 20000 in
theorem gX0_count_X0_goOn : GoodIn wsX0_count (wsV RX0 26 RX0 yX0_goOn wsX0_goOn) := goodIn_app (goodIn_of _ (by decide +kernel)) ggX0_count_X0_goOn
set_option maxRecDepth 20000 in
theorem ggX0_count_X2_size : GoodIn wsX0_count wsX2_size := goodIn_r _ [29, 30, 57, 58] (by decide +kernel) (by decide +kernel)
set_option maxRecDepth 20000 in
theorem gX0_count_X2_size : GoodIn wsX0_count (wsV RX0 30 RX2 yX2_size wsX2_size) := goodIn_app (goodIn_of _ (by decide +kernel)) ggX0_count_X2_size
set_option maxRecDepth 20000 in
theorem ggX0_count_X4_at : GoodIn wsX0_count wsX4_at := goodIn_r _ [34, 7, 16, 17, 5, 18, 56] (by decide +kernel) (by decide +kernel)
set_option maxRecDepth 20000 in
theorem gX0_count_X4_at : GoodIn wsX0_count (wsV RX0 36 RX4 yX4_at wsX4_at) := goodIn_app (goodIn_of _ (by decide +kernel)) ggX0_count_X4_at
theorem dX0_count_0 : decode cX0_count 0 = .ok (.aload_n 0, 1) := by decide +kernel
theorem dX0_count_1 : decode cX0_count 1 = .ok (.getfield 10, 3) := by decide +kernel
theorem dX0_count_4 : decode cX0_count 4 = .ok (.invokevirtual 19, 3) := by decide +kernel
theorem dX0_count_7 : decode cX0_count 7 = .ok (.aload_n 0, 1) := by decide +kernel
theorem dX0_count_8 : decode cX0_count 8 = .ok (.getfield 10, 3) := by decide +kernel
theorem dX0_count_11 : decode cX0_count 11 = .ok (.iconst 0, 1) := by decide +kernel
theorem dX0_count_12 : decode cX0_count 12 = .ok (.iconst 0, 1) := by decide +kernel
theorem dX0_count_13 : decode cX0_count 13 = .ok (.lconst 1, 1) := by decide +kernel
theorem dX0_count_14 : decode cX0_count 14 = .ok (.invokevirtual 22, 3) := by decide +kernel
theorem dX0_count_17 : decode cX0_count 17 = .ok (.iconst 0, 1) := by decide +kernel
theorem dX0_count_18 : decode cX0_count 18 = .ok (.istore 4, 2) := by decide +kernel
theorem dX0_count_20 : decode cX0_count 20 = .ok (.iload 4, 2) := by decide +kernel
theorem dX0_count_22 : decode cX0_count 22 = .ok (.iload_n 3, 1) := by decide +kernel
theorem dX0_count_23 : decode cX0_count 23 = .ok (.if_icmp .ge 15, 3) := by decide +kernel
theorem dX0_count_26 : decode cX0_count 26 = .ok (.aload_n 0, 1) := by decide +kernel
theorem dX0_count_27 : decode cX0_count 27 = .ok (.aload_n 1, 1) := by decide +kernel
theorem dX0_count_28 : decode cX0_count 28 = .ok (.aload_n 2, 1) := by decide +kernel
theorem dX0_count_29 : decode cX0_count 29 = .ok (.invokevirtual 26, 3) := by decide +kernel
theorem dX0_count_32 : decode cX0_count 32 = .ok (.iinc 4 1, 3) := by decide +kernel
theorem dX0_count_35 : decode cX0_count 35 = .ok (.goto (-15), 3) := by decide +kernel
theorem dX0_count_38 : decode cX0_count 38 = .ok (.lconst 0, 1) := by decide +kernel
theorem dX0_count_39 : decode cX0_count 39 = .ok (.lstore 4, 2) := by decide +kernel
theorem dX0_count_41 : decode cX0_count 41 = .ok (.iconst 0, 1) := by decide +kernel
theorem dX0_count_42 : decode cX0_count 42 = .ok (.istore 6, 2) := by decide +kernel
theorem dX0_count_44 : decode cX0_count 44 = .ok (.iload 6, 2) := by decide +kernel
theorem dX0_count_46 : decode cX0_count 46 = .ok (.aload_n 2, 1) := by decide +kernel
theorem dX0_count_47 : decode cX0_count 47 = .ok (.invokevirtual 30, 3) := by decide +kernel
theorem dX0_count_50 : decode cX0_count 50 = .ok (.if_icmp .gt 27, 3) := by decide +kernel
theorem dX0_count_53 : decode cX0_count 53 = .ok (.lload 4, 2) := by decide +kernel
theorem dX0_count_55 : decode cX0_count 55 = .ok (.aload_n 0, 1) := by decide +kernel
theorem dX0_count_56 : decode cX0_count 56 = .ok (.getfield 10, 3) := by decide +kernel
theorem dX0_count_59 : decode cX0_count 59 = .ok (.aload_n 1, 1) := by decide +kernel
theorem dX0_count_60 : decode cX0_count 60 = .ok (.invokevirtual 30, 3) := by decide +kernel
theorem dX0_count_63 : decode cX0_count 63 = .ok (.iload 6, 2) := by decide +kernel
theorem dX0_count_65 : decode cX0_count 65 = .ok (.invokevirtual 36, 3) := by decide +kernel
theorem dX0_count_68 : decode cX0_count 68 = .ok (.ladd, 1) := by decide +kernel
theorem dX0_count_69 : decode cX0_count 69 = .ok (.lstore 4, 2) := by decide +kernel
theorem dX0_count_71 : decode cX0_count 71 = .ok (.iinc 6 1, 3) := by decide +kernel
theorem dX0_count_74 : decode cX0_count 74 = .ok (.goto (-30), 3) := by decide +kernel
theorem dX0_count_77 : decode cX0_count 77 = .ok (.lload 4, 2) := by decide +kernel
theorem dX0_count_79 : decode cX0_count 79 = .ok (.lreturn, 1) := by decide +kernel
set_option maxRecDepth 20000 in
theorem ggX0_goOn_X4_clear : GoodIn wsX0_goOn wsX4_clear := goodIn_r _ [7, 8, 9, 10, 11, 12, 51] (by decide +kernel) (by decide +kernel)
set_option maxRecDepth 20000 in
theorem gX0_goOn_X4_clear : GoodIn wsX0_goOn (wsV RX0 19 RX4 yX4_clear wsX4_clear) := goodIn_app (goodIn_of _ (by decide +kernel)) ggX0_goOn_X4_clear
set_option maxRecDepth 20000 in
theorem ggX0_goOn_X2_size : GoodIn wsX0_goOn wsX2_size := goodIn_r _ [17, 18, 52, 53] (by decide +kernel) (by decide +kernel)
set_option maxRecDepth 20000 in
theorem gX0_goOn_X2_size : GoodIn wsX0_goOn (wsV RX0 30 RX2 yX2_size wsX2_size) := goodIn_app (goodIn_of _ (by decide +kernel)) ggX0_goOn_X2_size
set_option maxRecDepth 20000 in
theorem ggX0_goOn_X4_at : GoodIn wsX0_goOn wsX4_at := goodIn_r _ [22, 8, 23, 24, 6, 25, 51] (by decide +kernel) (by decide +kernel)
set_option maxRecDepth 20000 in
theorem gX0_goOn_X4_at : GoodIn wsX0_goOn (wsV RX0 36 RX4 yX4_at wsX4_at) := goodIn_app (goodIn_of _ (by decide +kernel)) ggX0_goOn_X4_at
set_option maxRecDepth 20000 in
theorem ggX0_goOn_X0_goOnFrom : GoodIn wsX0_goOn wsX0_goOnFrom := goodIn_r _ [30, 1, 13, 14, 15, 16, 17, 18, 31, 32, 33, 34, 35, 36, 37, 38, 39, 40, 41, 42, 6, 43, 44, 20, 21, 22, 8, 23, 24, 25, 45, 46, 47, 48, 49, 50, 52, 53, 51] (by decide +kernel) (by decide +kernel)
set_option maxRecDepth 20000 in
theorem gX0_goOn_X0_goOnFrom : GoodIn wsX0_goOn (wsV RX0 40 RX0 yX0_goOnFrom wsX0_goOnFrom) := goodIn_app (goodIn_of _ (by decide +kernel)) ggX0_goOn_X0_goOnFrom
theorem dX0_goOn_0 : decode cX0_goOn 0 = .ok (.aload_n 0, 1) := by decide +kernel
theorem dX0_goOn_1 : decode cX0_goOn 1 = .ok (.getfield 16, 3) := by decide +kernel
theorem dX0_goOn_4 : decode cX0_goOn 4 = .ok (.invokevirtual 19, 3) := by decide +kernel
theorem dX0_goOn_7 : decode cX0_goOn 7 = .ok (.iconst 0, 1) := by decide +kernel
theorem dX0_goOn_8 : decode cX0_goOn 8 = .ok (.istore_n 3, 1) := by decide +kernel
theorem dX0_goOn_9 : decode cX0_goOn 9 = .ok (.iload_n 3, 1) := by decide +kernel
theorem dX0_goOn_10 : decode cX0_goOn 10 = .ok (.aload_n 1, 1) := by decide +kernel
theorem dX0_goOn_11 : decode cX0_goOn 11 = .ok (.invokevirtual 30, 3) := by decide +kernel
theorem dX0_goOn_14 : decode cX0_goOn 14 = .ok (.if_icmp .gt 57, 3) := by decide +kernel
theorem dX0_goOn_17 : decode cX0_goOn 17 = .ok (.iconst 0, 1) := by decide +kernel
theorem dX0_goOn_18 : decode cX0_goOn 18 = .ok (.istore 4, 2) := by decide +kernel
theorem dX0_goOn_20 : decode cX0_goOn 20 = .ok (.iload 4, 2) := by decide +kernel
theorem dX0_goOn_22 : decode cX0_goOn 22 = .ok (.aload_n 2, 1) := by decide +kernel
theorem dX0_goOn_23 : decode cX0_goOn 23 = .ok (.invokevirtual 30, 3) := by decide +kernel
theorem dX0_goOn_26 : decode cX0_goOn 26 = .ok (.if_icmp .ge 39, 3) := by decide +kernel
theorem dX0_goOn_29 : decode cX0_goOn 29 = .ok (.aload_n 0, 1) := by decide +kernel
theorem dX0_goOn_30 : decode cX0_goOn 30 = .ok (.getfield 10, 3) := by decide +kernel
theorem dX0_goOn_33 : decode cX0_goOn 33 = .ok (.iload_n 3, 1) := by decide +kernel
theorem dX0_goOn_34 : decode cX0_goOn 34 = .ok (.iload 4, 2) := by decide +kernel
theorem dX0_goOn_36 : decode cX0_goOn 36 = .ok (.invokevirtual 36, 3) := by decide +kernel
theorem dX0_goOn_39 : decode cX0_goOn 39 = .ok (.lstore 5, 2) := by decide +kernel
theorem dX0_goOn_41 : decode cX0_goOn 41 = .ok (.lload 5, 2) := by decide +kernel
theorem dX0_goOn_43 : decode cX0_goOn 43 = .ok (.lconst 0, 1) := by decide +kernel
theorem dX0_goOn_44 : decode cX0_goOn 44 = .ok (.lcmp, 1) := by decide +kernel
theorem dX0_goOn_45 : decode cX0_goOn 45 = .ok (.ifCond .eq 14, 3) := by decide +kernel
theorem dX0_goOn_48 : decode cX0_goOn 48 = .ok (.aload_n 0, 1) := by decide +kernel
theorem dX0_goOn_49 : decode cX0_goOn 49 = .ok (.aload_n 1, 1) := by decide +kernel
theorem dX0_goOn_50 : decode cX0_goOn 50 = .ok (.iload_n 3, 1) := by decide +kernel
theorem dX0_goOn_51 : decode cX0_goOn 51 = .ok (.aload_n 2, 1) := by decide +kernel
theorem dX0_goOn_52 : decode cX0_goOn 52 = .ok (.iload 4, 2) := by decide +kernel
theorem dX0_goOn_54 : decode cX0_goOn 54 = .ok (.lload 5, 2) := by decide +kernel
theorem dX0_goOn_56 : decode cX0_goOn 56 = .ok (.invokevirtual 40, 3) := by decide +kernel
theorem dX0_goOn_59 : decode cX0_goOn 59 = .ok (.iinc 4 1, 3) := by decide +kernel
theorem dX0_goOn_62 : decode cX0_goOn 62 = .ok (.goto (-42), 3) := by decide +kernel
theorem dX0_goOn_65 : decode cX0_goOn 65 = .ok (.iinc 3 1, 3) := by decide +kernel
theorem dX0_goOn_68 : decode cX0_goOn 68 = .ok (.goto (-59), 3) := by decide +kernel
theorem dX0_goOn_71 : decode cX0_goOn 71 = .ok (.aload_n 0, 1) := by decide +kernel
theorem dX0_goOn_72 : decode cX0_goOn 72 = .ok (.getfield 10, 3) := by decide +kernel
theorem dX0_goOn_75 : decode cX0_goOn 75 = .ok (.astore_n 3, 1) := by decide +kernel
theorem dX0_goOn_76 : decode cX0_goOn 76 = .ok (.aload_n 0, 1) := by decide +kernel
theorem dX0_goOn_77 : decode cX0_goOn 77 = .ok (.aload_n 0, 1) := by decide +kernel
theorem dX0_goOn_78 : decode cX0_goOn 78 = .ok (.getfield 16, 3) := by decide +kernel
theorem dX0_goOn_81 : decode cX0_goOn 81 = .ok (.putfield 10, 3) := by decide +kernel
theorem dX0_goOn_84 : decode cX0_goOn 84 = .ok (.aload_n 0, 1) := by decide +kernel
theorem dX0_goOn_85 : decode cX0_goOn 85 = .ok (.aload_n 3, 1) := by decide +kernel
theorem dX0_goOn_86 : decode cX0_goOn 86 = .ok (.putfield 16, 3) := by decide +kernel
theorem dX0_goOn_89 : decode cX0_goOn 89 = .ok (.return_, 1) := by decide +kernel
set_option maxRecDepth 20000 in
theorem ggX0_goOnFrom_X2_size : GoodIn wsX0_goOnFrom wsX2_size := goodIn_r _ [6, 7, 36, 37] (by decide +kernel) (by decide +kernel)
set_option maxRecDepth 20000 in
theorem gX0_goOnFrom_X2_size : GoodIn wsX0_goOnFrom (wsV RX0 30 RX2 yX2_size wsX2_size) := goodIn_app (goodIn_of _ (by decide +kernel)) ggX0_goOnFrom_X2_size
set_option maxRecDepth 20000 in
theorem ggX0_goOnFrom_X2_at : GoodIn wsX0_goOnFrom wsX2_at := goodIn_r _ [11, 12, 13, 14, 15, 5, 16, 7, 36, 37] (by decide +kernel) (by decide +kernel)
set_option maxRecDepth 20000 in
theorem gX0_goOnFrom_X2_at : GoodIn wsX0_goOnFrom (wsV RX0 44 RX2 yX2_at wsX2_at) := goodIn_app (goodIn_of _ (by decide +kernel)) ggX0_goOnFrom_X2_at
set_option maxRecDepth 20000 in
theorem ggX0_goOnFrom_X4_more : GoodIn wsX0_goOnFrom wsX4_more := goodIn_r _ [21, 22, 23, 24, 20, 25, 26, 27, 28, 29, 30, 31, 32, 33, 38] (by decide +kernel) (by decide +kernel)
set_option maxRecDepth 20000 in
theorem gX0_goOnFrom_X4_more : GoodIn wsX0_goOnFrom (wsV RX0 47 RX4 yX4_more wsX4_more) := goodIn_app (goodIn_of _ (by decide +kernel)) ggX0_goOnFrom_X4_more
theorem dX0_goOnFrom_0 : decode cX0_goOnFrom 0 = .ok (.iconst 0, 1) := by decide +kernel
theorem dX0_goOnFrom_1 : decode cX0_goOnFrom 1 = .ok (.istore 7, 2) := by decide +kernel
theorem dX0_goOnFrom_3 : decode cX0_goOnFrom 3 = .ok (.iload 4, 2) := by decide +kernel
theorem dX0_goOnFrom_5 : decode cX0_goOnFrom 5 = .ok (.istore 8, 2) := by decide +kernel
theorem dX0_goOnFrom_7 : decode cX0_goOnFrom 7 = .ok (.iload 8, 2) := by decide +kernel
theorem dX0_goOnFrom_9 : decode cX0_goOnFrom 9 = .ok (.aload_n 3, 1) := by decide +kernel
theorem dX0_goOnFrom_10 : decode cX0_goOnFrom 10 = .ok (.invokevirtual 30, 3) := by decide +kernel
theorem dX0_goOnFrom_13 : decode cX0_goOnFrom 13 = .ok (.if_icmp .ge 68, 3) := by decide +kernel
theorem dX0_goOnFrom_16 : decode cX0_goOnFrom 16 = .ok (.aload_n 3, 1) := by decide +kernel
theorem dX0_goOnFrom_17 : decode cX0_goOnFrom 17 = .ok (.iload 8, 2) := by decide +kernel
theorem dX0_goOnFrom_19 : decode cX0_goOnFrom 19 = .ok (.invokevirtual 44, 3) := by decide +kernel
theorem dX0_goOnFrom_22 : decode cX0_goOnFrom 22 = .ok (.istore 9, 2) := by decide +kernel
theorem dX0_goOnFrom_24 : decode cX0_goOnFrom 24 = .ok (.iconst 1, 1) := by decide +kernel
theorem dX0_goOnFrom_25 : decode cX0_goOnFrom 25 = .ok (.iload 9, 2) := by decide +kernel
theorem dX0_goOnFrom_27 : decode cX0_goOnFrom 27 = .ok (.ishl, 1) := by decide +kernel
theorem dX0_goOnFrom_28 : decode cX0_goOnFrom 28 = .ok (.istore 10, 2) := by decide +kernel
theorem dX0_goOnFrom_30 : decode cX0_goOnFrom 30 = .ok (.iload 7, 2) := by decide +kernel
theorem dX0_goOnFrom_32 : decode cX0_goOnFrom 32 = .ok (.iload 10, 2) := by decide +kernel
theorem dX0_goOnFrom_34 : decode cX0_goOnFrom 34 = .ok (.iand, 1) := by decide +kernel
theorem dX0_goOnFrom_35 : decode cX0_goOnFrom 35 = .ok (.ifCond .ne 40, 3) := by decide +kernel
theorem dX0_goOnFrom_38 : decode cX0_goOnFrom 38 = .ok (.iload 7, 2) := by decide +kernel
theorem dX0_goOnFrom_40 : decode cX0_goOnFrom 40 = .ok (.iload 10, 2) := by decide +kernel
theorem dX0_goOnFrom_42 : decode cX0_goOnFrom 42 = .ok (.ior, 1) := by decide +kernel
theorem dX0_goOnFrom_43 : decode cX0_goOnFrom 43 = .ok (.istore 7, 2) := by decide +kernel
theorem dX0_goOnFrom_45 : decode cX0_goOnFrom 45 = .ok (.aload_n 0, 1) := by decide +kernel
theorem dX0_goOnFrom_46 : decode cX0_goOnFrom 46 = .ok (.getfield 16, 3) := by decide +kernel
theorem dX0_goOnFrom_49 : decode cX0_goOnFrom 49 = .ok (.aload_n 1, 1) := by decide +kernel
theorem dX0_goOnFrom_50 : decode cX0_goOnFrom 50 = .ok (.iload_n 2, 1) := by decide +kernel
theorem dX0_goOnFrom_51 : decode cX0_goOnFrom 51 = .ok (.invokevirtual 44, 3) := by decide +kernel
theorem dX0_goOnFrom_54 : decode cX0_goOnFrom 54 = .ok (.iload 9, 2) := by decide +kernel
theorem dX0_goOnFrom_56 : decode cX0_goOnFrom 56 = .ok (.if_icmp .ne 9, 3) := by decide +kernel
theorem dX0_goOnFrom_59 : decode cX0_goOnFrom 59 = .ok (.iload_n 2, 1) := by decide +kernel
theorem dX0_goOnFrom_60 : decode cX0_goOnFrom 60 = .ok (.iconst 1, 1) := by decide +kernel
theorem dX0_goOnFrom_61 : decode cX0_goOnFrom 61 = .ok (.iadd, 1) := by decide +kernel
theorem dX0_goOnFrom_62 : decode cX0_goOnFrom 62 = .ok (.goto 4, 3) := by decide +kernel
theorem dX0_goOnFrom_65 : decode cX0_goOnFrom 65 = .ok (.iload_n 2, 1) := by decide +kernel
theorem dX0_goOnFrom_66 : decode cX0_goOnFrom 66 = .ok (.iload 8, 2) := by decide +kernel
theorem dX0_goOnFrom_68 : decode cX0_goOnFrom 68 = .ok (.iconst 1, 1) := by decide +kernel
theorem dX0_goOnFrom_69 : decode cX0_goOnFrom 69 = .ok (.iadd, 1) := by decide +kernel
theorem dX0_goOnFrom_70 : decode cX0_goOnFrom 70 = .ok (.lload 5, 2) := by decide +kernel
theorem dX0_goOnFrom_72 : decode cX0_goOnFrom 72 = .ok (.invokevirtual 47, 3) := by decide +kernel
theorem dX0_goOnFrom_75 : decode cX0_goOnFrom 75 = .ok (.iinc 8 1, 3) := by decide +kernel
theorem dX0_goOnFrom_78 : decode cX0_goOnFrom 78 = .ok (.goto (-71), 3) := by decide +kernel
theorem dX0_goOnFrom_81 : decode cX0_goOnFrom 81 = .ok (.return_, 1) := by decide +kernel
set_option maxRecDepth 20000 in
theorem ggX1_init_X4_init : GoodIn wsX1_init wsX4_init := goodIn_r _ [10, 11, 2, 3, 12, 13, 14] (by decide +kernel) (by decide +kernel)
set_option maxRecDepth 20000 in
theorem gX1_init_X4_init_n11 : GoodIn wsX1_init (wsX4_init) := ggX1_init_X4_init
theorem dX1_init_0 : decode cX1_init 0 = .ok (.aload_n 0, 1) := by decide +kernel
theorem dX1_init_1 : decode cX1_init 1 = .ok (.invokespecial 3, 3) := by decide +kernel
theorem dX1_init_4 : decode cX1_init 4 = .ok (.aload_n 0, 1) := by decide +kernel
theorem dX1_init_5 : decode cX1_init 5 = .ok (.new 9, 3) := by decide +kernel
theorem dX1_init_8 : decode cX1_init 8 = .ok (.dup, 1) := by decide +kernel
theorem dX1_init_9 : decode cX1_init 9 = .ok (.invokespecial 11, 3) := by decide +kernel
theorem dX1_init_12 : decode cX1_init 12 = .ok (.putfield 12, 3) := by decide +kernel
theorem dX1_init_15 : decode cX1_init 15 = .ok (.aload_n 0, 1) := by decide +kernel
theorem dX1_init_16 : decode cX1_init 16 = .ok (.new 9, 3) := by decide +kernel
theorem dX1_init_19 : decode cX1_init 19 = .ok (.dup, 1) := by decide +kernel
theorem dX1_init_20 : decode cX1_init 20 = .ok (.invokespecial 11, 3) := by decide +kernel
theorem dX1_init_23 : decode cX1_init 23 = .ok (.putfield 18, 3) := by decide +kernel
theorem dX1_init_26 : decode cX1_init 26 = .ok (.return_, 1) := by decide +kernel
set_option maxRecDepth 20000 in
theorem ggX1_length_X2_size : GoodIn wsX1_length wsX2_size := goodIn_r _ [7, 8, 53, 54] (by decide +kernel) (by decide +kernel)
set_option maxRecDepth 20000 in
theorem gX1_length_X2_size : GoodIn wsX1_length (wsV RX1 21 RX2 yX2_size wsX2_size) := goodIn_app (goodIn_of _ (by decide +kernel)) ggX1_length_X2_size
set_option maxRecDepth 20000 in
theorem ggX1_length_X2_at : GoodIn wsX1_length wsX2_at := goodIn_r _ [12, 13, 14, 15, 16, 6, 17, 8, 53, 54] (by decide +kernel) (by decide +kernel)
set_option maxRecDepth 20000 in
theorem gX1_length_X2_at : GoodIn wsX1_length (wsV RX1 27 RX2 yX2_at wsX2_at) := goodIn_app (goodIn_of _ (by decide +kernel)) ggX1_length_X2_at
set_option maxRecDepth 20000 in
theorem ggX1_length_X1_lengthAt : GoodIn wsX1_length wsX1_lengthAt := goodIn_r _ [22, 23, 24, 25, 26, 21, 27, 1, 2, 28, 29, 30, 31, 32, 33, 34, 35, 36, 37, 38, 39, 40, 41, 42, 43, 44, 45, 46, 51, 52, 55] (by decide +kernel) (by decide +kernel)
set_option maxRecDepth 20000 in
theorem gX1_length_X1_lengthAt : GoodIn wsX1_length (wsV RX1 31 RX1 yX1_lengthAt wsX1_lengthAt) := goodIn_app (goodIn_of _ (by decide +kernel)) ggX1_length_X1_lengthAt
set_option maxRecDepth 20000 in
theorem ggX1_length_X4_write : GoodIn wsX1_length wsX4_write := goodIn_r _ [50, 33, 34, 35, 31, 36, 55] (by decide +kernel) (by decide +kernel)
set_option maxRecDepth 20000 in
theorem gX1_length_X4_write : GoodIn wsX1_length (wsV RX1 35 RX4 yX4_write wsX4_write) := goodIn_app (goodIn_of _ (by decide +kernel)) ggX1_length_X4_write
set_option maxRecDepth 20000 in
theorem ggX1_length_X4_at : GoodIn wsX1_length wsX4_at := goodIn_r _ [32, 33, 34, 35, 31, 36, 55] (by decide +kernel) (by decide +kernel)
set_option maxRecDepth 20000 in
theorem gX1_length_X4_at : GoodIn wsX1_length (wsV RX1 39 RX4 yX4_at wsX4_at) := goodIn_app (goodIn_of _ (by decide +kernel)) ggX1_length_X4_at
theorem dX1_length_0 : decode cX1_length 0 = .ok (.aload_n 1, 1) := by decide +kernel
theorem dX1_length_1 : decode cX1_length 1 = .ok (.invokevirtual 21, 3) := by decide +kernel
theorem dX1_length_4 : decode cX1_length 4 = .ok (.istore 4, 2) := by decide +kernel
theorem dX1_length_6 : decode cX1_length 6 = .ok (.iload 4, 2) := by decide +kernel
theorem dX1_length_8 : decode cX1_length 8 = .ok (.ifCond .lt 100, 3) := by decide +kernel
theorem dX1_length_11 : decode cX1_length 11 = .ok (.aload_n 0, 1) := by decide +kernel
theorem dX1_length_12 : decode cX1_length 12 = .ok (.getfield 18, 3) := by decide +kernel
theorem dX1_length_15 : decode cX1_length 15 = .ok (.astore 5, 2) := by decide +kernel
theorem dX1_length_17 : decode cX1_length 17 = .ok (.aload_n 0, 1) := by decide +kernel
theorem dX1_length_18 : decode cX1_length 18 = .ok (.aload_n 0, 1) := by decide +kernel
theorem dX1_length_19 : decode cX1_length 19 = .ok (.getfield 12, 3) := by decide +kernel
theorem dX1_length_22 : decode cX1_length 22 = .ok (.putfield 18, 3) := by decide +kernel
theorem dX1_length_25 : decode cX1_length 25 = .ok (.aload_n 0, 1) := by decide +kernel
theorem dX1_length_26 : decode cX1_length 26 = .ok (.aload 5, 2) := by decide +kernel
theorem dX1_length_28 : decode cX1_length 28 = .ok (.putfield 12, 3) := by decide +kernel
theorem dX1_length_31 : decode cX1_length 31 = .ok (.aload_n 2, 1) := by decide +kernel
theorem dX1_length_32 : decode cX1_length 32 = .ok (.invokevirtual 21, 3) := by decide +kernel
theorem dX1_length_35 : decode cX1_length 35 = .ok (.istore 6, 2) := by decide +kernel
theorem dX1_length_37 : decode cX1_length 37 = .ok (.iload 6, 2) := by decide +kernel
theorem dX1_length_39 : decode cX1_length 39 = .ok (.ifCond .lt 63, 3) := by decide +kernel
theorem dX1_length_42 : decode cX1_length 42 = .ok (.aload_n 3, 1) := by decide +kernel
theorem dX1_length_43 : decode cX1_length 43 = .ok (.invokevirtual 21, 3) := by decide +kernel
theorem dX1_length_46 : decode cX1_length 46 = .ok (.istore 7, 2) := by decide +kernel
theorem dX1_length_48 : decode cX1_length 48 = .ok (.iload 7, 2) := by decide +kernel
theorem dX1_length_50 : decode cX1_length 50 = .ok (.ifCond .lt 46, 3) := by decide +kernel
theorem dX1_length_53 : decode cX1_length 53 = .ok (.aload_n 0, 1) := by decide +kernel
theorem dX1_length_54 : decode cX1_length 54 = .ok (.getfield 12, 3) := by decide +kernel
theorem dX1_length_57 : decode cX1_length 57 = .ok (.iload 6, 2) := by decide +kernel
theorem dX1_length_59 : decode cX1_length 59 = .ok (.iload 7, 2) := by decide +kernel
theorem dX1_length_61 : decode cX1_length 61 = .ok (.aload_n 0, 1) := by decide +kernel
theorem dX1_length_62 : decode cX1_length 62 = .ok (.aload_n 1, 1) := by decide +kernel
theorem dX1_length_63 : decode cX1_length 63 = .ok (.iload 4, 2) := by decide +kernel
theorem dX1_length_65 : decode cX1_length 65 = .ok (.invokevirtual 27, 3) := by decide +kernel
theorem dX1_length_68 : decode cX1_length 68 = .ok (.aload_n 2, 1) := by decide +kernel
theorem dX1_length_69 : decode cX1_length 69 = .ok (.iload 6, 2) := by decide +kernel
theorem dX1_length_71 : decode cX1_length 71 = .ok (.invokevirtual 27, 3) := by decide +kernel
theorem dX1_length_74 : decode cX1_length 74 = .ok (.iload 6, 2) := by decide +kernel
theorem dX1_length_76 : decode cX1_length 76 = .ok (.aload_n 3, 1) := by decide +kernel
theorem dX1_length_77 : decode cX1_length 77 = .ok (.iload 7, 2) := by decide +kernel
theorem dX1_length_79 : decode cX1_length 79 = .ok (.invokevirtual 27, 3) := by decide +kernel
theorem dX1_length_82 : decode cX1_length 82 = .ok (.iload 7, 2) := by decide +kernel
theorem dX1_length_84 : decode cX1_length 84 = .ok (.invokevirtual 31, 3) := by decide +kernel
theorem dX1_length_87 : decode cX1_length 87 = .ok (.invokevirtual 35, 3) := by decide +kernel
theorem dX1_length_90 : decode cX1_length 90 = .ok (.iinc 7 (-1), 3) := by decide +kernel
theorem dX1_length_93 : decode cX1_length 93 = .ok (.goto (-45), 3) := by decide +kernel
theorem dX1_length_96 : decode cX1_length 96 = .ok (.iinc 6 (-1), 3) := by decide +kernel
theorem dX1_length_99 : decode cX1_length 99 = .ok (.goto (-62), 3) := by decide +kernel
theorem dX1_length_102 : decode cX1_length 102 = .ok (.iinc 4 (-1), 3) := by decide +kernel
theorem dX1_length_105 : decode cX1_length 105 = .ok (.goto (-99), 3) := by decide +kernel
theorem dX1_length_108 : decode cX1_length 108 = .ok (.aload_n 0, 1) := by decide +kernel
theorem dX1_length_109 : decode cX1_length 109 = .ok (.getfield 12, 3) := by decide +kernel
theorem dX1_length_112 : decode cX1_length 112 = .ok (.iconst 0, 1) := by decide +kernel
theorem dX1_length_113 : decode cX1_length 113 = .ok (.iconst 0, 1) := by decide +kernel
theorem dX1_length_114 : decode cX1_length 114 = .ok (.invokevirtual 39, 3) := by decide +kernel
theorem dX1_length_117 : decode cX1_length 117 = .ok (.l2i, 1) := by decide +kernel
theorem dX1_length_118 : decode cX1_length 118 = .ok (.ireturn, 1) := by decide +kernel
set_option maxRecDepth 20000 in
theorem ggX1_lengthAt_X1_by : GoodIn wsX1_lengthAt wsX1_by := goodIn_r _ [6, 1, 7, 8, 9, 10, 11, 12, 13, 14, 15, 16, 17, 28, 29, 30] (by decide +kernel) (by decide +kernel)
set_option maxRecDepth 20000 in
theorem gX1_lengthAt_X1_by : GoodIn wsX1_lengthAt (wsV RX1 42 RX1 yX1_by wsX1_by) := goodIn_app (goodIn_of _ (by decide +kernel)) ggX1_lengthAt_X1_by
set_option maxRecDepth 20000 in
theorem ggX1_lengthAt_X1_shorter : GoodIn wsX1_lengthAt wsX1_shorter := goodIn_r _ [20, 1, 21, 22, 23, 24, 25, 26, 27] (by decide +kernel) (by decide +kernel)
set_option maxRecDepth 20000 in
theorem gX1_lengthAt_X1_shorter : GoodIn wsX1_lengthAt (va_wsS RX1 46 yX1_shorter wsX1_shorter) := goodIn_app (goodIn_of _ (by decide +kernel)) ggX1_lengthAt_X1_shorter
theorem dX1_lengthAt_0 : decode cX1_lengthAt 0 = .ok (.aload_n 0, 1) := by decide +kernel
theorem dX1_lengthAt_1 : decode cX1_lengthAt 1 = .ok (.iload_n 1, 1) := by decide +kernel
theorem dX1_lengthAt_2 : decode cX1_lengthAt 2 = .ok (.iload_n 1, 1) := by decide +kernel
theorem dX1_lengthAt_3 : decode cX1_lengthAt 3 = .ok (.iload_n 2, 1) := by decide +kernel
theorem dX1_lengthAt_4 : decode cX1_lengthAt 4 = .ok (.iload_n 3, 1) := by decide +kernel
theorem dX1_lengthAt_5 : decode cX1_lengthAt 5 = .ok (.iload 4, 2) := by decide +kernel
theorem dX1_lengthAt_7 : decode cX1_lengthAt 7 = .ok (.iload 5, 2) := by decide +kernel
theorem dX1_lengthAt_9 : decode cX1_lengthAt 9 = .ok (.invokevirtual 42, 3) := by decide +kernel
theorem dX1_lengthAt_12 : decode cX1_lengthAt 12 = .ok (.aload_n 0, 1) := by decide +kernel
theorem dX1_lengthAt_13 : decode cX1_lengthAt 13 = .ok (.iload_n 2, 1) := by decide +kernel
theorem dX1_lengthAt_14 : decode cX1_lengthAt 14 = .ok (.iload_n 1, 1) := by decide +kernel
theorem dX1_lengthAt_15 : decode cX1_lengthAt 15 = .ok (.iload_n 2, 1) := by decide +kernel
theorem dX1_lengthAt_16 : decode cX1_lengthAt 16 = .ok (.iload_n 3, 1) := by decide +kernel
theorem dX1_lengthAt_17 : decode cX1_lengthAt 17 = .ok (.iload 4, 2) := by decide +kernel
theorem dX1_lengthAt_19 : decode cX1_lengthAt 19 = .ok (.iload 5, 2) := by decide +kernel
theorem dX1_lengthAt_21 : decode cX1_lengthAt 21 = .ok (.invokevirtual 42, 3) := by decide +kernel
theorem dX1_lengthAt_24 : decode cX1_lengthAt 24 = .ok (.invokestatic 46, 3) := by decide +kernel
theorem dX1_lengthAt_27 : decode cX1_lengthAt 27 = .ok (.lstore 6, 2) := by decide +kernel
theorem dX1_lengthAt_29 : decode cX1_lengthAt 29 = .ok (.lload 6, 2) := by decide +kernel
theorem dX1_lengthAt_31 : decode cX1_lengthAt 31 = .ok (.aload_n 0, 1) := by decide +kernel
theorem dX1_lengthAt_32 : decode cX1_lengthAt 32 = .ok (.iload 4, 2) := by decide +kernel
theorem dX1_lengthAt_34 : decode cX1_lengthAt 34 = .ok (.iload_n 1, 1) := by decide +kernel
theorem dX1_lengthAt_35 : decode cX1_lengthAt 35 = .ok (.iload_n 2, 1) := by decide +kernel
theorem dX1_lengthAt_36 : decode cX1_lengthAt 36 = .ok (.iload_n 3, 1) := by decide +kernel
theorem dX1_lengthAt_37 : decode cX1_lengthAt 37 = .ok (.iload 4, 2) := by decide +kernel
theorem dX1_lengthAt_39 : decode cX1_lengthAt 39 = .ok (.iload 5, 2) := by decide +kernel
theorem dX1_lengthAt_41 : decode cX1_lengthAt 41 = .ok (.invokevirtual 42, 3) := by decide +kernel
theorem dX1_lengthAt_44 : decode cX1_lengthAt 44 = .ok (.invokestatic 46, 3) := by decide +kernel
theorem dX1_lengthAt_47 : decode cX1_lengthAt 47 = .ok (.lstore 6, 2) := by decide +kernel
theorem dX1_lengthAt_49 : decode cX1_lengthAt 49 = .ok (.lload 6, 2) := by decide +kernel
theorem dX1_lengthAt_51 : decode cX1_lengthAt 51 = .ok (.ldc2_w 50, 3) := by decide +kernel
theorem dX1_lengthAt_54 : decode cX1_lengthAt 54 = .ok (.lcmp, 1) := by decide +kernel
theorem dX1_lengthAt_55 : decode cX1_lengthAt 55 = .ok (.ifCond .ne 7, 3) := by decide +kernel
theorem dX1_lengthAt_58 : decode cX1_lengthAt 58 = .ok (.lconst 0, 1) := by decide +kernel
theorem dX1_lengthAt_59 : decode cX1_lengthAt 59 = .ok (.goto 5, 3) := by decide +kernel
theorem dX1_lengthAt_62 : decode cX1_lengthAt 62 = .ok (.lload 6, 2) := by decide +kernel
theorem dX1_lengthAt_64 : decode cX1_lengthAt 64 = .ok (.lreturn, 1) := by decide +kernel
set_option maxRecDepth 20000 in
theorem ggX1_by_X4_at : GoodIn wsX1_by wsX4_at := goodIn_r _ [8, 9, 10, 11, 7, 12, 15] (by decide +kernel) (by decide +kernel)
set_option maxRecDepth 20000 in
theorem gX1_by_X4_at : GoodIn wsX1_by (wsV RX1 39 RX4 yX4_at wsX4_at) := goodIn_app (goodIn_of _ (by decide +kernel)) ggX1_by_X4_at
theorem dX1_by_0 : decode cX1_by 0 = .ok (.iload_n 1, 1) := by decide +kernel
theorem dX1_by_1 : decode cX1_by 1 = .ok (.bipush (-9), 2) := by decide +kernel
theorem dX1_by_3 : decode cX1_by 3 = .ok (.if_icmp .ne 7, 3) := by decide +kernel
theorem dX1_by_6 : decode cX1_by 6 = .ok (.ldc2_w 50, 3) := by decide +kernel
theorem dX1_by_9 : decode cX1_by 9 = .ok (.lreturn, 1) := by decide +kernel
theorem dX1_by_10 : decode cX1_by 10 = .ok (.iload_n 3, 1) := by decide +kernel
theorem dX1_by_11 : decode cX1_by 11 = .ok (.iload_n 1, 1) := by decide +kernel
theorem dX1_by_12 : decode cX1_by 12 = .ok (.if_icmp .ne 10, 3) := by decide +kernel
theorem dX1_by_15 : decode cX1_by 15 = .ok (.iload 4, 2) := by decide +kernel
theorem dX1_by_17 : decode cX1_by 17 = .ok (.iconst 1, 1) := by decide +kernel
theorem dX1_by_18 : decode cX1_by 18 = .ok (.iadd, 1) := by decide +kernel
theorem dX1_by_19 : decode cX1_by 19 = .ok (.goto 5, 3) := by decide +kernel
theorem dX1_by_22 : decode cX1_by 22 = .ok (.iload 4, 2) := by decide +kernel
theorem dX1_by_24 : decode cX1_by 24 = .ok (.istore 7, 2) := by decide +kernel
theorem dX1_by_26 : decode cX1_by 26 = .ok (.iload 5, 2) := by decide +kernel
theorem dX1_by_28 : decode cX1_by 28 = .ok (.iload_n 1, 1) := by decide +kernel
theorem dX1_by_29 : decode cX1_by 29 = .ok (.if_icmp .ne 10, 3) := by decide +kernel
theorem dX1_by_32 : decode cX1_by 32 = .ok (.iload 6, 2) := by decide +kernel
theorem dX1_by_34 : decode cX1_by 34 = .ok (.iconst 1, 1) := by decide +kernel
theorem dX1_by_35 : decode cX1_by 35 = .ok (.iadd, 1) := by decide +kernel
theorem dX1_by_36 : decode cX1_by 36 = .ok (.goto 5, 3) := by decide +kernel
theorem dX1_by_39 : decode cX1_by 39 = .ok (.iload 6, 2) := by decide +kernel
theorem dX1_by_41 : decode cX1_by 41 = .ok (.istore 8, 2) := by decide +kernel
theorem dX1_by_43 : decode cX1_by 43 = .ok (.lconst 1, 1) := by decide +kernel
theorem dX1_by_44 : decode cX1_by 44 = .ok (.iload_n 2, 1) := by decide +kernel
theorem dX1_by_45 : decode cX1_by 45 = .ok (.iload_n 1, 1) := by decide +kernel
theorem dX1_by_46 : decode cX1_by 46 = .ok (.if_icmp .ne 17, 3) := by decide +kernel
theorem dX1_by_49 : decode cX1_by 49 = .ok (.aload_n 0, 1) := by decide +kernel
theorem dX1_by_50 : decode cX1_by 50 = .ok (.getfield 18, 3) := by decide +kernel
theorem dX1_by_53 : decode cX1_by 53 = .ok (.iload 7, 2) := by decide +kernel
theorem dX1_by_55 : decode cX1_by 55 = .ok (.iload 8, 2) := by decide +kernel
theorem dX1_by_57 : decode cX1_by 57 = .ok (.invokevirtual 39, 3) := by decide +kernel
theorem dX1_by_60 : decode cX1_by 60 = .ok (.goto 14, 3) := by decide +kernel
theorem dX1_by_63 : decode cX1_by 63 = .ok (.aload_n 0, 1) := by decide +kernel
theorem dX1_by_64 : decode cX1_by 64 = .ok (.getfield 12, 3) := by decide +kernel
theorem dX1_by_67 : decode cX1_by 67 = .ok (.iload 7, 2) := by decide +kernel
theorem dX1_by_69 : decode cX1_by 69 = .ok (.iload 8, 2) := by decide +kernel
theorem dX1_by_71 : decode cX1_by 71 = .ok (.invokevirtual 39, 3) := by decide +kernel
theorem dX1_by_74 : decode cX1_by 74 = .ok (.ladd, 1) := by decide +kernel
theorem dX1_by_75 : decode cX1_by 75 = .ok (.lreturn, 1) := by decide +kernel
theorem dX1_shorter_0 : decode cX1_shorter 0 = .ok (.lload_n 0, 1) := by decide +kernel
theorem dX1_shorter_1 : decode cX1_shorter 1 = .ok (.ldc2_w 50, 3) := by decide +kernel
theorem dX1_shorter_4 : decode cX1_shorter 4 = .ok (.lcmp, 1) := by decide +kernel
theorem dX1_shorter_5 : decode cX1_shorter 5 = .ok (.ifCond .eq 11, 3) := by decide +kernel
theorem dX1_shorter_8 : decode cX1_shorter 8 = .ok (.lload_n 2, 1) := by decide +kernel
theorem dX1_shorter_9 : decode cX1_shorter 9 = .ok (.ldc2_w 50, 3) := by decide +kernel
theorem dX1_shorter_12 : decode cX1_shorter 12 = .ok (.lcmp, 1) := by decide +kernel
theorem dX1_shorter_13 : decode cX1_shorter 13 = .ok (.ifCond .ne 9, 3) := by decide +kernel
theorem dX1_shorter_16 : decode cX1_shorter 16 = .ok (.lload_n 0, 1) := by decide +kernel
theorem dX1_shorter_17 : decode cX1_shorter 17 = .ok (.lload_n 2, 1) := by decide +kernel
theorem dX1_shorter_18 : decode cX1_shorter 18 = .ok (.invokestatic 52, 3) := by decide +kernel
theorem dX1_shorter_21 : decode cX1_shorter 21 = .ok (.lreturn, 1) := by decide +kernel
theorem dX1_shorter_22 : decode cX1_shorter 22 = .ok (.lload_n 0, 1) := by decide +kernel
theorem dX1_shorter_23 : decode cX1_shorter 23 = .ok (.lload_n 2, 1) := by decide +kernel
theorem dX1_shorter_24 : decode cX1_shorter 24 = .ok (.invokestatic 57, 3) := by decide +kernel
theorem dX1_shorter_27 : decode cX1_shorter 27 = .ok (.lreturn, 1) := by decide +kernel
theorem dX2_init_0 : decode cX2_init 0 = .ok (.aload_n 0, 1) := by decide +kernel
theorem dX2_init_1 : decode cX2_init 1 = .ok (.invokespecial 3, 3) := by decide +kernel
theorem dX2_init_4 : decode cX2_init 4 = .ok (.aload_n 0, 1) := by decide +kernel
theorem dX2_init_5 : decode cX2_init 5 = .ok (.bipush 12, 2) := by decide +kernel
theorem dX2_init_7 : decode cX2_init 7 = .ok (.newarray .int, 2) := by decide +kernel
theorem dX2_init_9 : decode cX2_init 9 = .ok (.putfield 9, 3) := by decide +kernel
theorem dX2_init_12 : decode cX2_init 12 = .ok (.aload_n 0, 1) := by decide +kernel
theorem dX2_init_13 : decode cX2_init 13 = .ok (.iconst 0, 1) := by decide +kernel
theorem dX2_init_14 : decode cX2_init 14 = .ok (.putfield 15, 3) := by decide +kernel
theorem dX2_init_17 : decode cX2_init 17 = .ok (.return_, 1) := by decide +kernel
theorem dX2_size_0 : decode cX2_size 0 = .ok (.aload_n 0, 1) := by decide +kernel
theorem dX2_size_1 : decode cX2_size 1 = .ok (.getfield 15, 3) := by decide +kernel
theorem dX2_size_4 : decode cX2_size 4 = .ok (.ireturn, 1) := by decide +kernel
theorem dX2_isFull_0 : decode cX2_isFull 0 = .ok (.aload_n 0, 1) := by decide +kernel
theorem dX2_isFull_1 : decode cX2_isFull 1 = .ok (.getfield 15, 3) := by decide +kernel
theorem dX2_isFull_4 : decode cX2_isFull 4 = .ok (.bipush 12, 2) := by decide +kernel
theorem dX2_isFull_6 : decode cX2_isFull 6 = .ok (.if_icmp .lt 7, 3) := by decide +kernel
theorem dX2_isFull_9 : decode cX2_isFull 9 = .ok (.iconst 1, 1) := by decide +kernel
theorem dX2_isFull_10 : decode cX2_isFull 10 = .ok (.goto 4, 3) := by decide +kernel
theorem dX2_isFull_13 : decode cX2_isFull 13 = .ok (.iconst 0, 1) := by decide +kernel
theorem dX2_isFull_14 : decode cX2_isFull 14 = .ok (.ireturn, 1) := by decide +kernel
theorem dX2_has_0 : decode cX2_has 0 = .ok (.iload_n 1, 1) := by decide +kernel
theorem dX2_has_1 : decode cX2_has 1 = .ok (.ifCond .lt 15, 3) := by decide +kernel
theorem dX2_has_4 : decode cX2_has 4 = .ok (.iload_n 1, 1) := by decide +kernel
theorem dX2_has_5 : decode cX2_has 5 = .ok (.aload_n 0, 1) := by decide +kernel
theorem dX2_has_6 : decode cX2_has 6 = .ok (.getfield 15, 3) := by decide +kernel
theorem dX2_has_9 : decode cX2_has 9 = .ok (.if_icmp .ge 7, 3) := by decide +kernel
theorem dX2_has_12 : decode cX2_has 12 = .ok (.iconst 1, 1) := by decide +kernel
theorem dX2_has_13 : decode cX2_has 13 = .ok (.goto 4, 3) := by decide +kernel
theorem dX2_has_16 : decode cX2_has 16 = .ok (.iconst 0, 1) := by decide +kernel
theorem dX2_has_17 : decode cX2_has 17 = .ok (.ireturn, 1) := by decide +kernel
set_option maxRecDepth 20000 in
theorem ggX2_at_X2_has : GoodIn wsX2_at wsX2_has := goodIn_r _ [6, 7, 8, 9] (by decide +kernel) (by decide +kernel)
set_option maxRecDepth 20000 in
theorem gX2_at_X2_has : GoodIn wsX2_at (wsV RX2 19 RX2 yX2_has wsX2_has) := goodIn_app (goodIn_of _ (by decide +kernel)) ggX2_at_X2_has
theorem dX2_at_0 : decode cX2_at 0 = .ok (.aload_n 0, 1) := by decide +kernel
theorem dX2_at_1 : decode cX2_at 1 = .ok (.iload_n 1, 1) := by decide +kernel
theorem dX2_at_2 : decode cX2_at 2 = .ok (.invokevirtual 19, 3) := by decide +kernel
theorem dX2_at_5 : decode cX2_at 5 = .ok (.ifCond .eq 12, 3) := by decide +kernel
theorem dX2_at_8 : decode cX2_at 8 = .ok (.aload_n 0, 1) := by decide +kernel
theorem dX2_at_9 : decode cX2_at 9 = .ok (.getfield 9, 3) := by decide +kernel
theorem dX2_at_12 : decode cX2_at 12 = .ok (.iload_n 1, 1) := by decide +kernel
theorem dX2_at_13 : decode cX2_at 13 = .ok (.iaload, 1) := by decide +kernel
theorem dX2_at_14 : decode cX2_at 14 = .ok (.goto 5, 3) := by decide +kernel
theorem dX2_at_17 : decode cX2_at 17 = .ok (.bipush (-9), 2) := by decide +kernel
theorem dX2_at_19 : decode cX2_at 19 = .ok (.ireturn, 1) := by decide +kernel
theorem dX2_hasWord_0 : decode cX2_hasWord 0 = .ok (.iconst 0, 1) := by decide +kernel
theorem dX2_hasWord_1 : decode cX2_hasWord 1 = .ok (.istore_n 2, 1) := by decide +kernel
theorem dX2_hasWord_2 : decode cX2_hasWord 2 = .ok (.iload_n 2, 1) := by decide +kernel
theorem dX2_hasWord_3 : decode cX2_hasWord 3 = .ok (.aload_n 0, 1) := by decide +kernel
theorem dX2_hasWord_4 : decode cX2_hasWord 4 = .ok (.getfield 15, 3) := by decide +kernel
theorem dX2_hasWord_7 : decode cX2_hasWord 7 = .ok (.if_icmp .ge 21, 3) := by decide +kernel
theorem dX2_hasWord_10 : decode cX2_hasWord 10 = .ok (.aload_n 0, 1) := by decide +kernel
theorem dX2_hasWord_11 : decode cX2_hasWord 11 = .ok (.getfield 9, 3) := by decide +kernel
theorem dX2_hasWord_14 : decode cX2_hasWord 14 = .ok (.iload_n 2, 1) := by decide +kernel
theorem dX2_hasWord_15 : decode cX2_hasWord 15 = .ok (.iaload, 1) := by decide +kernel
theorem dX2_hasWord_16 : decode cX2_hasWord 16 = .ok (.iload_n 1, 1) := by decide +kernel
theorem dX2_hasWord_17 : decode cX2_hasWord 17 = .ok (.if_icmp .ne 5, 3) := by decide +kernel
theorem dX2_hasWord_20 : decode cX2_hasWord 20 = .ok (.iconst 1, 1) := by decide +kernel
theorem dX2_hasWord_21 : decode cX2_hasWord 21 = .ok (.ireturn, 1) := by decide +kernel
theorem dX2_hasWord_22 : decode cX2_hasWord 22 = .ok (.iinc 2 1, 3) := by decide +kernel
theorem dX2_hasWord_25 : decode cX2_hasWord 25 = .ok (.goto (-23), 3) := by decide +kernel
theorem dX2_hasWord_28 : decode cX2_hasWord 28 = .ok (.iconst 0, 1) := by decide +kernel
theorem dX2_hasWord_29 : decode cX2_hasWord 29 = .ok (.ireturn, 1) := by decide +kernel
theorem dX2_clear_0 : decode cX2_clear 0 = .ok (.aload_n 0, 1) := by decide +kernel
theorem dX2_clear_1 : decode cX2_clear 1 = .ok (.iconst 0, 1) := by decide +kernel
theorem dX2_clear_2 : decode cX2_clear 2 = .ok (.putfield 15, 3) := by decide +kernel
theorem dX2_clear_5 : decode cX2_clear 5 = .ok (.return_, 1) := by decide +kernel
set_option maxRecDepth 20000 in
theorem ggX2_insert_X2_isFull : GoodIn wsX2_insert wsX2_isFull := goodIn_r _ [7, 1, 8, 9] (by decide +kernel) (by decide +kernel)
set_option maxRecDepth 20000 in
theorem gX2_insert_X2_isFull : GoodIn wsX2_insert (wsV RX2 23 RX2 yX2_isFull wsX2_isFull) := goodIn_app (goodIn_of _ (by decide +kernel)) ggX2_insert_X2_isFull
theorem dX2_insert_0 : decode cX2_insert 0 = .ok (.aload_n 0, 1) := by decide +kernel
theorem dX2_insert_1 : decode cX2_insert 1 = .ok (.invokevirtual 23, 3) := by decide +kernel
theorem dX2_insert_4 : decode cX2_insert 4 = .ok (.ifCond .ne 15, 3) := by decide +kernel
theorem dX2_insert_7 : decode cX2_insert 7 = .ok (.iload_n 1, 1) := by decide +kernel
theorem dX2_insert_8 : decode cX2_insert 8 = .ok (.ifCond .lt 11, 3) := by decide +kernel
theorem dX2_insert_11 : decode cX2_insert 11 = .ok (.iload_n 1, 1) := by decide +kernel
theorem dX2_insert_12 : decode cX2_insert 12 = .ok (.aload_n 0, 1) := by decide +kernel
theorem dX2_insert_13 : decode cX2_insert 13 = .ok (.getfield 15, 3) := by decide +kernel
theorem dX2_insert_16 : decode cX2_insert 16 = .ok (.if_icmp .le 4, 3) := by decide +kernel
theorem dX2_insert_19 : decode cX2_insert 19 = .ok (.return_, 1) := by decide +kernel
theorem dX2_insert_20 : decode cX2_insert 20 = .ok (.aload_n 0, 1) := by decide +kernel
theorem dX2_insert_21 : decode cX2_insert 21 = .ok (.getfield 15, 3) := by decide +kernel
theorem dX2_insert_24 : decode cX2_insert 24 = .ok (.istore_n 3, 1) := by decide +kernel
theorem dX2_insert_25 : decode cX2_insert 25 = .ok (.iload_n 3, 1) := by decide +kernel
theorem dX2_insert_26 : decode cX2_insert 26 = .ok (.iload_n 1, 1) := by decide +kernel
theorem dX2_insert_27 : decode cX2_insert 27 = .ok (.if_icmp .le 23, 3) := by decide +kernel
theorem dX2_insert_30 : decode cX2_insert 30 = .ok (.aload_n 0, 1) := by decide +kernel
theorem dX2_insert_31 : decode cX2_insert 31 = .ok (.getfield 9, 3) := by decide +kernel
theorem dX2_insert_34 : decode cX2_insert 34 = .ok (.iload_n 3, 1) := by decide +kernel
theorem dX2_insert_35 : decode cX2_insert 35 = .ok (.aload_n 0, 1) := by decide +kernel
theorem dX2_insert_36 : decode cX2_insert 36 = .ok (.getfield 9, 3) := by decide +kernel
theorem dX2_insert_39 : decode cX2_insert 39 = .ok (.iload_n 3, 1) := by decide +kernel
theorem dX2_insert_40 : decode cX2_insert 40 = .ok (.iconst 1, 1) := by decide +kernel
theorem dX2_insert_41 : decode cX2_insert 41 = .ok (.isub, 1) := by decide +kernel
theorem dX2_insert_42 : decode cX2_insert 42 = .ok (.iaload, 1) := by decide +kernel
theorem dX2_insert_43 : decode cX2_insert 43 = .ok (.iastore, 1) := by decide +kernel
theorem dX2_insert_44 : decode cX2_insert 44 = .ok (.iinc 3 (-1), 3) := by decide +kernel
theorem dX2_insert_47 : decode cX2_insert 47 = .ok (.goto (-22), 3) := by decide +kernel
theorem dX2_insert_50 : decode cX2_insert 50 = .ok (.aload_n 0, 1) := by decide +kernel
theorem dX2_insert_51 : decode cX2_insert 51 = .ok (.getfield 9, 3) := by decide +kernel
theorem dX2_insert_54 : decode cX2_insert 54 = .ok (.iload_n 1, 1) := by decide +kernel
theorem dX2_insert_55 : decode cX2_insert 55 = .ok (.iload_n 2, 1) := by decide +kernel
theorem dX2_insert_56 : decode cX2_insert 56 = .ok (.iastore, 1) := by decide +kernel
theorem dX2_insert_57 : decode cX2_insert 57 = .ok (.aload_n 0, 1) := by decide +kernel
theorem dX2_insert_58 : decode cX2_insert 58 = .ok (.dup, 1) := by decide +kernel
theorem dX2_insert_59 : decode cX2_insert 59 = .ok (.getfield 15, 3) := by decide +kernel
theorem dX2_insert_62 : decode cX2_insert 62 = .ok (.iconst 1, 1) := by decide +kernel
theorem dX2_insert_63 : decode cX2_insert 63 = .ok (.iadd, 1) := by decide +kernel
theorem dX2_insert_64 : decode cX2_insert 64 = .ok (.putfield 15, 3) := by decide +kernel
theorem dX2_insert_67 : decode cX2_insert 67 = .ok (.return_, 1) := by decide +kernel
theorem dX3_init_0 : decode cX3_init 0 = .ok (.aload_n 0, 1) := by decide +kernel
theorem dX3_init_1 : decode cX3_init 1 = .ok (.invokespecial 3, 3) := by decide +kernel
theorem dX3_init_4 : decode cX3_init 4 = .ok (.aload_n 0, 1) := by decide +kernel
theorem dX3_init_5 : decode cX3_init 5 = .ok (.bipush 12, 2) := by decide +kernel
theorem dX3_init_7 : decode cX3_init 7 = .ok (.newarray .int, 2) := by decide +kernel
theorem dX3_init_9 : decode cX3_init 9 = .ok (.putfield 9, 3) := by decide +kernel
theorem dX3_init_12 : decode cX3_init 12 = .ok (.aload_n 0, 1) := by decide +kernel
theorem dX3_init_13 : decode cX3_init 13 = .ok (.bipush 12, 2) := by decide +kernel
theorem dX3_init_15 : decode cX3_init 15 = .ok (.newarray .int, 2) := by decide +kernel
theorem dX3_init_17 : decode cX3_init 17 = .ok (.putfield 15, 3) := by decide +kernel
theorem dX3_init_20 : decode cX3_init 20 = .ok (.aload_n 0, 1) := by decide +kernel
theorem dX3_init_21 : decode cX3_init 21 = .ok (.bipush 13, 2) := by decide +kernel
theorem dX3_init_23 : decode cX3_init 23 = .ok (.newarray .long, 2) := by decide +kernel
theorem dX3_init_25 : decode cX3_init 25 = .ok (.putfield 18, 3) := by decide +kernel
theorem dX3_init_28 : decode cX3_init 28 = .ok (.return_, 1) := by decide +kernel
set_option maxRecDepth 20000 in
theorem ggX3_make_X2_size : GoodIn wsX3_make wsX2_size := goodIn_r _ [7, 8, 22, 23] (by decide +kernel) (by decide +kernel)
set_option maxRecDepth 20000 in
theorem gX3_make_X2_size : GoodIn wsX3_make (wsV RX3 22 RX2 yX2_size wsX2_size) := goodIn_app (goodIn_of _ (by decide +kernel)) ggX3_make_X2_size
set_option maxRecDepth 20000 in
theorem ggX3_make_X2_has : GoodIn wsX3_make wsX2_has := goodIn_r _ [12, 8, 22, 23] (by decide +kernel) (by decide +kernel)
set_option maxRecDepth 20000 in
theorem gX3_make_X2_has : GoodIn wsX3_make (wsV RX3 28 RX2 yX2_has wsX2_has) := goodIn_app (goodIn_of _ (by decide +kernel)) ggX3_make_X2_has
set_option maxRecDepth 20000 in
theorem ggX3_make_X2_at : GoodIn wsX3_make wsX2_at := goodIn_r _ [16, 17, 18, 10, 11, 6, 12, 8, 22, 23] (by decide +kernel) (by decide +kernel)
set_option maxRecDepth 20000 in
theorem gX3_make_X2_at : GoodIn wsX3_make (wsV RX3 32 RX2 yX2_at wsX2_at) := goodIn_app (goodIn_of _ (by decide +kernel)) ggX3_make_X2_at
theorem dX3_make_0 : decode cX3_make 0 = .ok (.iconst 0, 1) := by decide +kernel
theorem dX3_make_1 : decode cX3_make 1 = .ok (.istore_n 3, 1) := by decide +kernel
theorem dX3_make_2 : decode cX3_make 2 = .ok (.iconst 0, 1) := by decide +kernel
theorem dX3_make_3 : decode cX3_make 3 = .ok (.istore 4, 2) := by decide +kernel
theorem dX3_make_5 : decode cX3_make 5 = .ok (.iload 4, 2) := by decide +kernel
theorem dX3_make_7 : decode cX3_make 7 = .ok (.aload_n 2, 1) := by decide +kernel
theorem dX3_make_8 : decode cX3_make 8 = .ok (.invokevirtual 22, 3) := by decide +kernel
theorem dX3_make_11 : decode cX3_make 11 = .ok (.if_icmp .ge 42, 3) := by decide +kernel
theorem dX3_make_14 : decode cX3_make 14 = .ok (.aload_n 1, 1) := by decide +kernel
theorem dX3_make_15 : decode cX3_make 15 = .ok (.iload_n 3, 1) := by decide +kernel
theorem dX3_make_16 : decode cX3_make 16 = .ok (.invokevirtual 28, 3) := by decide +kernel
theorem dX3_make_19 : decode cX3_make 19 = .ok (.ifCond .eq 28, 3) := by decide +kernel
theorem dX3_make_22 : decode cX3_make 22 = .ok (.aload_n 1, 1) := by decide +kernel
theorem dX3_make_23 : decode cX3_make 23 = .ok (.iload_n 3, 1) := by decide +kernel
theorem dX3_make_24 : decode cX3_make 24 = .ok (.invokevirtual 32, 3) := by decide +kernel
theorem dX3_make_27 : decode cX3_make 27 = .ok (.aload_n 2, 1) := by decide +kernel
theorem dX3_make_28 : decode cX3_make 28 = .ok (.iload 4, 2) := by decide +kernel
theorem dX3_make_30 : decode cX3_make 30 = .ok (.invokevirtual 32, 3) := by decide +kernel
theorem dX3_make_33 : decode cX3_make 33 = .ok (.if_icmp .ne 14, 3) := by decide +kernel
theorem dX3_make_36 : decode cX3_make 36 = .ok (.aload_n 0, 1) := by decide +kernel
theorem dX3_make_37 : decode cX3_make 37 = .ok (.getfield 9, 3) := by decide +kernel
theorem dX3_make_40 : decode cX3_make 40 = .ok (.iload_n 3, 1) := by decide +kernel
theorem dX3_make_41 : decode cX3_make 41 = .ok (.iload 4, 2) := by decide +kernel
theorem dX3_make_43 : decode cX3_make 43 = .ok (.iastore, 1) := by decide +kernel
theorem dX3_make_44 : decode cX3_make 44 = .ok (.iinc 3 1, 3) := by decide +kernel
theorem dX3_make_47 : decode cX3_make 47 = .ok (.iinc 4 1, 3) := by decide +kernel
theorem dX3_make_50 : decode cX3_make 50 = .ok (.goto (-45), 3) := by decide +kernel
theorem dX3_make_53 : decode cX3_make 53 = .ok (.iload_n 3, 1) := by decide +kernel
theorem dX3_make_54 : decode cX3_make 54 = .ok (.aload_n 1, 1) := by decide +kernel
theorem dX3_make_55 : decode cX3_make 55 = .ok (.invokevirtual 22, 3) := by decide +kernel
theorem dX3_make_58 : decode cX3_make 58 = .ok (.if_icmp .ge 5, 3) := by decide +kernel
theorem dX3_make_61 : decode cX3_make 61 = .ok (.iconst 0, 1) := by decide +kernel
theorem dX3_make_62 : decode cX3_make 62 = .ok (.ireturn, 1) := by decide +kernel
theorem dX3_make_63 : decode cX3_make 63 = .ok (.aload_n 1, 1) := by decide +kernel
theorem dX3_make_64 : decode cX3_make 64 = .ok (.invokevirtual 22, 3) := by decide +kernel
theorem dX3_make_67 : decode cX3_make 67 = .ok (.iconst 1, 1) := by decide +kernel
theorem dX3_make_68 : decode cX3_make 68 = .ok (.isub, 1) := by decide +kernel
theorem dX3_make_69 : decode cX3_make 69 = .ok (.istore_n 3, 1) := by decide +kernel
theorem dX3_make_70 : decode cX3_make 70 = .ok (.aload_n 2, 1) := by decide +kernel
theorem dX3_make_71 : decode cX3_make 71 = .ok (.invokevirtual 22, 3) := by decide +kernel
theorem dX3_make_74 : decode cX3_make 74 = .ok (.iconst 1, 1) := by decide +kernel
theorem dX3_make_75 : decode cX3_make 75 = .ok (.isub, 1) := by decide +kernel
theorem dX3_make_76 : decode cX3_make 76 = .ok (.istore 4, 2) := by decide +kernel
theorem dX3_make_78 : decode cX3_make 78 = .ok (.iload 4, 2) := by decide +kernel
theorem dX3_make_80 : decode cX3_make 80 = .ok (.ifCond .lt 42, 3) := by decide +kernel
theorem dX3_make_83 : decode cX3_make 83 = .ok (.aload_n 1, 1) := by decide +kernel
theorem dX3_make_84 : decode cX3_make 84 = .ok (.iload_n 3, 1) := by decide +kernel
theorem dX3_make_85 : decode cX3_make 85 = .ok (.invokevirtual 28, 3) := by decide +kernel
theorem dX3_make_88 : decode cX3_make 88 = .ok (.ifCond .eq 28, 3) := by decide +kernel
theorem dX3_make_91 : decode cX3_make 91 = .ok (.aload_n 1, 1) := by decide +kernel
theorem dX3_make_92 : decode cX3_make 92 = .ok (.iload_n 3, 1) := by decide +kernel
theorem dX3_make_93 : decode cX3_make 93 = .ok (.invokevirtual 32, 3) := by decide +kernel
theorem dX3_make_96 : decode cX3_make 96 = .ok (.aload_n 2, 1) := by decide +kernel
theorem dX3_make_97 : decode cX3_make 97 = .ok (.iload 4, 2) := by decide +kernel
theorem dX3_make_99 : decode cX3_make 99 = .ok (.invokevirtual 32, 3) := by decide +kernel
theorem dX3_make_102 : decode cX3_make 102 = .ok (.if_icmp .ne 14, 3) := by decide +kernel
theorem dX3_make_105 : decode cX3_make 105 = .ok (.aload_n 0, 1) := by decide +kernel
theorem dX3_make_106 : decode cX3_make 106 = .ok (.getfield 15, 3) := by decide +kernel
theorem dX3_make_109 : decode cX3_make 109 = .ok (.iload_n 3, 1) := by decide +kernel
theorem dX3_make_110 : decode cX3_make 110 = .ok (.iload 4, 2) := by decide +kernel
theorem dX3_make_112 : decode cX3_make 112 = .ok (.iastore, 1) := by decide +kernel
theorem dX3_make_113 : decode cX3_make 113 = .ok (.iinc 3 (-1), 3) := by decide +kernel
theorem dX3_make_116 : decode cX3_make 116 = .ok (.iinc 4 (-1), 3) := by decide +kernel
theorem dX3_make_119 : decode cX3_make 119 = .ok (.goto (-41), 3) := by decide +kernel
theorem dX3_make_122 : decode cX3_make 122 = .ok (.iconst 1, 1) := by decide +kernel
theorem dX3_make_123 : decode cX3_make 123 = .ok (.ireturn, 1) := by decide +kernel
theorem dX3_first_0 : decode cX3_first 0 = .ok (.iload_n 1, 1) := by decide +kernel
theorem dX3_first_1 : decode cX3_first 1 = .ok (.ifCond .lt 18, 3) := by decide +kernel
theorem dX3_first_4 : decode cX3_first 4 = .ok (.iload_n 1, 1) := by decide +kernel
theorem dX3_first_5 : decode cX3_first 5 = .ok (.bipush 12, 2) := by decide +kernel
theorem dX3_first_7 : decode cX3_first 7 = .ok (.if_icmp .ge 12, 3) := by decide +kernel
theorem dX3_first_10 : decode cX3_first 10 = .ok (.aload_n 0, 1) := by decide +kernel
theorem dX3_first_11 : decode cX3_first 11 = .ok (.getfield 9, 3) := by decide +kernel
theorem dX3_first_14 : decode cX3_first 14 = .ok (.iload_n 1, 1) := by decide +kernel
theorem dX3_first_15 : decode cX3_first 15 = .ok (.iaload, 1) := by decide +kernel
theorem dX3_first_16 : decode cX3_first 16 = .ok (.goto 5, 3) := by decide +kernel
theorem dX3_first_19 : decode cX3_first 19 = .ok (.bipush (-9), 2) := by decide +kernel
theorem dX3_first_21 : decode cX3_first 21 = .ok (.ireturn, 1) := by decide +kernel
theorem dX3_last_0 : decode cX3_last 0 = .ok (.iload_n 1, 1) := by decide +kernel
theorem dX3_last_1 : decode cX3_last 1 = .ok (.ifCond .lt 18, 3) := by decide +kernel
theorem dX3_last_4 : decode cX3_last 4 = .ok (.iload_n 1, 1) := by decide +kernel
theorem dX3_last_5 : decode cX3_last 5 = .ok (.bipush 12, 2) := by decide +kernel
theorem dX3_last_7 : decode cX3_last 7 = .ok (.if_icmp .ge 12, 3) := by decide +kernel
theorem dX3_last_10 : decode cX3_last 10 = .ok (.aload_n 0, 1) := by decide +kernel
theorem dX3_last_11 : decode cX3_last 11 = .ok (.getfield 15, 3) := by decide +kernel
theorem dX3_last_14 : decode cX3_last 14 = .ok (.iload_n 1, 1) := by decide +kernel
theorem dX3_last_15 : decode cX3_last 15 = .ok (.iaload, 1) := by decide +kernel
theorem dX3_last_16 : decode cX3_last 16 = .ok (.goto 5, 3) := by decide +kernel
theorem dX3_last_19 : decode cX3_last 19 = .ok (.bipush (-9), 2) := by decide +kernel
theorem dX3_last_21 : decode cX3_last 21 = .ok (.ireturn, 1) := by decide +kernel
set_option maxRecDepth 20000 in
theorem ggX3_canStand_X3_make : GoodIn wsX3_canStand wsX3_make := goodIn_r _ [5, 6, 7, 8, 9, 10, 11, 12, 13, 14, 15, 16, 17, 18, 19, 20, 21, 22, 23, 32, 33, 34, 35, 36] (by decide +kernel) (by decide +kernel)
set_option maxRecDepth 20000 in
theorem gX3_canStand_X3_make : GoodIn wsX3_canStand (wsV RX3 36 RX3 yX3_make wsX3_make) := goodIn_app (goodIn_of _ (by decide +kernel)) ggX3_canStand_X3_make
set_option maxRecDepth 20000 in
theorem ggX3_canStand_X2_size : GoodIn wsX3_canStand wsX2_size := goodIn_r _ [12, 13, 35, 36] (by decide +kernel) (by decide +kernel)
set_option maxRecDepth 20000 in
theorem gX3_canStand_X2_size : GoodIn wsX3_canStand (wsV RX3 22 RX2 yX2_size wsX2_size) := goodIn_app (goodIn_of _ (by decide +kernel)) ggX3_canStand_X2_size
set_option maxRecDepth 20000 in
theorem ggX3_canStand_X2_at : GoodIn wsX3_canStand wsX2_at := goodIn_r _ [21, 22, 23, 15, 16, 11, 17, 13, 35, 36] (by decide +kernel) (by decide +kernel)
set_option maxRecDepth 20000 in
theorem gX3_canStand_X2_at : GoodIn wsX3_canStand (wsV RX3 32 RX2 yX2_at wsX2_at) := goodIn_app (goodIn_of _ (by decide +kernel)) ggX3_canStand_X2_at
set_option maxRecDepth 20000 in
theorem ggX3_canStand_X3_first : GoodIn wsX3_canStand wsX3_first := goodIn_r _ [27, 6, 32, 33, 34] (by decide +kernel) (by decide +kernel)
set_option maxRecDepth 20000 in
theorem gX3_canStand_X3_first : GoodIn wsX3_canStand (wsV RX3 40 RX3 yX3_first wsX3_first) := goodIn_app (goodIn_of _ (by decide +kernel)) ggX3_canStand_X3_first
set_option maxRecDepth 20000 in
theorem ggX3_canStand_X3_last : GoodIn wsX3_canStand wsX3_last := goodIn_r _ [31, 7, 32, 33, 34] (by decide +kernel) (by decide +kernel)
set_option maxRecDepth 20000 in
theorem gX3_canStand_X3_last : GoodIn wsX3_canStand (wsV RX3 43 RX3 yX3_last wsX3_last) := goodIn_app (goodIn_of _ (by decide +kernel)) ggX3_canStand_X3_last
theorem dX3_canStand_0 : decode cX3_canStand 0 = .ok (.aload_n 0, 1) := by decide +kernel
theorem dX3_canStand_1 : decode cX3_canStand 1 = .ok (.aload_n 1, 1) := by decide +kernel
theorem dX3_canStand_2 : decode cX3_canStand 2 = .ok (.aload_n 2, 1) := by decide +kernel
theorem dX3_canStand_3 : decode cX3_canStand 3 = .ok (.invokevirtual 36, 3) := by decide +kernel
theorem dX3_canStand_6 : decode cX3_canStand 6 = .ok (.ifCond .ne 5, 3) := by decide +kernel
theorem dX3_canStand_9 : decode cX3_canStand 9 = .ok (.iconst 0, 1) := by decide +kernel
theorem dX3_canStand_10 : decode cX3_canStand 10 = .ok (.ireturn, 1) := by decide +kernel
theorem dX3_canStand_11 : decode cX3_canStand 11 = .ok (.iconst 0, 1) := by decide +kernel
theorem dX3_canStand_12 : decode cX3_canStand 12 = .ok (.istore 4, 2) := by decide +kernel
theorem dX3_canStand_14 : decode cX3_canStand 14 = .ok (.iload 4, 2) := by decide +kernel
theorem dX3_canStand_16 : decode cX3_canStand 16 = .ok (.aload_n 1, 1) := by decide +kernel
theorem dX3_canStand_17 : decode cX3_canStand 17 = .ok (.invokevirtual 22, 3) := by decide +kernel
theorem dX3_canStand_20 : decode cX3_canStand 20 = .ok (.if_icmp .ge 45, 3) := by decide +kernel
theorem dX3_canStand_23 : decode cX3_canStand 23 = .ok (.aload_n 1, 1) := by decide +kernel
theorem dX3_canStand_24 : decode cX3_canStand 24 = .ok (.iload 4, 2) := by decide +kernel
theorem dX3_canStand_26 : decode cX3_canStand 26 = .ok (.invokevirtual 32, 3) := by decide +kernel
theorem dX3_canStand_29 : decode cX3_canStand 29 = .ok (.aload_n 2, 1) := by decide +kernel
theorem dX3_canStand_30 : decode cX3_canStand 30 = .ok (.iload_n 3, 1) := by decide +kernel
theorem dX3_canStand_31 : decode cX3_canStand 31 = .ok (.invokevirtual 32, 3) := by decide +kernel
theorem dX3_canStand_34 : decode cX3_canStand 34 = .ok (.if_icmp .ne 25, 3) := by decide +kernel
theorem dX3_canStand_37 : decode cX3_canStand 37 = .ok (.aload_n 0, 1) := by decide +kernel
theorem dX3_canStand_38 : decode cX3_canStand 38 = .ok (.iload 4, 2) := by decide +kernel
theorem dX3_canStand_40 : decode cX3_canStand 40 = .ok (.invokevirtual 40, 3) := by decide +kernel
theorem dX3_canStand_43 : decode cX3_canStand 43 = .ok (.iload_n 3, 1) := by decide +kernel
theorem dX3_canStand_44 : decode cX3_canStand 44 = .ok (.if_icmp .gt 15, 3) := by decide +kernel
theorem dX3_canStand_47 : decode cX3_canStand 47 = .ok (.iload_n 3, 1) := by decide +kernel
theorem dX3_canStand_48 : decode cX3_canStand 48 = .ok (.aload_n 0, 1) := by decide +kernel
theorem dX3_canStand_49 : decode cX3_canStand 49 = .ok (.iload 4, 2) := by decide +kernel
theorem dX3_canStand_51 : decode cX3_canStand 51 = .ok (.invokevirtual 43, 3) := by decide +kernel
theorem dX3_canStand_54 : decode cX3_canStand 54 = .ok (.if_icmp .gt 5, 3) := by decide +kernel
theorem dX3_canStand_57 : decode cX3_canStand 57 = .ok (.iconst 1, 1) := by decide +kernel
theorem dX3_canStand_58 : decode cX3_canStand 58 = .ok (.ireturn, 1) := by decide +kernel
theorem dX3_canStand_59 : decode cX3_canStand 59 = .ok (.iinc 4 1, 3) := by decide +kernel
theorem dX3_canStand_62 : decode cX3_canStand 62 = .ok (.goto (-48), 3) := by decide +kernel
theorem dX3_canStand_65 : decode cX3_canStand 65 = .ok (.iconst 0, 1) := by decide +kernel
theorem dX3_canStand_66 : decode cX3_canStand 66 = .ok (.ireturn, 1) := by decide +kernel
set_option maxRecDepth 20000 in
theorem ggX3_choices_X2_size : GoodIn wsX3_choices wsX2_size := goodIn_r _ [10, 11, 28, 29] (by decide +kernel) (by decide +kernel)
set_option maxRecDepth 20000 in
theorem gX3_choices_X2_size : GoodIn wsX3_choices (wsV RX3 22 RX2 yX2_size wsX2_size) := goodIn_app (goodIn_of _ (by decide +kernel)) ggX3_choices_X2_size
set_option maxRecDepth 20000 in
theorem ggX3_choices_J7_fill_d0a16 : GoodIn wsX3_choices wsJ7_fill_d0a16 := goodIn_r _ [15] (by decide +kernel) (by decide +kernel)
set_option maxRecDepth 20000 in
theorem gX3_choices_J7_fill_d0a16 : GoodIn wsX3_choices (va_wsS RX3 52 yJ7_fill_d0a16 wsJ7_fill_d0a16) := goodIn_app (goodIn_of _ (by decide +kernel)) ggX3_choices_J7_fill_d0a16
set_option maxRecDepth 20000 in
theorem ggX3_choices_X2_at : GoodIn wsX3_choices wsX2_at := goodIn_r _ [19, 20, 21, 22, 23, 9, 24, 11, 28, 29] (by decide +kernel) (by decide +kernel)
set_option maxRecDepth 20000 in
theorem gX3_choices_X2_at : GoodIn wsX3_choices (wsV RX3 32 RX2 yX2_at wsX2_at) := goodIn_app (goodIn_of _ (by decide +kernel)) ggX3_choices_X2_at
theorem dX3_choices_0 : decode cX3_choices 0 = .ok (.aload_n 1, 1) := by decide +kernel
theorem dX3_choices_1 : decode cX3_choices 1 = .ok (.invokevirtual 22, 3) := by decide +kernel
theorem dX3_choices_4 : decode cX3_choices 4 = .ok (.bipush 12, 2) := by decide +kernel
theorem dX3_choices_6 : decode cX3_choices 6 = .ok (.invokestatic 46, 3) := by decide +kernel
theorem dX3_choices_9 : decode cX3_choices 9 = .ok (.istore_n 3, 1) := by decide +kernel
theorem dX3_choices_10 : decode cX3_choices 10 = .ok (.aload_n 0, 1) := by decide +kernel
theorem dX3_choices_11 : decode cX3_choices 11 = .ok (.getfield 18, 3) := by decide +kernel
theorem dX3_choices_14 : decode cX3_choices 14 = .ok (.lconst 0, 1) := by decide +kernel
theorem dX3_choices_15 : decode cX3_choices 15 = .ok (.invokestatic 52, 3) := by decide +kernel
theorem dX3_choices_18 : decode cX3_choices 18 = .ok (.aload_n 0, 1) := by decide +kernel
theorem dX3_choices_19 : decode cX3_choices 19 = .ok (.getfield 18, 3) := by decide +kernel
theorem dX3_choices_22 : decode cX3_choices 22 = .ok (.iconst 0, 1) := by decide +kernel
theorem dX3_choices_23 : decode cX3_choices 23 = .ok (.lconst 1, 1) := by decide +kernel
theorem dX3_choices_24 : decode cX3_choices 24 = .ok (.lastore, 1) := by decide +kernel
theorem dX3_choices_25 : decode cX3_choices 25 = .ok (.iconst 0, 1) := by decide +kernel
theorem dX3_choices_26 : decode cX3_choices 26 = .ok (.istore 4, 2) := by decide +kernel
theorem dX3_choices_28 : decode cX3_choices 28 = .ok (.iload 4, 2) := by decide +kernel
theorem dX3_choices_30 : decode cX3_choices 30 = .ok (.aload_n 2, 1) := by decide +kernel
theorem dX3_choices_31 : decode cX3_choices 31 = .ok (.invokevirtual 22, 3) := by decide +kernel
theorem dX3_choices_34 : decode cX3_choices 34 = .ok (.if_icmp .ge 59, 3) := by decide +kernel
theorem dX3_choices_37 : decode cX3_choices 37 = .ok (.iload_n 3, 1) := by decide +kernel
theorem dX3_choices_38 : decode cX3_choices 38 = .ok (.istore 5, 2) := by decide +kernel
theorem dX3_choices_40 : decode cX3_choices 40 = .ok (.iload 5, 2) := by decide +kernel
theorem dX3_choices_42 : decode cX3_choices 42 = .ok (.ifCond .le 45, 3) := by decide +kernel
theorem dX3_choices_45 : decode cX3_choices 45 = .ok (.aload_n 1, 1) := by decide +kernel
theorem dX3_choices_46 : decode cX3_choices 46 = .ok (.iload 5, 2) := by decide +kernel
theorem dX3_choices_48 : decode cX3_choices 48 = .ok (.iconst 1, 1) := by decide +kernel
theorem dX3_choices_49 : decode cX3_choices 49 = .ok (.isub, 1) := by decide +kernel
theorem dX3_choices_50 : decode cX3_choices 50 = .ok (.invokevirtual 32, 3) := by decide +kernel
theorem dX3_choices_53 : decode cX3_choices 53 = .ok (.aload_n 2, 1) := by decide +kernel
theorem dX3_choices_54 : decode cX3_choices 54 = .ok (.iload 4, 2) := by decide +kernel
theorem dX3_choices_56 : decode cX3_choices 56 = .ok (.invokevirtual 32, 3) := by decide +kernel
theorem dX3_choices_59 : decode cX3_choices 59 = .ok (.if_icmp .ne 22, 3) := by decide +kernel
theorem dX3_choices_62 : decode cX3_choices 62 = .ok (.aload_n 0, 1) := by decide +kernel
theorem dX3_choices_63 : decode cX3_choices 63 = .ok (.getfield 18, 3) := by decide +kernel
theorem dX3_choices_66 : decode cX3_choices 66 = .ok (.iload 5, 2) := by decide +kernel
theorem dX3_choices_68 : decode cX3_choices 68 = .ok (.dup2, 1) := by decide +kernel
theorem dX3_choices_69 : decode cX3_choices 69 = .ok (.laload, 1) := by decide +kernel
theorem dX3_choices_70 : decode cX3_choices 70 = .ok (.aload_n 0, 1) := by decide +kernel
theorem dX3_choices_71 : decode cX3_choices 71 = .ok (.getfield 18, 3) := by decide +kernel
theorem dX3_choices_74 : decode cX3_choices 74 = .ok (.iload 5, 2) := by decide +kernel
theorem dX3_choices_76 : decode cX3_choices 76 = .ok (.iconst 1, 1) := by decide +kernel
theorem dX3_choices_77 : decode cX3_choices 77 = .ok (.isub, 1) := by decide +kernel
theorem dX3_choices_78 : decode cX3_choices 78 = .ok (.laload, 1) := by decide +kernel
theorem dX3_choices_79 : decode cX3_choices 79 = .ok (.ladd, 1) := by decide +kernel
theorem dX3_choices_80 : decode cX3_choices 80 = .ok (.lastore, 1) := by decide +kernel
theorem dX3_choices_81 : decode cX3_choices 81 = .ok (.iinc 5 (-1), 3) := by decide +kernel
theorem dX3_choices_84 : decode cX3_choices 84 = .ok (.goto (-44), 3) := by decide +kernel
theorem dX3_choices_87 : decode cX3_choices 87 = .ok (.iinc 4 1, 3) := by decide +kernel
theorem dX3_choices_90 : decode cX3_choices 90 = .ok (.goto (-62), 3) := by decide +kernel
theorem dX3_choices_93 : decode cX3_choices 93 = .ok (.aload_n 0, 1) := by decide +kernel
theorem dX3_choices_94 : decode cX3_choices 94 = .ok (.getfield 18, 3) := by decide +kernel
theorem dX3_choices_97 : decode cX3_choices 97 = .ok (.iload_n 3, 1) := by decide +kernel
theorem dX3_choices_98 : decode cX3_choices 98 = .ok (.laload, 1) := by decide +kernel
theorem dX3_choices_99 : decode cX3_choices 99 = .ok (.lreturn, 1) := by decide +kernel
theorem dX4_init_0 : decode cX4_init 0 = .ok (.aload_n 0, 1) := by decide +kernel
theorem dX4_init_1 : decode cX4_init 1 = .ok (.invokespecial 3, 3) := by decide +kernel
theorem dX4_init_4 : decode cX4_init 4 = .ok (.aload_n 0, 1) := by decide +kernel
theorem dX4_init_5 : decode cX4_init 5 = .ok (.sipush 169, 3) := by decide +kernel
theorem dX4_init_8 : decode cX4_init 8 = .ok (.newarray .long, 2) := by decide +kernel
theorem dX4_init_10 : decode cX4_init 10 = .ok (.putfield 9, 3) := by decide +kernel
theorem dX4_init_13 : decode cX4_init 13 = .ok (.return_, 1) := by decide +kernel
theorem dX4_isInside_0 : decode cX4_isInside 0 = .ok (.iload_n 0, 1) := by decide +kernel
theorem dX4_isInside_1 : decode cX4_isInside 1 = .ok (.ifCond .lt 23, 3) := by decide +kernel
theorem dX4_isInside_4 : decode cX4_isInside 4 = .ok (.iload_n 0, 1) := by decide +kernel
theorem dX4_isInside_5 : decode cX4_isInside 5 = .ok (.bipush 13, 2) := by decide +kernel
theorem dX4_isInside_7 : decode cX4_isInside 7 = .ok (.if_icmp .ge 17, 3) := by decide +kernel
theorem dX4_isInside_10 : decode cX4_isInside 10 = .ok (.iload_n 1, 1) := by decide +kernel
theorem dX4_isInside_11 : decode cX4_isInside 11 = .ok (.ifCond .lt 13, 3) := by decide +kernel
theorem dX4_isInside_14 : decode cX4_isInside 14 = .ok (.iload_n 1, 1) := by decide +kernel
theorem dX4_isInside_15 : decode cX4_isInside 15 = .ok (.bipush 13, 2) := by decide +kernel
theorem dX4_isInside_17 : decode cX4_isInside 17 = .ok (.if_icmp .ge 7, 3) := by decide +kernel
theorem dX4_isInside_20 : decode cX4_isInside 20 = .ok (.iconst 1, 1) := by decide +kernel
theorem dX4_isInside_21 : decode cX4_isInside 21 = .ok (.goto 4, 3) := by decide +kernel
theorem dX4_isInside_24 : decode cX4_isInside 24 = .ok (.iconst 0, 1) := by decide +kernel
theorem dX4_isInside_25 : decode cX4_isInside 25 = .ok (.ireturn, 1) := by decide +kernel
set_option maxRecDepth 20000 in
theorem ggX4_at_X4_isInside : GoodIn wsX4_at wsX4_isInside := goodIn_r _ [5] (by decide +kernel) (by decide +kernel)
set_option maxRecDepth 20000 in
theorem gX4_at_X4_isInside : GoodIn wsX4_at (va_wsS RX4 15 yX4_isInside wsX4_isInside) := goodIn_app (goodIn_of _ (by decide +kernel)) ggX4_at_X4_isInside
theorem dX4_at_0 : decode cX4_at 0 = .ok (.iload_n 1, 1) := by decide +kernel
theorem dX4_at_1 : decode cX4_at 1 = .ok (.iload_n 2, 1) := by decide +kernel
theorem dX4_at_2 : decode cX4_at 2 = .ok (.invokestatic 15, 3) := by decide +kernel
theorem dX4_at_5 : decode cX4_at 5 = .ok (.ifCond .eq 17, 3) := by decide +kernel
theorem dX4_at_8 : decode cX4_at 8 = .ok (.aload_n 0, 1) := by decide +kernel
theorem dX4_at_9 : decode cX4_at 9 = .ok (.getfield 9, 3) := by decide +kernel
theorem dX4_at_12 : decode cX4_at 12 = .ok (.iload_n 1, 1) := by decide +kernel
theorem dX4_at_13 : decode cX4_at 13 = .ok (.bipush 13, 2) := by decide +kernel
theorem dX4_at_15 : decode cX4_at 15 = .ok (.imul, 1) := by decide +kernel
theorem dX4_at_16 : decode cX4_at 16 = .ok (.iload_n 2, 1) := by decide +kernel
theorem dX4_at_17 : decode cX4_at 17 = .ok (.iadd, 1) := by decide +kernel
theorem dX4_at_18 : decode cX4_at 18 = .ok (.laload, 1) := by decide +kernel
theorem dX4_at_19 : decode cX4_at 19 = .ok (.goto 4, 3) := by decide +kernel
theorem dX4_at_22 : decode cX4_at 22 = .ok (.lconst 0, 1) := by decide +kernel
theorem dX4_at_23 : decode cX4_at 23 = .ok (.lreturn, 1) := by decide +kernel
set_option maxRecDepth 20000 in
theorem ggX4_write_X4_isInside : GoodIn wsX4_write wsX4_isInside := goodIn_r _ [5] (by decide +kernel) (by decide +kernel)
set_option maxRecDepth 20000 in
theorem gX4_write_X4_isInside : GoodIn wsX4_write (va_wsS RX4 15 yX4_isInside wsX4_isInside) := goodIn_app (goodIn_of _ (by decide +kernel)) ggX4_write_X4_isInside
theorem dX4_write_0 : decode cX4_write 0 = .ok (.iload_n 1, 1) := by decide +kernel
theorem dX4_write_1 : decode cX4_write 1 = .ok (.iload_n 2, 1) := by decide +kernel
theorem dX4_write_2 : decode cX4_write 2 = .ok (.invokestatic 15, 3) := by decide +kernel
theorem dX4_write_5 : decode cX4_write 5 = .ok (.ifCond .eq 15, 3) := by decide +kernel
theorem dX4_write_8 : decode cX4_write 8 = .ok (.aload_n 0, 1) := by decide +kernel
theorem dX4_write_9 : decode cX4_write 9 = .ok (.getfield 9, 3) := by decide +kernel
theorem dX4_write_12 : decode cX4_write 12 = .ok (.iload_n 1, 1) := by decide +kernel
theorem dX4_write_13 : decode cX4_write 13 = .ok (.bipush 13, 2) := by decide +kernel
theorem dX4_write_15 : decode cX4_write 15 = .ok (.imul, 1) := by decide +kernel
theorem dX4_write_16 : decode cX4_write 16 = .ok (.iload_n 2, 1) := by decide +kernel
theorem dX4_write_17 : decode cX4_write 17 = .ok (.iadd, 1) := by decide +kernel
theorem dX4_write_18 : decode cX4_write 18 = .ok (.lload_n 3, 1) := by decide +kernel
theorem dX4_write_19 : decode cX4_write 19 = .ok (.lastore, 1) := by decide +kernel
theorem dX4_write_20 : decode cX4_write 20 = .ok (.return_, 1) := by decide +kernel
set_option maxRecDepth 20000 in
theorem ggX4_more_X4_at : GoodIn wsX4_more wsX4_at := goodIn_r _ [5, 6, 7, 8, 4, 9, 14] (by decide +kernel) (by decide +kernel)
set_option maxRecDepth 20000 in
theorem gX4_more_X4_at : GoodIn wsX4_more (wsV RX4 19 RX4 yX4_at wsX4_at) := goodIn_app (goodIn_of _ (by decide +kernel)) ggX4_more_X4_at
set_option maxRecDepth 20000 in
theorem ggX4_more_X4_write : GoodIn wsX4_more wsX4_write := goodIn_r _ [13, 6, 7, 8, 4, 9, 14] (by decide +kernel) (by decide +kernel)
set_option maxRecDepth 20000 in
theorem gX4_more_X4_write : GoodIn wsX4_more (wsV RX4 23 RX4 yX4_write wsX4_write) := goodIn_app (goodIn_of _ (by decide +kernel)) ggX4_more_X4_write
theorem dX4_more_0 : decode cX4_more 0 = .ok (.aload_n 0, 1) := by decide +kernel
theorem dX4_more_1 : decode cX4_more 1 = .ok (.iload_n 1, 1) := by decide +kernel
theorem dX4_more_2 : decode cX4_more 2 = .ok (.iload_n 2, 1) := by decide +kernel
theorem dX4_more_3 : decode cX4_more 3 = .ok (.aload_n 0, 1) := by decide +kernel
theorem dX4_more_4 : decode cX4_more 4 = .ok (.iload_n 1, 1) := by decide +kernel
theorem dX4_more_5 : decode cX4_more 5 = .ok (.iload_n 2, 1) := by decide +kernel
theorem dX4_more_6 : decode cX4_more 6 = .ok (.invokevirtual 19, 3) := by decide +kernel
theorem dX4_more_9 : decode cX4_more 9 = .ok (.lload_n 3, 1) := by decide +kernel
theorem dX4_more_10 : decode cX4_more 10 = .ok (.ladd, 1) := by decide +kernel
theorem dX4_more_11 : decode cX4_more 11 = .ok (.invokevirtual 23, 3) := by decide +kernel
theorem dX4_more_14 : decode cX4_more 14 = .ok (.return_, 1) := by decide +kernel
set_option maxRecDepth 20000 in
theorem ggX4_clear_J7_fill_d0a16 : GoodIn wsX4_clear wsJ7_fill_d0a16 := goodIn_r _ [5] (by decide +kernel) (by decide +kernel)
set_option maxRecDepth 20000 in
theorem gX4_clear_J7_fill_d0a16 : GoodIn wsX4_clear (va_wsS RX4 27 yJ7_fill_d0a16 wsJ7_fill_d0a16) := goodIn_app (goodIn_of _ (by decide +kernel)) ggX4_clear_J7_fill_d0a16
theorem dX4_clear_0 : decode cX4_clear 0 = .ok (.aload_n 0, 1) := by decide +kernel
theorem dX4_clear_1 : decode cX4_clear 1 = .ok (.getfield 9, 3) := by decide +kernel
theorem dX4_clear_4 : decode cX4_clear 4 = .ok (.lconst 0, 1) := by decide +kernel
theorem dX4_clear_5 : decode cX4_clear 5 = .ok (.invokestatic 27, 3) := by decide +kernel
theorem dX4_clear_8 : decode cX4_clear 8 = .ok (.return_, 1) := by decide +kernel
theorem dX5_init_0 : decode cX5_init 0 = .ok (.aload_n 0, 1) := by decide +kernel
theorem dX5_init_1 : decode cX5_init 1 = .ok (.invokespecial 3, 3) := by decide +kernel
theorem dX5_init_4 : decode cX5_init 4 = .ok (.aload_n 0, 1) := by decide +kernel
theorem dX5_init_5 : decode cX5_init 5 = .ok (.bipush 104, 2) := by decide +kernel
theorem dX5_init_7 : decode cX5_init 7 = .ok (.newarray .boolean, 2) := by decide +kernel
theorem dX5_init_9 : decode cX5_init 9 = .ok (.putfield 11, 3) := by decide +kernel
theorem dX5_init_12 : decode cX5_init 12 = .ok (.aload_n 0, 1) := by decide +kernel
theorem dX5_init_13 : decode cX5_init 13 = .ok (.iconst 2, 1) := by decide +kernel
theorem dX5_init_14 : decode cX5_init 14 = .ok (.newarray .int, 2) := by decide +kernel
theorem dX5_init_16 : decode cX5_init 16 = .ok (.putfield 15, 3) := by decide +kernel
theorem dX5_init_19 : decode cX5_init 19 = .ok (.return_, 1) := by decide +kernel
set_option maxRecDepth 20000 in
theorem ggX5_isSaid_X2_size : GoodIn wsX5_isSaid wsX2_size := goodIn_r _ [5, 6, 20, 21] (by decide +kernel) (by decide +kernel)
set_option maxRecDepth 20000 in
theorem gX5_isSaid_X2_size : GoodIn wsX5_isSaid (wsV RX5 19 RX2 yX2_size wsX2_size) := goodIn_app (goodIn_of _ (by decide +kernel)) ggX5_isSaid_X2_size
set_option maxRecDepth 20000 in
theorem ggX5_isSaid_X2_at : GoodIn wsX5_isSaid wsX2_at := goodIn_r _ [10, 11, 12, 13, 14, 4, 15, 6, 20, 21] (by decide +kernel) (by decide +kernel)
set_option maxRecDepth 20000 in
theorem gX5_isSaid_X2_at : GoodIn wsX5_isSaid (wsV RX5 25 RX2 yX2_at wsX2_at) := goodIn_app (goodIn_of _ (by decide +kernel)) ggX5_isSaid_X2_at
set_option maxRecDepth 20000 in
theorem ggX5_isSaid_X5_after : GoodIn wsX5_isSaid wsX5_after := goodIn_r _ [19] (by decide +kernel) (by decide +kernel)
set_option maxRecDepth 20000 in
theorem gX5_isSaid_X5_after : GoodIn wsX5_isSaid (va_wsS RX5 29 yX5_after wsX5_after) := goodIn_app (goodIn_of _ (by decide +kernel)) ggX5_isSaid_X5_after
theorem dX5_isSaid_0 : decode cX5_isSaid 0 = .ok (.iconst 0, 1) := by decide +kernel
theorem dX5_isSaid_1 : decode cX5_isSaid 1 = .ok (.istore_n 3, 1) := by decide +kernel
theorem dX5_isSaid_2 : decode cX5_isSaid 2 = .ok (.iconst 0, 1) := by decide +kernel
theorem dX5_isSaid_3 : decode cX5_isSaid 3 = .ok (.istore 4, 2) := by decide +kernel
theorem dX5_isSaid_5 : decode cX5_isSaid 5 = .ok (.iload 4, 2) := by decide +kernel
theorem dX5_isSaid_7 : decode cX5_isSaid 7 = .ok (.aload_n 0, 1) := by decide +kernel
theorem dX5_isSaid_8 : decode cX5_isSaid 8 = .ok (.invokevirtual 19, 3) := by decide +kernel
theorem dX5_isSaid_11 : decode cX5_isSaid 11 = .ok (.if_icmp .ge 22, 3) := by decide +kernel
theorem dX5_isSaid_14 : decode cX5_isSaid 14 = .ok (.iload_n 3, 1) := by decide +kernel
theorem dX5_isSaid_15 : decode cX5_isSaid 15 = .ok (.aload_n 0, 1) := by decide +kernel
theorem dX5_isSaid_16 : decode cX5_isSaid 16 = .ok (.iload 4, 2) := by decide +kernel
theorem dX5_isSaid_18 : decode cX5_isSaid 18 = .ok (.invokevirtual 25, 3) := by decide +kernel
theorem dX5_isSaid_21 : decode cX5_isSaid 21 = .ok (.aload_n 1, 1) := by decide +kernel
theorem dX5_isSaid_22 : decode cX5_isSaid 22 = .ok (.iload_n 2, 1) := by decide +kernel
theorem dX5_isSaid_23 : decode cX5_isSaid 23 = .ok (.invokestatic 29, 3) := by decide +kernel
theorem dX5_isSaid_26 : decode cX5_isSaid 26 = .ok (.istore_n 3, 1) := by decide +kernel
theorem dX5_isSaid_27 : decode cX5_isSaid 27 = .ok (.iinc 4 1, 3) := by decide +kernel
theorem dX5_isSaid_30 : decode cX5_isSaid 30 = .ok (.goto (-25), 3) := by decide +kernel
theorem dX5_isSaid_33 : decode cX5_isSaid 33 = .ok (.iload_n 3, 1) := by decide +kernel
theorem dX5_isSaid_34 : decode cX5_isSaid 34 = .ok (.iconst 1, 1) := by decide +kernel
theorem dX5_isSaid_35 : decode cX5_isSaid 35 = .ok (.iand, 1) := by decide +kernel
theorem dX5_isSaid_36 : decode cX5_isSaid 36 = .ok (.ifCond .eq 7, 3) := by decide +kernel
theorem dX5_isSaid_39 : decode cX5_isSaid 39 = .ok (.iconst 1, 1) := by decide +kernel
theorem dX5_isSaid_40 : decode cX5_isSaid 40 = .ok (.goto 4, 3) := by decide +kernel
theorem dX5_isSaid_43 : decode cX5_isSaid 43 = .ok (.iconst 0, 1) := by decide +kernel
theorem dX5_isSaid_44 : decode cX5_isSaid 44 = .ok (.ireturn, 1) := by decide +kernel
set_option maxRecDepth 20000 in
theorem ggX5_fewest_X5_keepEnds : GoodIn wsX5_fewest wsX5_keepEnds := goodIn_r _ [5, 6, 7, 8, 9, 10, 11, 12, 13, 14, 15, 16, 17, 18, 19, 20, 21, 22, 23, 24, 25, 26, 27, 4, 28, 29, 30, 31, 32, 46, 47, 48, 49] (by decide +kernel) (by decide +kernel)
set_option maxRecDepth 20000 in
theorem gX5_fewest_X5_keepEnds : GoodIn wsX5_fewest (wsV RX5 33 RX5 yX5_keepEnds wsX5_keepEnds) := goodIn_app (goodIn_of _ (by decide +kernel)) ggX5_fewest_X5_keepEnds
set_option maxRecDepth 20000 in
theorem ggX5_fewest_X5_endsSaid : GoodIn wsX5_fewest wsX5_endsSaid := goodIn_r _ [32, 10, 46, 47] (by decide +kernel) (by decide +kernel)
set_option maxRecDepth 20000 in
theorem gX5_fewest_X5_endsSaid : GoodIn wsX5_fewest (wsV RX5 37 RX5 yX5_endsSaid wsX5_endsSaid) := goodIn_app (goodIn_of _ (by decide +kernel)) ggX5_fewest_X5_endsSaid
set_option maxRecDepth 20000 in
theorem ggX5_fewest_X5_findOne : GoodIn wsX5_fewest wsX5_findOne := goodIn_r _ [36, 11, 12, 13, 14, 15, 16, 26, 27, 4, 28, 29, 30, 31, 32, 10, 37, 38, 39, 40, 41, 17, 18, 19, 20, 21, 22, 23, 24, 25, 48, 49, 46, 47] (by decide +kernel) (by decide +kernel)
set_option maxRecDepth 20000 in
theorem gX5_fewest_X5_findOne : GoodIn wsX5_fewest (wsV RX5 41 RX5 yX5_findOne wsX5_findOne) := goodIn_app (goodIn_of _ (by decide +kernel)) ggX5_fewest_X5_findOne
set_option maxRecDepth 20000 in
theorem ggX5_fewest_X5_findTwo : GoodIn wsX5_fewest wsX5_findTwo := goodIn_r _ [45, 11, 12, 13, 14, 15, 16, 26, 27, 4, 28, 33, 34, 35, 36, 29, 30, 31, 32, 10, 37, 38, 39, 40, 41, 17, 18, 19, 20, 21, 22, 23, 24, 25, 48, 49, 46, 47] (by decide +kernel) (by decide +kernel)
set_option maxRecDepth 20000 in
theorem gX5_fewest_X5_findTwo : GoodIn wsX5_fewest (wsV RX5 45 RX5 yX5_findTwo wsX5_findTwo) := goodIn_app (goodIn_of _ (by decide +kernel)) ggX5_fewest_X5_findTwo
theorem dX5_fewest_0 : decode cX5_fewest 0 = .ok (.aload_n 0, 1) := by decide +kernel
theorem dX5_fewest_1 : decode cX5_fewest 1 = .ok (.aload_n 1, 1) := by decide +kernel
theorem dX5_fewest_2 : decode cX5_fewest 2 = .ok (.aload_n 2, 1) := by decide +kernel
theorem dX5_fewest_3 : decode cX5_fewest 3 = .ok (.iload_n 3, 1) := by decide +kernel
theorem dX5_fewest_4 : decode cX5_fewest 4 = .ok (.invokevirtual 33, 3) := by decide +kernel
theorem dX5_fewest_7 : decode cX5_fewest 7 = .ok (.aload_n 0, 1) := by decide +kernel
theorem dX5_fewest_8 : decode cX5_fewest 8 = .ok (.iconst 0, 1) := by decide +kernel
theorem dX5_fewest_9 : decode cX5_fewest 9 = .ok (.iconst 0, 1) := by decide +kernel
theorem dX5_fewest_10 : decode cX5_fewest 10 = .ok (.invokevirtual 37, 3) := by decide +kernel
theorem dX5_fewest_13 : decode cX5_fewest 13 = .ok (.iload 4, 2) := by decide +kernel
theorem dX5_fewest_15 : decode cX5_fewest 15 = .ok (.if_icmp .ne 5, 3) := by decide +kernel
theorem dX5_fewest_18 : decode cX5_fewest 18 = .ok (.iconst 0, 1) := by decide +kernel
theorem dX5_fewest_19 : decode cX5_fewest 19 = .ok (.ireturn, 1) := by decide +kernel
theorem dX5_fewest_20 : decode cX5_fewest 20 = .ok (.aload_n 0, 1) := by decide +kernel
theorem dX5_fewest_21 : decode cX5_fewest 21 = .ok (.aload_n 1, 1) := by decide +kernel
theorem dX5_fewest_22 : decode cX5_fewest 22 = .ok (.aload_n 2, 1) := by decide +kernel
theorem dX5_fewest_23 : decode cX5_fewest 23 = .ok (.iload_n 3, 1) := by decide +kernel
theorem dX5_fewest_24 : decode cX5_fewest 24 = .ok (.iload 4, 2) := by decide +kernel
theorem dX5_fewest_26 : decode cX5_fewest 26 = .ok (.iconst 0, 1) := by decide +kernel
theorem dX5_fewest_27 : decode cX5_fewest 27 = .ok (.iconst 0, 1) := by decide +kernel
theorem dX5_fewest_28 : decode cX5_fewest 28 = .ok (.iconst 0, 1) := by decide +kernel
theorem dX5_fewest_29 : decode cX5_fewest 29 = .ok (.invokevirtual 41, 3) := by decide +kernel
theorem dX5_fewest_32 : decode cX5_fewest 32 = .ok (.ifCond .eq 5, 3) := by decide +kernel
theorem dX5_fewest_35 : decode cX5_fewest 35 = .ok (.iconst 1, 1) := by decide +kernel
theorem dX5_fewest_36 : decode cX5_fewest 36 = .ok (.ireturn, 1) := by decide +kernel
theorem dX5_fewest_37 : decode cX5_fewest 37 = .ok (.aload_n 0, 1) := by decide +kernel
theorem dX5_fewest_38 : decode cX5_fewest 38 = .ok (.aload_n 1, 1) := by decide +kernel
theorem dX5_fewest_39 : decode cX5_fewest 39 = .ok (.aload_n 2, 1) := by decide +kernel
theorem dX5_fewest_40 : decode cX5_fewest 40 = .ok (.iload_n 3, 1) := by decide +kernel
theorem dX5_fewest_41 : decode cX5_fewest 41 = .ok (.iload 4, 2) := by decide +kernel
theorem dX5_fewest_43 : decode cX5_fewest 43 = .ok (.invokevirtual 45, 3) := by decide +kernel
theorem dX5_fewest_46 : decode cX5_fewest 46 = .ok (.ifCond .eq 7, 3) := by decide +kernel
theorem dX5_fewest_49 : decode cX5_fewest 49 = .ok (.iconst 2, 1) := by decide +kernel
theorem dX5_fewest_50 : decode cX5_fewest 50 = .ok (.goto 5, 3) := by decide +kernel
theorem dX5_fewest_53 : decode cX5_fewest 53 = .ok (.bipush (-9), 2) := by decide +kernel
theorem dX5_fewest_55 : decode cX5_fewest 55 = .ok (.ireturn, 1) := by decide +kernel
theorem dX5_found_0 : decode cX5_found 0 = .ok (.iload_n 1, 1) := by decide +kernel
theorem dX5_found_1 : decode cX5_found 1 = .ok (.ifCond .lt 17, 3) := by decide +kernel
theorem dX5_found_4 : decode cX5_found 4 = .ok (.iload_n 1, 1) := by decide +kernel
theorem dX5_found_5 : decode cX5_found 5 = .ok (.iconst 2, 1) := by decide +kernel
theorem dX5_found_6 : decode cX5_found 6 = .ok (.if_icmp .ge 12, 3) := by decide +kernel
theorem dX5_found_9 : decode cX5_found 9 = .ok (.aload_n 0, 1) := by decide +kernel
theorem dX5_found_10 : decode cX5_found 10 = .ok (.getfield 15, 3) := by decide +kernel
theorem dX5_found_13 : decode cX5_found 13 = .ok (.iload_n 1, 1) := by decide +kernel
theorem dX5_found_14 : decode cX5_found 14 = .ok (.iaload, 1) := by decide +kernel
theorem dX5_found_15 : decode cX5_found 15 = .ok (.goto 5, 3) := by decide +kernel
theorem dX5_found_18 : decode cX5_found 18 = .ok (.bipush (-9), 2) := by decide +kernel
theorem dX5_found_20 : decode cX5_found 20 = .ok (.ireturn, 1) := by decide +kernel
theorem dX5_after_0 : decode cX5_after 0 = .ok (.iload_n 1, 1) := by decide +kernel
theorem dX5_after_1 : decode cX5_after 1 = .ok (.ifCond .lt 9, 3) := by decide +kernel
theorem dX5_after_4 : decode cX5_after 4 = .ok (.iload_n 1, 1) := by decide +kernel
theorem dX5_after_5 : decode cX5_after 5 = .ok (.aload_n 2, 1) := by decide +kernel
theorem dX5_after_6 : decode cX5_after 6 = .ok (.arraylength, 1) := by decide +kernel
theorem dX5_after_7 : decode cX5_after 7 = .ok (.if_icmp .lt 5, 3) := by decide +kernel
theorem dX5_after_10 : decode cX5_after 10 = .ok (.iload_n 0, 1) := by decide +kernel
theorem dX5_after_11 : decode cX5_after 11 = .ok (.ireturn, 1) := by decide +kernel
theorem dX5_after_12 : decode cX5_after 12 = .ok (.aload_n 2, 1) := by decide +kernel
theorem dX5_after_13 : decode cX5_after 13 = .ok (.iload_n 1, 1) := by decide +kernel
theorem dX5_after_14 : decode cX5_after 14 = .ok (.iaload, 1) := by decide +kernel
theorem dX5_after_15 : decode cX5_after 15 = .ok (.ifCond .ne 36, 3) := by decide +kernel
theorem dX5_after_18 : decode cX5_after 18 = .ok (.iload_n 0, 1) := by decide +kernel
theorem dX5_after_19 : decode cX5_after 19 = .ok (.iconst 2, 1) := by decide +kernel
theorem dX5_after_20 : decode cX5_after 20 = .ok (.iand, 1) := by decide +kernel
theorem dX5_after_21 : decode cX5_after 21 = .ok (.ifCond .eq 7, 3) := by decide +kernel
theorem dX5_after_24 : decode cX5_after 24 = .ok (.iconst 1, 1) := by decide +kernel
theorem dX5_after_25 : decode cX5_after 25 = .ok (.goto 4, 3) := by decide +kernel
theorem dX5_after_28 : decode cX5_after 28 = .ok (.iconst 0, 1) := by decide +kernel
theorem dX5_after_29 : decode cX5_after 29 = .ok (.istore 4, 2) := by decide +kernel
theorem dX5_after_31 : decode cX5_after 31 = .ok (.iload_n 1, 1) := by decide +kernel
theorem dX5_after_32 : decode cX5_after 32 = .ok (.iload_n 3, 1) := by decide +kernel
theorem dX5_after_33 : decode cX5_after 33 = .ok (.if_icmp .ne 14, 3) := by decide +kernel
theorem dX5_after_36 : decode cX5_after 36 = .ok (.iload 4, 2) := by decide +kernel
theorem dX5_after_38 : decode cX5_after 38 = .ok (.ifCond .eq 7, 3) := by decide +kernel
theorem dX5_after_41 : decode cX5_after 41 = .ok (.iconst 4, 1) := by decide +kernel
theorem dX5_after_42 : decode cX5_after 42 = .ok (.goto 4, 3) := by decide +kernel
theorem dX5_after_45 : decode cX5_after 45 = .ok (.iconst 5, 1) := by decide +kernel
theorem dX5_after_46 : decode cX5_after 46 = .ok (.ireturn, 1) := by decide +kernel
theorem dX5_after_47 : decode cX5_after 47 = .ok (.iload_n 0, 1) := by decide +kernel
theorem dX5_after_48 : decode cX5_after 48 = .ok (.iconst 1, 1) := by decide +kernel
theorem dX5_after_49 : decode cX5_after 49 = .ok (.iand, 1) := by decide +kernel
theorem dX5_after_50 : decode cX5_after 50 = .ok (.ireturn, 1) := by decide +kernel
theorem dX5_after_51 : decode cX5_after 51 = .ok (.aload_n 2, 1) := by decide +kernel
theorem dX5_after_52 : decode cX5_after 52 = .ok (.iload_n 1, 1) := by decide +kernel
theorem dX5_after_53 : decode cX5_after 53 = .ok (.iaload, 1) := by decide +kernel
theorem dX5_after_54 : decode cX5_after 54 = .ok (.iconst 2, 1) := by decide +kernel
theorem dX5_after_55 : decode cX5_after 55 = .ok (.if_icmp .ne 13, 3) := by decide +kernel
theorem dX5_after_58 : decode cX5_after 58 = .ok (.iload_n 0, 1) := by decide +kernel
theorem dX5_after_59 : decode cX5_after 59 = .ok (.iconst 4, 1) := by decide +kernel
theorem dX5_after_60 : decode cX5_after 60 = .ok (.iand, 1) := by decide +kernel
theorem dX5_after_61 : decode cX5_after 61 = .ok (.ifCond .eq 7, 3) := by decide +kernel
theorem dX5_after_64 : decode cX5_after 64 = .ok (.iconst 1, 1) := by decide +kernel
theorem dX5_after_65 : decode cX5_after 65 = .ok (.goto 4, 3) := by decide +kernel
theorem dX5_after_68 : decode cX5_after 68 = .ok (.iconst 0, 1) := by decide +kernel
theorem dX5_after_69 : decode cX5_after 69 = .ok (.istore 4, 2) := by decide +kernel
theorem dX5_after_71 : decode cX5_after 71 = .ok (.iload 4, 2) := by decide +kernel
theorem dX5_after_73 : decode cX5_after 73 = .ok (.ifCond .eq 10, 3) := by decide +kernel
theorem dX5_after_76 : decode cX5_after 76 = .ok (.iload_n 0, 1) := by decide +kernel
theorem dX5_after_77 : decode cX5_after 77 = .ok (.bipush (-2), 2) := by decide +kernel
theorem dX5_after_79 : decode cX5_after 79 = .ok (.iand, 1) := by decide +kernel
theorem dX5_after_80 : decode cX5_after 80 = .ok (.goto 4, 3) := by decide +kernel
theorem dX5_after_83 : decode cX5_after 83 = .ok (.iload_n 0, 1) := by decide +kernel
theorem dX5_after_84 : decode cX5_after 84 = .ok (.iconst 2, 1) := by decide +kernel
theorem dX5_after_85 : decode cX5_after 85 = .ok (.ixor, 1) := by decide +kernel
theorem dX5_after_86 : decode cX5_after 86 = .ok (.ireturn, 1) := by decide +kernel
set_option maxRecDepth 20000 in
theorem ggX5_keepEnds_X2_size : GoodIn wsX5_keepEnds wsX2_size := goodIn_r _ [10, 11, 31, 32] (by decide +kernel) (by decide +kernel)
set_option maxRecDepth 20000 in
theorem gX5_keepEnds_X2_size : GoodIn wsX5_keepEnds (wsV RX5 19 RX2 yX2_size wsX2_size) := goodIn_app (goodIn_of _ (by decide +kernel)) ggX5_keepEnds_X2_size
set_option maxRecDepth 20000 in
theorem ggX5_keepEnds_X2_at : GoodIn wsX5_keepEnds wsX2_at := goodIn_r _ [15, 16, 17, 18, 19, 9, 20, 11, 31, 32] (by decide +kernel) (by decide +kernel)
set_option maxRecDepth 20000 in
theorem gX5_keepEnds_X2_at : GoodIn wsX5_keepEnds (wsV RX5 25 RX2 yX2_at wsX2_at) := goodIn_app (goodIn_of _ (by decide +kernel)) ggX5_keepEnds_X2_at
set_option maxRecDepth 20000 in
theorem ggX5_keepEnds_X5_after : GoodIn wsX5_keepEnds wsX5_after := goodIn_r _ [24] (by decide +kernel) (by decide +kernel)
set_option maxRecDepth 20000 in
theorem gX5_keepEnds_X5_after : GoodIn wsX5_keepEnds (va_wsS RX5 29 yX5_after wsX5_after) := goodIn_app (goodIn_of _ (by decide +kernel)) ggX5_keepEnds_X5_after
set_option maxRecDepth 20000 in
theorem ggX5_keepEnds_X5_endsSaid : GoodIn wsX5_keepEnds wsX5_endsSaid := goodIn_r _ [28, 5, 29, 30] (by decide +kernel) (by decide +kernel)
set_option maxRecDepth 20000 in
theorem gX5_keepEnds_X5_endsSaid : GoodIn wsX5_keepEnds (wsV RX5 37 RX5 yX5_endsSaid wsX5_endsSaid) := goodIn_app (goodIn_of _ (by decide +kernel)) ggX5_keepEnds_X5_endsSaid
theorem dX5_keepEnds_0 : decode cX5_keepEnds 0 = .ok (.aload_n 1, 1) := by decide +kernel
theorem dX5_keepEnds_1 : decode cX5_keepEnds 1 = .ok (.invokevirtual 19, 3) := by decide +kernel
theorem dX5_keepEnds_4 : decode cX5_keepEnds 4 = .ok (.bipush 12, 2) := by decide +kernel
theorem dX5_keepEnds_6 : decode cX5_keepEnds 6 = .ok (.invokestatic 49, 3) := by decide +kernel
theorem dX5_keepEnds_9 : decode cX5_keepEnds 9 = .ok (.istore 4, 2) := by decide +kernel
theorem dX5_keepEnds_11 : decode cX5_keepEnds 11 = .ok (.iconst 0, 1) := by decide +kernel
theorem dX5_keepEnds_12 : decode cX5_keepEnds 12 = .ok (.istore 5, 2) := by decide +kernel
theorem dX5_keepEnds_14 : decode cX5_keepEnds 14 = .ok (.iload 5, 2) := by decide +kernel
theorem dX5_keepEnds_16 : decode cX5_keepEnds 16 = .ok (.bipush 8, 2) := by decide +kernel
theorem dX5_keepEnds_18 : decode cX5_keepEnds 18 = .ok (.if_icmp .ge 34, 3) := by decide +kernel
theorem dX5_keepEnds_21 : decode cX5_keepEnds 21 = .ok (.aload_n 0, 1) := by decide +kernel
theorem dX5_keepEnds_22 : decode cX5_keepEnds 22 = .ok (.getfield 11, 3) := by decide +kernel
theorem dX5_keepEnds_25 : decode cX5_keepEnds 25 = .ok (.iload 4, 2) := by decide +kernel
theorem dX5_keepEnds_27 : decode cX5_keepEnds 27 = .ok (.bipush 8, 2) := by decide +kernel
theorem dX5_keepEnds_29 : decode cX5_keepEnds 29 = .ok (.imul, 1) := by decide +kernel
theorem dX5_keepEnds_30 : decode cX5_keepEnds 30 = .ok (.iload 5, 2) := by decide +kernel
theorem dX5_keepEnds_32 : decode cX5_keepEnds 32 = .ok (.iadd, 1) := by decide +kernel
theorem dX5_keepEnds_33 : decode cX5_keepEnds 33 = .ok (.iload 5, 2) := by decide +kernel
theorem dX5_keepEnds_35 : decode cX5_keepEnds 35 = .ok (.iconst 1, 1) := by decide +kernel
theorem dX5_keepEnds_36 : decode cX5_keepEnds 36 = .ok (.iand, 1) := by decide +kernel
theorem dX5_keepEnds_37 : decode cX5_keepEnds 37 = .ok (.ifCond .eq 7, 3) := by decide +kernel
theorem dX5_keepEnds_40 : decode cX5_keepEnds 40 = .ok (.iconst 1, 1) := by decide +kernel
theorem dX5_keepEnds_41 : decode cX5_keepEnds 41 = .ok (.goto 4, 3) := by decide +kernel
theorem dX5_keepEnds_44 : decode cX5_keepEnds 44 = .ok (.iconst 0, 1) := by decide +kernel
theorem dX5_keepEnds_45 : decode cX5_keepEnds 45 = .ok (.bastore, 1) := by decide +kernel
theorem dX5_keepEnds_46 : decode cX5_keepEnds 46 = .ok (.iinc 5 1, 3) := by decide +kernel
theorem dX5_keepEnds_49 : decode cX5_keepEnds 49 = .ok (.goto (-35), 3) := by decide +kernel
theorem dX5_keepEnds_52 : decode cX5_keepEnds 52 = .ok (.iload 4, 2) := by decide +kernel
theorem dX5_keepEnds_54 : decode cX5_keepEnds 54 = .ok (.iconst 1, 1) := by decide +kernel
theorem dX5_keepEnds_55 : decode cX5_keepEnds 55 = .ok (.isub, 1) := by decide +kernel
theorem dX5_keepEnds_56 : decode cX5_keepEnds 56 = .ok (.istore 5, 2) := by decide +kernel
theorem dX5_keepEnds_58 : decode cX5_keepEnds 58 = .ok (.iload 5, 2) := by decide +kernel
theorem dX5_keepEnds_60 : decode cX5_keepEnds 60 = .ok (.ifCond .lt 59, 3) := by decide +kernel
theorem dX5_keepEnds_63 : decode cX5_keepEnds 63 = .ok (.iconst 0, 1) := by decide +kernel
theorem dX5_keepEnds_64 : decode cX5_keepEnds 64 = .ok (.istore 6, 2) := by decide +kernel
theorem dX5_keepEnds_66 : decode cX5_keepEnds 66 = .ok (.iload 6, 2) := by decide +kernel
theorem dX5_keepEnds_68 : decode cX5_keepEnds 68 = .ok (.bipush 8, 2) := by decide +kernel
theorem dX5_keepEnds_70 : decode cX5_keepEnds 70 = .ok (.if_icmp .ge 43, 3) := by decide +kernel
theorem dX5_keepEnds_73 : decode cX5_keepEnds 73 = .ok (.aload_n 0, 1) := by decide +kernel
theorem dX5_keepEnds_74 : decode cX5_keepEnds 74 = .ok (.getfield 11, 3) := by decide +kernel
theorem dX5_keepEnds_77 : decode cX5_keepEnds 77 = .ok (.iload 5, 2) := by decide +kernel
theorem dX5_keepEnds_79 : decode cX5_keepEnds 79 = .ok (.bipush 8, 2) := by decide +kernel
theorem dX5_keepEnds_81 : decode cX5_keepEnds 81 = .ok (.imul, 1) := by decide +kernel
theorem dX5_keepEnds_82 : decode cX5_keepEnds 82 = .ok (.iload 6, 2) := by decide +kernel
theorem dX5_keepEnds_84 : decode cX5_keepEnds 84 = .ok (.iadd, 1) := by decide +kernel
theorem dX5_keepEnds_85 : decode cX5_keepEnds 85 = .ok (.aload_n 0, 1) := by decide +kernel
theorem dX5_keepEnds_86 : decode cX5_keepEnds 86 = .ok (.iload 5, 2) := by decide +kernel
theorem dX5_keepEnds_88 : decode cX5_keepEnds 88 = .ok (.iconst 1, 1) := by decide +kernel
theorem dX5_keepEnds_89 : decode cX5_keepEnds 89 = .ok (.iadd, 1) := by decide +kernel
theorem dX5_keepEnds_90 : decode cX5_keepEnds 90 = .ok (.iload 6, 2) := by decide +kernel
theorem dX5_keepEnds_92 : decode cX5_keepEnds 92 = .ok (.aload_n 1, 1) := by decide +kernel
theorem dX5_keepEnds_93 : decode cX5_keepEnds 93 = .ok (.iload 5, 2) := by decide +kernel
theorem dX5_keepEnds_95 : decode cX5_keepEnds 95 = .ok (.invokevirtual 25, 3) := by decide +kernel
theorem dX5_keepEnds_98 : decode cX5_keepEnds 98 = .ok (.aload_n 2, 1) := by decide +kernel
theorem dX5_keepEnds_99 : decode cX5_keepEnds 99 = .ok (.iload_n 3, 1) := by decide +kernel
theorem dX5_keepEnds_100 : decode cX5_keepEnds 100 = .ok (.invokestatic 29, 3) := by decide +kernel
theorem dX5_keepEnds_103 : decode cX5_keepEnds 103 = .ok (.invokevirtual 37, 3) := by decide +kernel
theorem dX5_keepEnds_106 : decode cX5_keepEnds 106 = .ok (.bastore, 1) := by decide +kernel
theorem dX5_keepEnds_107 : decode cX5_keepEnds 107 = .ok (.iinc 6 1, 3) := by decide +kernel
theorem dX5_keepEnds_110 : decode cX5_keepEnds 110 = .ok (.goto (-44), 3) := by decide +kernel
theorem dX5_keepEnds_113 : decode cX5_keepEnds 113 = .ok (.iinc 5 (-1), 3) := by decide +kernel
theorem dX5_keepEnds_116 : decode cX5_keepEnds 116 = .ok (.goto (-58), 3) := by decide +kernel
theorem dX5_keepEnds_119 : decode cX5_keepEnds 119 = .ok (.return_, 1) := by decide +kernel
theorem dX5_endsSaid_0 : decode cX5_endsSaid 0 = .ok (.iload_n 1, 1) := by decide +kernel
theorem dX5_endsSaid_1 : decode cX5_endsSaid 1 = .ok (.ifCond .lt 37, 3) := by decide +kernel
theorem dX5_endsSaid_4 : decode cX5_endsSaid 4 = .ok (.iload_n 1, 1) := by decide +kernel
theorem dX5_endsSaid_5 : decode cX5_endsSaid 5 = .ok (.bipush 13, 2) := by decide +kernel
theorem dX5_endsSaid_7 : decode cX5_endsSaid 7 = .ok (.if_icmp .ge 31, 3) := by decide +kernel
theorem dX5_endsSaid_10 : decode cX5_endsSaid 10 = .ok (.iload_n 2, 1) := by decide +kernel
theorem dX5_endsSaid_11 : decode cX5_endsSaid 11 = .ok (.ifCond .lt 27, 3) := by decide +kernel
theorem dX5_endsSaid_14 : decode cX5_endsSaid 14 = .ok (.iload_n 2, 1) := by decide +kernel
theorem dX5_endsSaid_15 : decode cX5_endsSaid 15 = .ok (.bipush 8, 2) := by decide +kernel
theorem dX5_endsSaid_17 : decode cX5_endsSaid 17 = .ok (.if_icmp .ge 21, 3) := by decide +kernel
theorem dX5_endsSaid_20 : decode cX5_endsSaid 20 = .ok (.aload_n 0, 1) := by decide +kernel
theorem dX5_endsSaid_21 : decode cX5_endsSaid 21 = .ok (.getfield 11, 3) := by decide +kernel
theorem dX5_endsSaid_24 : decode cX5_endsSaid 24 = .ok (.iload_n 1, 1) := by decide +kernel
theorem dX5_endsSaid_25 : decode cX5_endsSaid 25 = .ok (.bipush 8, 2) := by decide +kernel
theorem dX5_endsSaid_27 : decode cX5_endsSaid 27 = .ok (.imul, 1) := by decide +kernel
theorem dX5_endsSaid_28 : decode cX5_endsSaid 28 = .ok (.iload_n 2, 1) := by decide +kernel
theorem dX5_endsSaid_29 : decode cX5_endsSaid 29 = .ok (.iadd, 1) := by decide +kernel
theorem dX5_endsSaid_30 : decode cX5_endsSaid 30 = .ok (.baload, 1) := by decide +kernel
theorem dX5_endsSaid_31 : decode cX5_endsSaid 31 = .ok (.ifCond .eq 7, 3) := by decide +kernel
theorem dX5_endsSaid_34 : decode cX5_endsSaid 34 = .ok (.iconst 1, 1) := by decide +kernel
theorem dX5_endsSaid_35 : decode cX5_endsSaid 35 = .ok (.goto 4, 3) := by decide +kernel
theorem dX5_endsSaid_38 : decode cX5_endsSaid 38 = .ok (.iconst 0, 1) := by decide +kernel
theorem dX5_endsSaid_39 : decode cX5_endsSaid 39 = .ok (.ireturn, 1) := by decide +kernel
set_option maxRecDepth 20000 in
theorem ggX5_findOne_X2_size : GoodIn wsX5_findOne wsX2_size := goodIn_r _ [5, 6, 30, 31] (by decide +kernel) (by decide +kernel)
set_option maxRecDepth 20000 in
theorem gX5_findOne_X2_size : GoodIn wsX5_findOne (wsV RX5 19 RX2 yX2_size wsX2_size) := goodIn_app (goodIn_of _ (by decide +kernel)) ggX5_findOne_X2_size
set_option maxRecDepth 20000 in
theorem ggX5_findOne_X5_after : GoodIn wsX5_findOne wsX5_after := goodIn_r _ [10] (by decide +kernel) (by decide +kernel)
set_option maxRecDepth 20000 in
theorem gX5_findOne_X5_after : GoodIn wsX5_findOne (va_wsS RX5 29 yX5_after wsX5_after) := goodIn_app (goodIn_of _ (by decide +kernel)) ggX5_findOne_X5_after
set_option maxRecDepth 20000 in
theorem ggX5_findOne_X5_endsSaid : GoodIn wsX5_findOne wsX5_endsSaid := goodIn_r _ [14, 15, 32, 33] (by decide +kernel) (by decide +kernel)
set_option maxRecDepth 20000 in
theorem gX5_findOne_X5_endsSaid : GoodIn wsX5_findOne (wsV RX5 37 RX5 yX5_endsSaid wsX5_endsSaid) := goodIn_app (goodIn_of _ (by decide +kernel)) ggX5_findOne_X5_endsSaid
set_option maxRecDepth 20000 in
theorem ggX5_findOne_X5_keep : GoodIn wsX5_findOne wsX5_keep := goodIn_r _ [19, 20, 32, 33] (by decide +kernel) (by decide +kernel)
set_option maxRecDepth 20000 in
theorem gX5_findOne_X5_keep : GoodIn wsX5_findOne (wsV RX5 55 RX5 yX5_keep wsX5_keep) := goodIn_app (goodIn_of _ (by decide +kernel)) ggX5_findOne_X5_keep
set_option maxRecDepth 20000 in
theorem ggX5_findOne_X2_at : GoodIn wsX5_findOne wsX2_at := goodIn_r _ [24, 25, 26, 27, 28, 4, 29, 6, 30, 31] (by decide +kernel) (by decide +kernel)
set_option maxRecDepth 20000 in
theorem gX5_findOne_X2_at : GoodIn wsX5_findOne (wsV RX5 25 RX2 yX2_at wsX2_at) := goodIn_app (goodIn_of _ (by decide +kernel)) ggX5_findOne_X2_at
theorem dX5_findOne_0 : decode cX5_findOne 0 = .ok (.iload 6, 2) := by decide +kernel
theorem dX5_findOne_2 : decode cX5_findOne 2 = .ok (.istore 8, 2) := by decide +kernel
theorem dX5_findOne_4 : decode cX5_findOne 4 = .ok (.iload 5, 2) := by decide +kernel
theorem dX5_findOne_6 : decode cX5_findOne 6 = .ok (.istore 9, 2) := by decide +kernel
theorem dX5_findOne_8 : decode cX5_findOne 8 = .ok (.iload 9, 2) := by decide +kernel
theorem dX5_findOne_10 : decode cX5_findOne 10 = .ok (.aload_n 1, 1) := by decide +kernel
theorem dX5_findOne_11 : decode cX5_findOne 11 = .ok (.invokevirtual 19, 3) := by decide +kernel
theorem dX5_findOne_14 : decode cX5_findOne 14 = .ok (.if_icmp .gt 72, 3) := by decide +kernel
theorem dX5_findOne_17 : decode cX5_findOne 17 = .ok (.iconst 0, 1) := by decide +kernel
theorem dX5_findOne_18 : decode cX5_findOne 18 = .ok (.istore 10, 2) := by decide +kernel
theorem dX5_findOne_20 : decode cX5_findOne 20 = .ok (.iload 10, 2) := by decide +kernel
theorem dX5_findOne_22 : decode cX5_findOne 22 = .ok (.bipush 8, 2) := by decide +kernel
theorem dX5_findOne_24 : decode cX5_findOne 24 = .ok (.if_icmp .ge 41, 3) := by decide +kernel
theorem dX5_findOne_27 : decode cX5_findOne 27 = .ok (.aload_n 0, 1) := by decide +kernel
theorem dX5_findOne_28 : decode cX5_findOne 28 = .ok (.iload 9, 2) := by decide +kernel
theorem dX5_findOne_30 : decode cX5_findOne 30 = .ok (.iload 8, 2) := by decide +kernel
theorem dX5_findOne_32 : decode cX5_findOne 32 = .ok (.iload 10, 2) := by decide +kernel
theorem dX5_findOne_34 : decode cX5_findOne 34 = .ok (.aload_n 2, 1) := by decide +kernel
theorem dX5_findOne_35 : decode cX5_findOne 35 = .ok (.iload_n 3, 1) := by decide +kernel
theorem dX5_findOne_36 : decode cX5_findOne 36 = .ok (.invokestatic 29, 3) := by decide +kernel
theorem dX5_findOne_39 : decode cX5_findOne 39 = .ok (.invokevirtual 37, 3) := by decide +kernel
theorem dX5_findOne_42 : decode cX5_findOne 42 = .ok (.iload 4, 2) := by decide +kernel
theorem dX5_findOne_44 : decode cX5_findOne 44 = .ok (.if_icmp .ne 15, 3) := by decide +kernel
theorem dX5_findOne_47 : decode cX5_findOne 47 = .ok (.aload_n 0, 1) := by decide +kernel
theorem dX5_findOne_48 : decode cX5_findOne 48 = .ok (.iload 7, 2) := by decide +kernel
theorem dX5_findOne_50 : decode cX5_findOne 50 = .ok (.iload 9, 2) := by decide +kernel
theorem dX5_findOne_52 : decode cX5_findOne 52 = .ok (.iload 10, 2) := by decide +kernel
theorem dX5_findOne_54 : decode cX5_findOne 54 = .ok (.invokevirtual 55, 3) := by decide +kernel
theorem dX5_findOne_57 : decode cX5_findOne 57 = .ok (.iconst 1, 1) := by decide +kernel
theorem dX5_findOne_58 : decode cX5_findOne 58 = .ok (.ireturn, 1) := by decide +kernel
theorem dX5_findOne_59 : decode cX5_findOne 59 = .ok (.iinc 10 1, 3) := by decide +kernel
theorem dX5_findOne_62 : decode cX5_findOne 62 = .ok (.goto (-42), 3) := by decide +kernel
theorem dX5_findOne_65 : decode cX5_findOne 65 = .ok (.iload 8, 2) := by decide +kernel
theorem dX5_findOne_67 : decode cX5_findOne 67 = .ok (.aload_n 1, 1) := by decide +kernel
theorem dX5_findOne_68 : decode cX5_findOne 68 = .ok (.iload 9, 2) := by decide +kernel
theorem dX5_findOne_70 : decode cX5_findOne 70 = .ok (.invokevirtual 25, 3) := by decide +kernel
theorem dX5_findOne_73 : decode cX5_findOne 73 = .ok (.aload_n 2, 1) := by decide +kernel
theorem dX5_findOne_74 : decode cX5_findOne 74 = .ok (.iload_n 3, 1) := by decide +kernel
theorem dX5_findOne_75 : decode cX5_findOne 75 = .ok (.invokestatic 29, 3) := by decide +kernel
theorem dX5_findOne_78 : decode cX5_findOne 78 = .ok (.istore 8, 2) := by decide +kernel
theorem dX5_findOne_80 : decode cX5_findOne 80 = .ok (.iinc 9 1, 3) := by decide +kernel
theorem dX5_findOne_83 : decode cX5_findOne 83 = .ok (.goto (-75), 3) := by decide +kernel
theorem dX5_findOne_86 : decode cX5_findOne 86 = .ok (.iconst 0, 1) := by decide +kernel
theorem dX5_findOne_87 : decode cX5_findOne 87 = .ok (.ireturn, 1) := by decide +kernel
set_option maxRecDepth 20000 in
theorem ggX5_findTwo_X2_size : GoodIn wsX5_findTwo wsX2_size := goodIn_r _ [5, 6, 34, 35] (by decide +kernel) (by decide +kernel)
set_option maxRecDepth 20000 in
theorem gX5_findTwo_X2_size : GoodIn wsX5_findTwo (wsV RX5 19 RX2 yX2_size wsX2_size) := goodIn_app (goodIn_of _ (by decide +kernel)) ggX5_findTwo_X2_size
set_option maxRecDepth 20000 in
theorem ggX5_findTwo_X5_after : GoodIn wsX5_findTwo wsX5_after := goodIn_r _ [10] (by decide +kernel) (by decide +kernel)
set_option maxRecDepth 20000 in
theorem gX5_findTwo_X5_after : GoodIn wsX5_findTwo (va_wsS RX5 29 yX5_after wsX5_after) := goodIn_app (goodIn_of _ (by decide +kernel)) ggX5_findTwo_X5_after
set_option maxRecDepth 20000 in
theorem ggX5_findTwo_X5_findOne : GoodIn wsX5_findTwo wsX5_findOne := goodIn_r _ [14, 1, 2, 3, 4, 5, 6, 7, 8, 9, 10, 15, 16, 17, 18, 19, 20, 21, 22, 23, 24, 25, 26, 27, 28, 29, 30, 31, 32, 33, 34, 35, 36, 37] (by decide +kernel) (by decide +kernel)
set_option maxRecDepth 20000 in
theorem gX5_findTwo_X5_findOne : GoodIn wsX5_findTwo (wsV RX5 41 RX5 yX5_findOne wsX5_findOne) := goodIn_app (goodIn_of _ (by decide +kernel)) ggX5_findTwo_X5_findOne
set_option maxRecDepth 20000 in
theorem ggX5_findTwo_X5_keep : GoodIn wsX5_findTwo wsX5_keep := goodIn_r _ [23, 24, 36, 37] (by decide +kernel) (by decide +kernel)
set_option maxRecDepth 20000 in
theorem gX5_findTwo_X5_keep : GoodIn wsX5_findTwo (wsV RX5 55 RX5 yX5_keep wsX5_keep) := goodIn_app (goodIn_of _ (by decide +kernel)) ggX5_findTwo_X5_keep
set_option maxRecDepth 20000 in
theorem ggX5_findTwo_X2_at : GoodIn wsX5_findTwo wsX2_at := goodIn_r _ [28, 29, 30, 31, 32, 4, 33, 6, 34, 35] (by decide +kernel) (by decide +kernel)
set_option maxRecDepth 20000 in
theorem gX5_findTwo_X2_at : GoodIn wsX5_findTwo (wsV RX5 25 RX2 yX2_at wsX2_at) := goodIn_app (goodIn_of _ (by decide +kernel)) ggX5_findTwo_X2_at
theorem dX5_findTwo_0 : decode cX5_findTwo 0 = .ok (.iconst 0, 1) := by decide +kernel
theorem dX5_findTwo_1 : decode cX5_findTwo 1 = .ok (.istore 5, 2) := by decide +kernel
theorem dX5_findTwo_3 : decode cX5_findTwo 3 = .ok (.iconst 0, 1) := by decide +kernel
theorem dX5_findTwo_4 : decode cX5_findTwo 4 = .ok (.istore 6, 2) := by decide +kernel
theorem dX5_findTwo_6 : decode cX5_findTwo 6 = .ok (.iload 6, 2) := by decide +kernel
theorem dX5_findTwo_8 : decode cX5_findTwo 8 = .ok (.aload_n 1, 1) := by decide +kernel
theorem dX5_findTwo_9 : decode cX5_findTwo 9 = .ok (.invokevirtual 19, 3) := by decide +kernel
theorem dX5_findTwo_12 : decode cX5_findTwo 12 = .ok (.if_icmp .gt 75, 3) := by decide +kernel
theorem dX5_findTwo_15 : decode cX5_findTwo 15 = .ok (.iconst 0, 1) := by decide +kernel
theorem dX5_findTwo_16 : decode cX5_findTwo 16 = .ok (.istore 7, 2) := by decide +kernel
theorem dX5_findTwo_18 : decode cX5_findTwo 18 = .ok (.iload 7, 2) := by decide +kernel
theorem dX5_findTwo_20 : decode cX5_findTwo 20 = .ok (.bipush 8, 2) := by decide +kernel
theorem dX5_findTwo_22 : decode cX5_findTwo 22 = .ok (.if_icmp .ge 44, 3) := by decide +kernel
theorem dX5_findTwo_25 : decode cX5_findTwo 25 = .ok (.aload_n 0, 1) := by decide +kernel
theorem dX5_findTwo_26 : decode cX5_findTwo 26 = .ok (.aload_n 1, 1) := by decide +kernel
theorem dX5_findTwo_27 : decode cX5_findTwo 27 = .ok (.aload_n 2, 1) := by decide +kernel
theorem dX5_findTwo_28 : decode cX5_findTwo 28 = .ok (.iload_n 3, 1) := by decide +kernel
theorem dX5_findTwo_29 : decode cX5_findTwo 29 = .ok (.iload 4, 2) := by decide +kernel
theorem dX5_findTwo_31 : decode cX5_findTwo 31 = .ok (.iload 6, 2) := by decide +kernel
theorem dX5_findTwo_33 : decode cX5_findTwo 33 = .ok (.iload 5, 2) := by decide +kernel
theorem dX5_findTwo_35 : decode cX5_findTwo 35 = .ok (.iload 7, 2) := by decide +kernel
theorem dX5_findTwo_37 : decode cX5_findTwo 37 = .ok (.aload_n 2, 1) := by decide +kernel
theorem dX5_findTwo_38 : decode cX5_findTwo 38 = .ok (.iload_n 3, 1) := by decide +kernel
theorem dX5_findTwo_39 : decode cX5_findTwo 39 = .ok (.invokestatic 29, 3) := by decide +kernel
theorem dX5_findTwo_42 : decode cX5_findTwo 42 = .ok (.iconst 1, 1) := by decide +kernel
theorem dX5_findTwo_43 : decode cX5_findTwo 43 = .ok (.invokevirtual 41, 3) := by decide +kernel
theorem dX5_findTwo_46 : decode cX5_findTwo 46 = .ok (.ifCond .eq 14, 3) := by decide +kernel
theorem dX5_findTwo_49 : decode cX5_findTwo 49 = .ok (.aload_n 0, 1) := by decide +kernel
theorem dX5_findTwo_50 : decode cX5_findTwo 50 = .ok (.iconst 0, 1) := by decide +kernel
theorem dX5_findTwo_51 : decode cX5_findTwo 51 = .ok (.iload 6, 2) := by decide +kernel
theorem dX5_findTwo_53 : decode cX5_findTwo 53 = .ok (.iload 7, 2) := by decide +kernel
theorem dX5_findTwo_55 : decode cX5_findTwo 55 = .ok (.invokevirtual 55, 3) := by decide +kernel
theorem dX5_findTwo_58 : decode cX5_findTwo 58 = .ok (.iconst 1, 1) := by decide +kernel
theorem dX5_findTwo_59 : decode cX5_findTwo 59 = .ok (.ireturn, 1) := by decide +kernel
theorem dX5_findTwo_60 : decode cX5_findTwo 60 = .ok (.iinc 7 1, 3) := by decide +kernel
theorem dX5_findTwo_63 : decode cX5_findTwo 63 = .ok (.goto (-45), 3) := by decide +kernel
theorem dX5_findTwo_66 : decode cX5_findTwo 66 = .ok (.iload 5, 2) := by decide +kernel
theorem dX5_findTwo_68 : decode cX5_findTwo 68 = .ok (.aload_n 1, 1) := by decide +kernel
theorem dX5_findTwo_69 : decode cX5_findTwo 69 = .ok (.iload 6, 2) := by decide +kernel
theorem dX5_findTwo_71 : decode cX5_findTwo 71 = .ok (.invokevirtual 25, 3) := by decide +kernel
theorem dX5_findTwo_74 : decode cX5_findTwo 74 = .ok (.aload_n 2, 1) := by decide +kernel
theorem dX5_findTwo_75 : decode cX5_findTwo 75 = .ok (.iload_n 3, 1) := by decide +kernel
theorem dX5_findTwo_76 : decode cX5_findTwo 76 = .ok (.invokestatic 29, 3) := by decide +kernel
theorem dX5_findTwo_79 : decode cX5_findTwo 79 = .ok (.istore 5, 2) := by decide +kernel
theorem dX5_findTwo_81 : decode cX5_findTwo 81 = .ok (.iinc 6 1, 3) := by decide +kernel
theorem dX5_findTwo_84 : decode cX5_findTwo 84 = .ok (.goto (-78), 3) := by decide +kernel
theorem dX5_findTwo_87 : decode cX5_findTwo 87 = .ok (.iconst 0, 1) := by decide +kernel
theorem dX5_findTwo_88 : decode cX5_findTwo 88 = .ok (.ireturn, 1) := by decide +kernel
theorem dX5_keep_0 : decode cX5_keep 0 = .ok (.iload_n 1, 1) := by decide +kernel
theorem dX5_keep_1 : decode cX5_keep 1 = .ok (.ifCond .lt 20, 3) := by decide +kernel
theorem dX5_keep_4 : decode cX5_keep 4 = .ok (.iload_n 1, 1) := by decide +kernel
theorem dX5_keep_5 : decode cX5_keep 5 = .ok (.iconst 2, 1) := by decide +kernel
theorem dX5_keep_6 : decode cX5_keep 6 = .ok (.if_icmp .ge 15, 3) := by decide +kernel
theorem dX5_keep_9 : decode cX5_keep 9 = .ok (.aload_n 0, 1) := by decide +kernel
theorem dX5_keep_10 : decode cX5_keep 10 = .ok (.getfield 15, 3) := by decide +kernel
theorem dX5_keep_13 : decode cX5_keep 13 = .ok (.iload_n 1, 1) := by decide +kernel
theorem dX5_keep_14 : decode cX5_keep 14 = .ok (.bipush 10, 2) := by decide +kernel
theorem dX5_keep_16 : decode cX5_keep 16 = .ok (.iload_n 2, 1) := by decide +kernel
theorem dX5_keep_17 : decode cX5_keep 17 = .ok (.imul, 1) := by decide +kernel
theorem dX5_keep_18 : decode cX5_keep 18 = .ok (.iload_n 3, 1) := by decide +kernel
theorem dX5_keep_19 : decode cX5_keep 19 = .ok (.iadd, 1) := by decide +kernel
theorem dX5_keep_20 : decode cX5_keep 20 = .ok (.iastore, 1) := by decide +kernel
theorem dX5_keep_21 : decode cX5_keep 21 = .ok (.return_, 1) := by decide +kernel
theorem dX6_init_0 : decode cX6_init 0 = .ok (.aload_n 0, 1) := by decide +kernel
theorem dX6_init_1 : decode cX6_init 1 = .ok (.invokespecial 3, 3) := by decide +kernel
theorem dX6_init_4 : decode cX6_init 4 = .ok (.aload_n 0, 1) := by decide +kernel
theorem dX6_init_5 : decode cX6_init 5 = .ok (.bipush 80, 2) := by decide +kernel
theorem dX6_init_7 : decode cX6_init 7 = .ok (.newarray .int, 2) := by decide +kernel
theorem dX6_init_9 : decode cX6_init 9 = .ok (.putfield 9, 3) := by decide +kernel
theorem dX6_init_12 : decode cX6_init 12 = .ok (.aload_n 0, 1) := by decide +kernel
theorem dX6_init_13 : decode cX6_init 13 = .ok (.iconst (-1), 1) := by decide +kernel
theorem dX6_init_14 : decode cX6_init 14 = .ok (.putfield 15, 3) := by decide +kernel
theorem dX6_init_17 : decode cX6_init 17 = .ok (.aload_n 0, 1) := by decide +kernel
theorem dX6_init_18 : decode cX6_init 18 = .ok (.iconst 0, 1) := by decide +kernel
theorem dX6_init_19 : decode cX6_init 19 = .ok (.putfield 19, 3) := by decide +kernel
theorem dX6_init_22 : decode cX6_init 22 = .ok (.return_, 1) := by decide +kernel
theorem dX6_isNothing_0 : decode cX6_isNothing 0 = .ok (.aload_n 0, 1) := by decide +kernel
theorem dX6_isNothing_1 : decode cX6_isNothing 1 = .ok (.getfield 15, 3) := by decide +kernel
theorem dX6_isNothing_4 : decode cX6_isNothing 4 = .ok (.iconst (-1), 1) := by decide +kernel
theorem dX6_isNothing_5 : decode cX6_isNothing 5 = .ok (.if_icmp .ne 7, 3) := by decide +kernel
theorem dX6_isNothing_8 : decode cX6_isNothing 8 = .ok (.iconst 1, 1) := by decide +kernel
theorem dX6_isNothing_9 : decode cX6_isNothing 9 = .ok (.goto 4, 3) := by decide +kernel
theorem dX6_isNothing_12 : decode cX6_isNothing 12 = .ok (.iconst 0, 1) := by decide +kernel
theorem dX6_isNothing_13 : decode cX6_isNothing 13 = .ok (.ireturn, 1) := by decide +kernel
theorem dX6_sort_0 : decode cX6_sort 0 = .ok (.aload_n 0, 1) := by decide +kernel
theorem dX6_sort_1 : decode cX6_sort 1 = .ok (.getfield 19, 3) := by decide +kernel
theorem dX6_sort_4 : decode cX6_sort 4 = .ok (.ireturn, 1) := by decide +kernel
set_option maxRecDepth 20000 in
theorem ggX6_renew_J7_fill_53178 : GoodIn wsX6_renew wsJ7_fill_53178 := goodIn_r _ [7] (by decide +kernel) (by decide +kernel)
set_option maxRecDepth 20000 in
theorem gX6_renew_J7_fill_53178 : GoodIn wsX6_renew (va_wsS RX6 22 yJ7_fill_53178 wsJ7_fill_53178) := goodIn_app (goodIn_of _ (by decide +kernel)) ggX6_renew_J7_fill_53178
theorem dX6_renew_0 : decode cX6_renew 0 = .ok (.iload_n 2, 1) := by decide +kernel
theorem dX6_renew_1 : decode cX6_renew 1 = .ok (.ifCond .lt 9, 3) := by decide +kernel
theorem dX6_renew_4 : decode cX6_renew 4 = .ok (.iload_n 2, 1) := by decide +kernel
theorem dX6_renew_5 : decode cX6_renew 5 = .ok (.bipush 80, 2) := by decide +kernel
theorem dX6_renew_7 : decode cX6_renew 7 = .ok (.if_icmp .le 4, 3) := by decide +kernel
theorem dX6_renew_10 : decode cX6_renew 10 = .ok (.return_, 1) := by decide +kernel
theorem dX6_renew_11 : decode cX6_renew 11 = .ok (.aload_n 0, 1) := by decide +kernel
theorem dX6_renew_12 : decode cX6_renew 12 = .ok (.getfield 9, 3) := by decide +kernel
theorem dX6_renew_15 : decode cX6_renew 15 = .ok (.iconst 0, 1) := by decide +kernel
theorem dX6_renew_16 : decode cX6_renew 16 = .ok (.invokestatic 22, 3) := by decide +kernel
theorem dX6_renew_19 : decode cX6_renew 19 = .ok (.aload_n 0, 1) := by decide +kernel
theorem dX6_renew_20 : decode cX6_renew 20 = .ok (.iload_n 2, 1) := by decide +kernel
theorem dX6_renew_21 : decode cX6_renew 21 = .ok (.putfield 15, 3) := by decide +kernel
theorem dX6_renew_24 : decode cX6_renew 24 = .ok (.aload_n 0, 1) := by decide +kernel
theorem dX6_renew_25 : decode cX6_renew 25 = .ok (.iload_n 1, 1) := by decide +kernel
theorem dX6_renew_26 : decode cX6_renew 26 = .ok (.putfield 19, 3) := by decide +kernel
theorem dX6_renew_29 : decode cX6_renew 29 = .ok (.return_, 1) := by decide +kernel
theorem dX6_drop_0 : decode cX6_drop 0 = .ok (.aload_n 0, 1) := by decide +kernel
theorem dX6_drop_1 : decode cX6_drop 1 = .ok (.iconst (-1), 1) := by decide +kernel
theorem dX6_drop_2 : decode cX6_drop 2 = .ok (.putfield 15, 3) := by decide +kernel
theorem dX6_drop_5 : decode cX6_drop 5 = .ok (.return_, 1) := by decide +kernel
theorem dX6_hasCells_0 : decode cX6_hasCells 0 = .ok (.iload_n 1, 1) := by decide +kernel
theorem dX6_hasCells_1 : decode cX6_hasCells 1 = .ok (.ifCond .lt 25, 3) := by decide +kernel
theorem dX6_hasCells_4 : decode cX6_hasCells 4 = .ok (.iload_n 2, 1) := by decide +kernel
theorem dX6_hasCells_5 : decode cX6_hasCells 5 = .ok (.ifCond .lt 21, 3) := by decide +kernel
theorem dX6_hasCells_8 : decode cX6_hasCells 8 = .ok (.iload_n 1, 1) := by decide +kernel
theorem dX6_hasCells_9 : decode cX6_hasCells 9 = .ok (.i2l, 1) := by decide +kernel
theorem dX6_hasCells_10 : decode cX6_hasCells 10 = .ok (.iload_n 2, 1) := by decide +kernel
theorem dX6_hasCells_11 : decode cX6_hasCells 11 = .ok (.i2l, 1) := by decide +kernel
theorem dX6_hasCells_12 : decode cX6_hasCells 12 = .ok (.ladd, 1) := by decide +kernel
theorem dX6_hasCells_13 : decode cX6_hasCells 13 = .ok (.aload_n 0, 1) := by decide +kernel
theorem dX6_hasCells_14 : decode cX6_hasCells 14 = .ok (.getfield 15, 3) := by decide +kernel
theorem dX6_hasCells_17 : decode cX6_hasCells 17 = .ok (.i2l, 1) := by decide +kernel
theorem dX6_hasCells_18 : decode cX6_hasCells 18 = .ok (.lcmp, 1) := by decide +kernel
theorem dX6_hasCells_19 : decode cX6_hasCells 19 = .ok (.ifCond .gt 7, 3) := by decide +kernel
theorem dX6_hasCells_22 : decode cX6_hasCells 22 = .ok (.iconst 1, 1) := by decide +kernel
theorem dX6_hasCells_23 : decode cX6_hasCells 23 = .ok (.goto 4, 3) := by decide +kernel
theorem dX6_hasCells_26 : decode cX6_hasCells 26 = .ok (.iconst 0, 1) := by decide +kernel
theorem dX6_hasCells_27 : decode cX6_hasCells 27 = .ok (.ireturn, 1) := by decide +kernel
set_option maxRecDepth 20000 in
theorem ggX6_at_X6_hasCells : GoodIn wsX6_at wsX6_hasCells := goodIn_r _ [6, 7, 8, 9, 10] (by decide +kernel) (by decide +kernel)
set_option maxRecDepth 20000 in
theorem gX6_at_X6_hasCells : GoodIn wsX6_at (wsV RX6 28 RX6 yX6_hasCells wsX6_hasCells) := goodIn_app (goodIn_of _ (by decide +kernel)) ggX6_at_X6_hasCells
theorem dX6_at_0 : decode cX6_at 0 = .ok (.aload_n 0, 1) := by decide +kernel
theorem dX6_at_1 : decode cX6_at 1 = .ok (.iload_n 1, 1) := by decide +kernel
theorem dX6_at_2 : decode cX6_at 2 = .ok (.iconst 1, 1) := by decide +kernel
theorem dX6_at_3 : decode cX6_at 3 = .ok (.invokevirtual 28, 3) := by decide +kernel
theorem dX6_at_6 : decode cX6_at 6 = .ok (.ifCond .eq 12, 3) := by decide +kernel
theorem dX6_at_9 : decode cX6_at 9 = .ok (.aload_n 0, 1) := by decide +kernel
theorem dX6_at_10 : decode cX6_at 10 = .ok (.getfield 9, 3) := by decide +kernel
theorem dX6_at_13 : decode cX6_at 13 = .ok (.iload_n 1, 1) := by decide +kernel
theorem dX6_at_14 : decode cX6_at 14 = .ok (.iaload, 1) := by decide +kernel
theorem dX6_at_15 : decode cX6_at 15 = .ok (.goto 4, 3) := by decide +kernel
theorem dX6_at_18 : decode cX6_at 18 = .ok (.iconst 0, 1) := by decide +kernel
theorem dX6_at_19 : decode cX6_at 19 = .ok (.ireturn, 1) := by decide +kernel
set_option maxRecDepth 20000 in
theorem ggX6_write_X6_hasCells : GoodIn wsX6_write wsX6_hasCells := goodIn_r _ [6, 7, 13, 14, 15] (by decide +kernel) (by decide +kernel)
set_option maxRecDepth 20000 in
theorem gX6_write_X6_hasCells : GoodIn wsX6_write (wsV RX6 28 RX6 yX6_hasCells wsX6_hasCells) := goodIn_app (goodIn_of _ (by decide +kernel)) ggX6_write_X6_hasCells
set_option maxRecDepth 20000 in
theorem ggX6_write_X6_cut : GoodIn wsX6_write wsX6_cut := goodIn_r _ [11, 12, 13, 14, 15] (by decide +kernel) (by decide +kernel)
set_option maxRecDepth 20000 in
theorem gX6_write_X6_cut : GoodIn wsX6_write (wsV RX6 32 RX6 yX6_cut wsX6_cut) := goodIn_app (goodIn_of _ (by decide +kernel)) ggX6_write_X6_cut
theorem dX6_write_0 : decode cX6_write 0 = .ok (.aload_n 0, 1) := by decide +kernel
theorem dX6_write_1 : decode cX6_write 1 = .ok (.iload_n 1, 1) := by decide +kernel
theorem dX6_write_2 : decode cX6_write 2 = .ok (.iconst 1, 1) := by decide +kernel
theorem dX6_write_3 : decode cX6_write 3 = .ok (.invokevirtual 28, 3) := by decide +kernel
theorem dX6_write_6 : decode cX6_write 6 = .ok (.ifCond .eq 14, 3) := by decide +kernel
theorem dX6_write_9 : decode cX6_write 9 = .ok (.aload_n 0, 1) := by decide +kernel
theorem dX6_write_10 : decode cX6_write 10 = .ok (.getfield 9, 3) := by decide +kernel
theorem dX6_write_13 : decode cX6_write 13 = .ok (.iload_n 1, 1) := by decide +kernel
theorem dX6_write_14 : decode cX6_write 14 = .ok (.aload_n 0, 1) := by decide +kernel
theorem dX6_write_15 : decode cX6_write 15 = .ok (.iload_n 2, 1) := by decide +kernel
theorem dX6_write_16 : decode cX6_write 16 = .ok (.invokevirtual 32, 3) := by decide +kernel
theorem dX6_write_19 : decode cX6_write 19 = .ok (.iastore, 1) := by decide +kernel
theorem dX6_write_20 : decode cX6_write 20 = .ok (.return_, 1) := by decide +kernel
set_option maxRecDepth 20000 in
theorem ggX6_giveTo_X6_hasCells : GoodIn wsX6_giveTo wsX6_hasCells := goodIn_r _ [10, 11, 12, 13, 14] (by decide +kernel) (by decide +kernel)
set_option maxRecDepth 20000 in
theorem gX6_giveTo_X6_hasCells : GoodIn wsX6_giveTo (wsV RX6 28 RX6 yX6_hasCells wsX6_hasCells) := goodIn_app (goodIn_of _ (by decide +kernel)) ggX6_giveTo_X6_hasCells
theorem dX6_giveTo_0 : decode cX6_giveTo 0 = .ok (.aload_n 0, 1) := by decide +kernel
theorem dX6_giveTo_1 : decode cX6_giveTo 1 = .ok (.iload_n 1, 1) := by decide +kernel
theorem dX6_giveTo_2 : decode cX6_giveTo 2 = .ok (.iload 4, 2) := by decide +kernel
theorem dX6_giveTo_4 : decode cX6_giveTo 4 = .ok (.invokevirtual 28, 3) := by decide +kernel
theorem dX6_giveTo_7 : decode cX6_giveTo 7 = .ok (.ifCond .eq 28, 3) := by decide +kernel
theorem dX6_giveTo_10 : decode cX6_giveTo 10 = .ok (.aload_n 2, 1) := by decide +kernel
theorem dX6_giveTo_11 : decode cX6_giveTo 11 = .ok (.iload_n 3, 1) := by decide +kernel
theorem dX6_giveTo_12 : decode cX6_giveTo 12 = .ok (.iload 4, 2) := by decide +kernel
theorem dX6_giveTo_14 : decode cX6_giveTo 14 = .ok (.invokevirtual 28, 3) := by decide +kernel
theorem dX6_giveTo_17 : decode cX6_giveTo 17 = .ok (.ifCond .eq 18, 3) := by decide +kernel
theorem dX6_giveTo_20 : decode cX6_giveTo 20 = .ok (.aload_n 0, 1) := by decide +kernel
theorem dX6_giveTo_21 : decode cX6_giveTo 21 = .ok (.getfield 9, 3) := by decide +kernel
theorem dX6_giveTo_24 : decode cX6_giveTo 24 = .ok (.iload_n 1, 1) := by decide +kernel
theorem dX6_giveTo_25 : decode cX6_giveTo 25 = .ok (.aload_n 2, 1) := by decide +kernel
theorem dX6_giveTo_26 : decode cX6_giveTo 26 = .ok (.getfield 9, 3) := by decide +kernel
theorem dX6_giveTo_29 : decode cX6_giveTo 29 = .ok (.iload_n 3, 1) := by decide +kernel
theorem dX6_giveTo_30 : decode cX6_giveTo 30 = .ok (.iload 4, 2) := by decide +kernel
theorem dX6_giveTo_32 : decode cX6_giveTo 32 = .ok (.invokestatic 36, 3) := by decide +kernel
theorem dX6_giveTo_35 : decode cX6_giveTo 35 = .ok (.return_, 1) := by decide +kernel
theorem dX6_cut_0 : decode cX6_cut 0 = .ok (.aload_n 0, 1) := by decide +kernel
theorem dX6_cut_1 : decode cX6_cut 1 = .ok (.getfield 19, 3) := by decide +kernel
theorem dX6_cut_4 : decode cX6_cut 4 = .ok (.ifCond .ne 6, 3) := by decide +kernel
theorem dX6_cut_7 : decode cX6_cut 7 = .ok (.iload_n 1, 1) := by decide +kernel
theorem dX6_cut_8 : decode cX6_cut 8 = .ok (.i2b, 1) := by decide +kernel
theorem dX6_cut_9 : decode cX6_cut 9 = .ok (.ireturn, 1) := by decide +kernel
theorem dX6_cut_10 : decode cX6_cut 10 = .ok (.aload_n 0, 1) := by decide +kernel
theorem dX6_cut_11 : decode cX6_cut 11 = .ok (.getfield 19, 3) := by decide +kernel
theorem dX6_cut_14 : decode cX6_cut 14 = .ok (.iconst 1, 1) := by decide +kernel
theorem dX6_cut_15 : decode cX6_cut 15 = .ok (.if_icmp .ne 8, 3) := by decide +kernel
theorem dX6_cut_18 : decode cX6_cut 18 = .ok (.iload_n 1, 1) := by decide +kernel
theorem dX6_cut_19 : decode cX6_cut 19 = .ok (.i2s, 1) := by decide +kernel
theorem dX6_cut_20 : decode cX6_cut 20 = .ok (.goto 4, 3) := by decide +kernel
theorem dX6_cut_23 : decode cX6_cut 23 = .ok (.iload_n 1, 1) := by decide +kernel
theorem dX6_cut_24 : decode cX6_cut 24 = .ok (.ireturn, 1) := by decide +kernel
set_option maxRecDepth 20000 in
theorem ggX7_init_X4_init : GoodIn wsX7_init wsX4_init := goodIn_r _ [10, 11, 2, 3, 12, 13, 14] (by decide +kernel) (by decide +kernel)
set_option maxRecDepth 20000 in
theorem gX7_init_X4_init_n11 : GoodIn wsX7_init (wsX4_init) := ggX7_init_X4_init
theorem dX7_init_0 : decode cX7_init 0 = .ok (.aload_n 0, 1) := by decide +kernel
theorem dX7_init_1 : decode cX7_init 1 = .ok (.invokespecial 3, 3) := by decide +kernel
theorem dX7_init_4 : decode cX7_init 4 = .ok (.aload_n 0, 1) := by decide +kernel
theorem dX7_init_5 : decode cX7_init 5 = .ok (.new 9, 3) := by decide +kernel
theorem dX7_init_8 : decode cX7_init 8 = .ok (.dup, 1) := by decide +kernel
theorem dX7_init_9 : decode cX7_init 9 = .ok (.invokespecial 11, 3) := by decide +kernel
theorem dX7_init_12 : decode cX7_init 12 = .ok (.putfield 12, 3) := by decide +kernel
theorem dX7_init_15 : decode cX7_init 15 = .ok (.aload_n 0, 1) := by decide +kernel
theorem dX7_init_16 : decode cX7_init 16 = .ok (.new 9, 3) := by decide +kernel
theorem dX7_init_19 : decode cX7_init 19 = .ok (.dup, 1) := by decide +kernel
theorem dX7_init_20 : decode cX7_init 20 = .ok (.invokespecial 11, 3) := by decide +kernel
theorem dX7_init_23 : decode cX7_init 23 = .ok (.putfield 18, 3) := by decide +kernel
theorem dX7_init_26 : decode cX7_init 26 = .ok (.return_, 1) := by decide +kernel
set_option maxRecDepth 20000 in
theorem ggX7_make_X2_size : GoodIn wsX7_make wsX2_size := goodIn_r _ [5, 6, 45, 46] (by decide +kernel) (by decide +kernel)
set_option maxRecDepth 20000 in
theorem gX7_make_X2_size : GoodIn wsX7_make (wsV RX7 21 RX2 yX2_size wsX2_size) := goodIn_app (goodIn_of _ (by decide +kernel)) ggX7_make_X2_size
set_option maxRecDepth 20000 in
theorem ggX7_make_X7_makeAt : GoodIn wsX7_make wsX7_makeAt := goodIn_r _ [11, 12, 13, 14, 15, 16, 17, 18, 19, 20, 4, 21, 6, 1, 2, 3, 5, 22, 23, 24, 10, 25, 26, 27, 28, 29, 30, 31, 32, 33, 34, 35, 36, 37, 38, 39, 40, 41, 42, 43, 44, 47, 48, 45, 46, 49] (by decide +kernel) (by decide +kernel)
set_option maxRecDepth 20000 in
theorem gX7_make_X7_makeAt : GoodIn wsX7_make (wsV RX7 27 RX7 yX7_makeAt wsX7_makeAt) := goodIn_app (goodIn_of _ (by decide +kernel)) ggX7_make_X7_makeAt
theorem dX7_make_0 : decode cX7_make 0 = .ok (.aload_n 1, 1) := by decide +kernel
theorem dX7_make_1 : decode cX7_make 1 = .ok (.invokevirtual 21, 3) := by decide +kernel
theorem dX7_make_4 : decode cX7_make 4 = .ok (.istore_n 3, 1) := by decide +kernel
theorem dX7_make_5 : decode cX7_make 5 = .ok (.iload_n 3, 1) := by decide +kernel
theorem dX7_make_6 : decode cX7_make 6 = .ok (.ifCond .lt 35, 3) := by decide +kernel
theorem dX7_make_9 : decode cX7_make 9 = .ok (.aload_n 2, 1) := by decide +kernel
theorem dX7_make_10 : decode cX7_make 10 = .ok (.invokevirtual 21, 3) := by decide +kernel
theorem dX7_make_13 : decode cX7_make 13 = .ok (.istore 4, 2) := by decide +kernel
theorem dX7_make_15 : decode cX7_make 15 = .ok (.iload 4, 2) := by decide +kernel
theorem dX7_make_17 : decode cX7_make 17 = .ok (.ifCond .lt 18, 3) := by decide +kernel
theorem dX7_make_20 : decode cX7_make 20 = .ok (.aload_n 0, 1) := by decide +kernel
theorem dX7_make_21 : decode cX7_make 21 = .ok (.aload_n 1, 1) := by decide +kernel
theorem dX7_make_22 : decode cX7_make 22 = .ok (.iload_n 3, 1) := by decide +kernel
theorem dX7_make_23 : decode cX7_make 23 = .ok (.aload_n 2, 1) := by decide +kernel
theorem dX7_make_24 : decode cX7_make 24 = .ok (.iload 4, 2) := by decide +kernel
theorem dX7_make_26 : decode cX7_make 26 = .ok (.invokevirtual 27, 3) := by decide +kernel
theorem dX7_make_29 : decode cX7_make 29 = .ok (.iinc 4 (-1), 3) := by decide +kernel
theorem dX7_make_32 : decode cX7_make 32 = .ok (.goto (-17), 3) := by decide +kernel
theorem dX7_make_35 : decode cX7_make 35 = .ok (.iinc 3 (-1), 3) := by decide +kernel
theorem dX7_make_38 : decode cX7_make 38 = .ok (.goto (-33), 3) := by decide +kernel
theorem dX7_make_41 : decode cX7_make 41 = .ok (.return_, 1) := by decide +kernel
set_option maxRecDepth 20000 in
theorem ggX7_length_X4_at : GoodIn wsX7_length wsX4_at := goodIn_r _ [6, 7, 8, 9, 5, 10, 13] (by decide +kernel) (by decide +kernel)
set_option maxRecDepth 20000 in
theorem gX7_length_X4_at : GoodIn wsX7_length (wsV RX7 31 RX4 yX4_at wsX4_at) := goodIn_app (goodIn_of _ (by decide +kernel)) ggX7_length_X4_at
theorem dX7_length_0 : decode cX7_length 0 = .ok (.aload_n 0, 1) := by decide +kernel
theorem dX7_length_1 : decode cX7_length 1 = .ok (.getfield 12, 3) := by decide +kernel
theorem dX7_length_4 : decode cX7_length 4 = .ok (.iconst 0, 1) := by decide +kernel
theorem dX7_length_5 : decode cX7_length 5 = .ok (.iconst 0, 1) := by decide +kernel
theorem dX7_length_6 : decode cX7_length 6 = .ok (.invokevirtual 31, 3) := by decide +kernel
theorem dX7_length_9 : decode cX7_length 9 = .ok (.l2i, 1) := by decide +kernel
theorem dX7_length_10 : decode cX7_length 10 = .ok (.ireturn, 1) := by decide +kernel
set_option maxRecDepth 20000 in
theorem ggX7_howMany_X4_at : GoodIn wsX7_howMany wsX4_at := goodIn_r _ [6, 7, 8, 9, 5, 10, 13] (by decide +kernel) (by decide +kernel)
set_option maxRecDepth 20000 in
theorem gX7_howMany_X4_at : GoodIn wsX7_howMany (wsV RX7 31 RX4 yX4_at wsX4_at) := goodIn_app (goodIn_of _ (by decide +kernel)) ggX7_howMany_X4_at
theorem dX7_howMany_0 : decode cX7_howMany 0 = .ok (.aload_n 0, 1) := by decide +kernel
theorem dX7_howMany_1 : decode cX7_howMany 1 = .ok (.getfield 18, 3) := by decide +kernel
theorem dX7_howMany_4 : decode cX7_howMany 4 = .ok (.iconst 0, 1) := by decide +kernel
theorem dX7_howMany_5 : decode cX7_howMany 5 = .ok (.iconst 0, 1) := by decide +kernel
theorem dX7_howMany_6 : decode cX7_howMany 6 = .ok (.invokevirtual 31, 3) := by decide +kernel
theorem dX7_howMany_9 : decode cX7_howMany 9 = .ok (.lreturn, 1) := by decide +kernel
set_option maxRecDepth 20000 in
theorem ggX7_wordOfFirst_X7_firstWord : GoodIn wsX7_wordOfFirst wsX7_firstWord := goodIn_r _ [5, 6, 7, 8, 9, 10, 11, 12, 13, 14, 15, 16, 17, 18, 19, 20, 21, 22, 23, 24, 25, 26, 27, 28, 29, 30, 31, 32, 33, 34, 35, 36] (by decide +kernel) (by decide +kernel)
set_option maxRecDepth 20000 in
theorem gX7_wordOfFirst_X7_firstWord : GoodIn wsX7_wordOfFirst (wsV RX7 35 RX7 yX7_firstWord wsX7_firstWord) := goodIn_app (goodIn_of _ (by decide +kernel)) ggX7_wordOfFirst_X7_firstWord
set_option maxRecDepth 20000 in
theorem ggX7_wordOfFirst_X2_at : GoodIn wsX7_wordOfFirst wsX2_at := goodIn_r _ [20, 21, 22, 12, 13, 14, 15, 16, 34, 35] (by decide +kernel) (by decide +kernel)
set_option maxRecDepth 20000 in
theorem gX7_wordOfFirst_X2_at : GoodIn wsX7_wordOfFirst (wsV RX7 39 RX2 yX2_at wsX2_at) := goodIn_app (goodIn_of _ (by decide +kernel)) ggX7_wordOfFirst_X2_at
theorem dX7_wordOfFirst_0 : decode cX7_wordOfFirst 0 = .ok (.iconst 0, 1) := by decide +kernel
theorem dX7_wordOfFirst_1 : decode cX7_wordOfFirst 1 = .ok (.istore 4, 2) := by decide +kernel
theorem dX7_wordOfFirst_3 : decode cX7_wordOfFirst 3 = .ok (.iconst 0, 1) := by decide +kernel
theorem dX7_wordOfFirst_4 : decode cX7_wordOfFirst 4 = .ok (.istore 5, 2) := by decide +kernel
theorem dX7_wordOfFirst_6 : decode cX7_wordOfFirst 6 = .ok (.bipush (-9), 2) := by decide +kernel
theorem dX7_wordOfFirst_8 : decode cX7_wordOfFirst 8 = .ok (.istore 6, 2) := by decide +kernel
theorem dX7_wordOfFirst_10 : decode cX7_wordOfFirst 10 = .ok (.iconst 0, 1) := by decide +kernel
theorem dX7_wordOfFirst_11 : decode cX7_wordOfFirst 11 = .ok (.istore 7, 2) := by decide +kernel
theorem dX7_wordOfFirst_13 : decode cX7_wordOfFirst 13 = .ok (.iload 7, 2) := by decide +kernel
theorem dX7_wordOfFirst_15 : decode cX7_wordOfFirst 15 = .ok (.iload_n 3, 1) := by decide +kernel
theorem dX7_wordOfFirst_16 : decode cX7_wordOfFirst 16 = .ok (.if_icmp .gt 70, 3) := by decide +kernel
theorem dX7_wordOfFirst_19 : decode cX7_wordOfFirst 19 = .ok (.iload 7, 2) := by decide +kernel
theorem dX7_wordOfFirst_21 : decode cX7_wordOfFirst 21 = .ok (.bipush 24, 2) := by decide +kernel
theorem dX7_wordOfFirst_23 : decode cX7_wordOfFirst 23 = .ok (.if_icmp .ge 63, 3) := by decide +kernel
theorem dX7_wordOfFirst_26 : decode cX7_wordOfFirst 26 = .ok (.aload_n 0, 1) := by decide +kernel
theorem dX7_wordOfFirst_27 : decode cX7_wordOfFirst 27 = .ok (.aload_n 1, 1) := by decide +kernel
theorem dX7_wordOfFirst_28 : decode cX7_wordOfFirst 28 = .ok (.iload 4, 2) := by decide +kernel
theorem dX7_wordOfFirst_30 : decode cX7_wordOfFirst 30 = .ok (.aload_n 2, 1) := by decide +kernel
theorem dX7_wordOfFirst_31 : decode cX7_wordOfFirst 31 = .ok (.iload 5, 2) := by decide +kernel
theorem dX7_wordOfFirst_33 : decode cX7_wordOfFirst 33 = .ok (.invokevirtual 35, 3) := by decide +kernel
theorem dX7_wordOfFirst_36 : decode cX7_wordOfFirst 36 = .ok (.istore 6, 2) := by decide +kernel
theorem dX7_wordOfFirst_38 : decode cX7_wordOfFirst 38 = .ok (.iload 4, 2) := by decide +kernel
theorem dX7_wordOfFirst_40 : decode cX7_wordOfFirst 40 = .ok (.aload_n 1, 1) := by decide +kernel
theorem dX7_wordOfFirst_41 : decode cX7_wordOfFirst 41 = .ok (.iload 4, 2) := by decide +kernel
theorem dX7_wordOfFirst_43 : decode cX7_wordOfFirst 43 = .ok (.invokevirtual 39, 3) := by decide +kernel
theorem dX7_wordOfFirst_46 : decode cX7_wordOfFirst 46 = .ok (.iload 6, 2) := by decide +kernel
theorem dX7_wordOfFirst_48 : decode cX7_wordOfFirst 48 = .ok (.if_icmp .ne 7, 3) := by decide +kernel
theorem dX7_wordOfFirst_51 : decode cX7_wordOfFirst 51 = .ok (.iconst 1, 1) := by decide +kernel
theorem dX7_wordOfFirst_52 : decode cX7_wordOfFirst 52 = .ok (.goto 4, 3) := by decide +kernel
theorem dX7_wordOfFirst_55 : decode cX7_wordOfFirst 55 = .ok (.iconst 0, 1) := by decide +kernel
theorem dX7_wordOfFirst_56 : decode cX7_wordOfFirst 56 = .ok (.iadd, 1) := by decide +kernel
theorem dX7_wordOfFirst_57 : decode cX7_wordOfFirst 57 = .ok (.istore 4, 2) := by decide +kernel
theorem dX7_wordOfFirst_59 : decode cX7_wordOfFirst 59 = .ok (.iload 5, 2) := by decide +kernel
theorem dX7_wordOfFirst_61 : decode cX7_wordOfFirst 61 = .ok (.aload_n 2, 1) := by decide +kernel
theorem dX7_wordOfFirst_62 : decode cX7_wordOfFirst 62 = .ok (.iload 5, 2) := by decide +kernel
theorem dX7_wordOfFirst_64 : decode cX7_wordOfFirst 64 = .ok (.invokevirtual 39, 3) := by decide +kernel
theorem dX7_wordOfFirst_67 : decode cX7_wordOfFirst 67 = .ok (.iload 6, 2) := by decide +kernel
theorem dX7_wordOfFirst_69 : decode cX7_wordOfFirst 69 = .ok (.if_icmp .ne 7, 3) := by decide +kernel
theorem dX7_wordOfFirst_72 : decode cX7_wordOfFirst 72 = .ok (.iconst 1, 1) := by decide +kernel
theorem dX7_wordOfFirst_73 : decode cX7_wordOfFirst 73 = .ok (.goto 4, 3) := by decide +kernel
theorem dX7_wordOfFirst_76 : decode cX7_wordOfFirst 76 = .ok (.iconst 0, 1) := by decide +kernel
theorem dX7_wordOfFirst_77 : decode cX7_wordOfFirst 77 = .ok (.iadd, 1) := by decide +kernel
theorem dX7_wordOfFirst_78 : decode cX7_wordOfFirst 78 = .ok (.istore 5, 2) := by decide +kernel
theorem dX7_wordOfFirst_80 : decode cX7_wordOfFirst 80 = .ok (.iinc 7 1, 3) := by decide +kernel
theorem dX7_wordOfFirst_83 : decode cX7_wordOfFirst 83 = .ok (.goto (-70), 3) := by decide +kernel
theorem dX7_wordOfFirst_86 : decode cX7_wordOfFirst 86 = .ok (.iload 6, 2) := by decide +kernel
theorem dX7_wordOfFirst_88 : decode cX7_wordOfFirst 88 = .ok (.ireturn, 1) := by decide +kernel
set_option maxRecDepth 20000 in
theorem ggX7_makeAt_X2_has : GoodIn wsX7_makeAt wsX2_has := goodIn_r _ [11, 12, 43, 44] (by decide +kernel) (by decide +kernel)
set_option maxRecDepth 20000 in
theorem gX7_makeAt_X2_has : GoodIn wsX7_makeAt (wsV RX7 42 RX2 yX2_has wsX2_has) := goodIn_app (goodIn_of _ (by decide +kernel)) ggX7_makeAt_X2_has
set_option maxRecDepth 20000 in
theorem ggX7_makeAt_X2_size : GoodIn wsX7_makeAt wsX2_size := goodIn_r _ [16, 12, 43, 44] (by decide +kernel) (by decide +kernel)
set_option maxRecDepth 20000 in
theorem gX7_makeAt_X2_size : GoodIn wsX7_makeAt (wsV RX7 21 RX2 yX2_size wsX2_size) := goodIn_app (goodIn_of _ (by decide +kernel)) ggX7_makeAt_X2_size
set_option maxRecDepth 20000 in
theorem ggX7_makeAt_X7_keep : GoodIn wsX7_makeAt wsX7_keep := goodIn_r _ [21, 1, 2, 22, 23, 24, 25, 26, 27, 28, 29, 30, 41, 42, 45] (by decide +kernel) (by decide +kernel)
set_option maxRecDepth 20000 in
theorem gX7_makeAt_X7_keep : GoodIn wsX7_makeAt (wsV RX7 46 RX7 yX7_keep wsX7_keep) := goodIn_app (goodIn_of _ (by decide +kernel)) ggX7_makeAt_X7_keep
set_option maxRecDepth 20000 in
theorem ggX7_makeAt_X2_at : GoodIn wsX7_makeAt wsX2_at := goodIn_r _ [34, 35, 36, 8, 9, 10, 11, 12, 43, 44] (by decide +kernel) (by decide +kernel)
set_option maxRecDepth 20000 in
theorem gX7_makeAt_X2_at : GoodIn wsX7_makeAt (wsV RX7 39 RX2 yX2_at wsX2_at) := goodIn_app (goodIn_of _ (by decide +kernel)) ggX7_makeAt_X2_at
set_option maxRecDepth 20000 in
theorem ggX7_makeAt_X4_at : GoodIn wsX7_makeAt wsX4_at := goodIn_r _ [40, 27, 28, 29, 25, 30, 45] (by decide +kernel) (by decide +kernel)
set_option maxRecDepth 20000 in
theorem gX7_makeAt_X4_at : GoodIn wsX7_makeAt (wsV RX7 31 RX4 yX4_at wsX4_at) := goodIn_app (goodIn_of _ (by decide +kernel)) ggX7_makeAt_X4_at
theorem dX7_makeAt_0 : decode cX7_makeAt 0 = .ok (.aload_n 1, 1) := by decide +kernel
theorem dX7_makeAt_1 : decode cX7_makeAt 1 = .ok (.iload_n 2, 1) := by decide +kernel
theorem dX7_makeAt_2 : decode cX7_makeAt 2 = .ok (.invokevirtual 42, 3) := by decide +kernel
theorem dX7_makeAt_5 : decode cX7_makeAt 5 = .ok (.ifCond .eq 12, 3) := by decide +kernel
theorem dX7_makeAt_8 : decode cX7_makeAt 8 = .ok (.aload_n 3, 1) := by decide +kernel
theorem dX7_makeAt_9 : decode cX7_makeAt 9 = .ok (.iload 4, 2) := by decide +kernel
theorem dX7_makeAt_11 : decode cX7_makeAt 11 = .ok (.invokevirtual 42, 3) := by decide +kernel
theorem dX7_makeAt_14 : decode cX7_makeAt 14 = .ok (.ifCond .ne 29, 3) := by decide +kernel
theorem dX7_makeAt_17 : decode cX7_makeAt 17 = .ok (.aload_n 0, 1) := by decide +kernel
theorem dX7_makeAt_18 : decode cX7_makeAt 18 = .ok (.iload_n 2, 1) := by decide +kernel
theorem dX7_makeAt_19 : decode cX7_makeAt 19 = .ok (.iload 4, 2) := by decide +kernel
theorem dX7_makeAt_21 : decode cX7_makeAt 21 = .ok (.aload_n 1, 1) := by decide +kernel
theorem dX7_makeAt_22 : decode cX7_makeAt 22 = .ok (.invokevirtual 21, 3) := by decide +kernel
theorem dX7_makeAt_25 : decode cX7_makeAt 25 = .ok (.iload_n 2, 1) := by decide +kernel
theorem dX7_makeAt_26 : decode cX7_makeAt 26 = .ok (.isub, 1) := by decide +kernel
theorem dX7_makeAt_27 : decode cX7_makeAt 27 = .ok (.aload_n 3, 1) := by decide +kernel
theorem dX7_makeAt_28 : decode cX7_makeAt 28 = .ok (.invokevirtual 21, 3) := by decide +kernel
theorem dX7_makeAt_31 : decode cX7_makeAt 31 = .ok (.iadd, 1) := by decide +kernel
theorem dX7_makeAt_32 : decode cX7_makeAt 32 = .ok (.iload 4, 2) := by decide +kernel
theorem dX7_makeAt_34 : decode cX7_makeAt 34 = .ok (.isub, 1) := by decide +kernel
theorem dX7_makeAt_35 : decode cX7_makeAt 35 = .ok (.i2l, 1) := by decide +kernel
theorem dX7_makeAt_36 : decode cX7_makeAt 36 = .ok (.lconst 1, 1) := by decide +kernel
theorem dX7_makeAt_37 : decode cX7_makeAt 37 = .ok (.invokevirtual 46, 3) := by decide +kernel
theorem dX7_makeAt_40 : decode cX7_makeAt 40 = .ok (.goto 154, 3) := by decide +kernel
theorem dX7_makeAt_43 : decode cX7_makeAt 43 = .ok (.aload_n 1, 1) := by decide +kernel
theorem dX7_makeAt_44 : decode cX7_makeAt 44 = .ok (.iload_n 2, 1) := by decide +kernel
theorem dX7_makeAt_45 : decode cX7_makeAt 45 = .ok (.invokevirtual 39, 3) := by decide +kernel
theorem dX7_makeAt_48 : decode cX7_makeAt 48 = .ok (.aload_n 3, 1) := by decide +kernel
theorem dX7_makeAt_49 : decode cX7_makeAt 49 = .ok (.iload 4, 2) := by decide +kernel
theorem dX7_makeAt_51 : decode cX7_makeAt 51 = .ok (.invokevirtual 39, 3) := by decide +kernel
theorem dX7_makeAt_54 : decode cX7_makeAt 54 = .ok (.if_icmp .ne 43, 3) := by decide +kernel
theorem dX7_makeAt_57 : decode cX7_makeAt 57 = .ok (.aload_n 0, 1) := by decide +kernel
theorem dX7_makeAt_58 : decode cX7_makeAt 58 = .ok (.iload_n 2, 1) := by decide +kernel
theorem dX7_makeAt_59 : decode cX7_makeAt 59 = .ok (.iload 4, 2) := by decide +kernel
theorem dX7_makeAt_61 : decode cX7_makeAt 61 = .ok (.lconst 1, 1) := by decide +kernel
theorem dX7_makeAt_62 : decode cX7_makeAt 62 = .ok (.aload_n 0, 1) := by decide +kernel
theorem dX7_makeAt_63 : decode cX7_makeAt 63 = .ok (.getfield 12, 3) := by decide +kernel
theorem dX7_makeAt_66 : decode cX7_makeAt 66 = .ok (.iload_n 2, 1) := by decide +kernel
theorem dX7_makeAt_67 : decode cX7_makeAt 67 = .ok (.iconst 1, 1) := by decide +kernel
theorem dX7_makeAt_68 : decode cX7_makeAt 68 = .ok (.iadd, 1) := by decide +kernel
theorem dX7_makeAt_69 : decode cX7_makeAt 69 = .ok (.iload 4, 2) := by decide +kernel
theorem dX7_makeAt_71 : decode cX7_makeAt 71 = .ok (.iconst 1, 1) := by decide +kernel
theorem dX7_makeAt_72 : decode cX7_makeAt 72 = .ok (.iadd, 1) := by decide +kernel
theorem dX7_makeAt_73 : decode cX7_makeAt 73 = .ok (.invokevirtual 31, 3) := by decide +kernel
theorem dX7_makeAt_76 : decode cX7_makeAt 76 = .ok (.ladd, 1) := by decide +kernel
theorem dX7_makeAt_77 : decode cX7_makeAt 77 = .ok (.aload_n 0, 1) := by decide +kernel
theorem dX7_makeAt_78 : decode cX7_makeAt 78 = .ok (.getfield 18, 3) := by decide +kernel
theorem dX7_makeAt_81 : decode cX7_makeAt 81 = .ok (.iload_n 2, 1) := by decide +kernel
theorem dX7_makeAt_82 : decode cX7_makeAt 82 = .ok (.iconst 1, 1) := by decide +kernel
theorem dX7_makeAt_83 : decode cX7_makeAt 83 = .ok (.iadd, 1) := by decide +kernel
theorem dX7_makeAt_84 : decode cX7_makeAt 84 = .ok (.iload 4, 2) := by decide +kernel
theorem dX7_makeAt_86 : decode cX7_makeAt 86 = .ok (.iconst 1, 1) := by decide +kernel
theorem dX7_makeAt_87 : decode cX7_makeAt 87 = .ok (.iadd, 1) := by decide +kernel
theorem dX7_makeAt_88 : decode cX7_makeAt 88 = .ok (.invokevirtual 31, 3) := by decide +kernel
theorem dX7_makeAt_91 : decode cX7_makeAt 91 = .ok (.invokevirtual 46, 3) := by decide +kernel
theorem dX7_makeAt_94 : decode cX7_makeAt 94 = .ok (.goto 100, 3) := by decide +kernel
theorem dX7_makeAt_97 : decode cX7_makeAt 97 = .ok (.aload_n 0, 1) := by decide +kernel
theorem dX7_makeAt_98 : decode cX7_makeAt 98 = .ok (.getfield 12, 3) := by decide +kernel
theorem dX7_makeAt_101 : decode cX7_makeAt 101 = .ok (.iload_n 2, 1) := by decide +kernel
theorem dX7_makeAt_102 : decode cX7_makeAt 102 = .ok (.iconst 1, 1) := by decide +kernel
theorem dX7_makeAt_103 : decode cX7_makeAt 103 = .ok (.iadd, 1) := by decide +kernel
theorem dX7_makeAt_104 : decode cX7_makeAt 104 = .ok (.iload 4, 2) := by decide +kernel
theorem dX7_makeAt_106 : decode cX7_makeAt 106 = .ok (.invokevirtual 31, 3) := by decide +kernel
theorem dX7_makeAt_109 : decode cX7_makeAt 109 = .ok (.lstore 5, 2) := by decide +kernel
theorem dX7_makeAt_111 : decode cX7_makeAt 111 = .ok (.aload_n 0, 1) := by decide +kernel
theorem dX7_makeAt_112 : decode cX7_makeAt 112 = .ok (.getfield 12, 3) := by decide +kernel
theorem dX7_makeAt_115 : decode cX7_makeAt 115 = .ok (.iload_n 2, 1) := by decide +kernel
theorem dX7_makeAt_116 : decode cX7_makeAt 116 = .ok (.iload 4, 2) := by decide +kernel
theorem dX7_makeAt_118 : decode cX7_makeAt 118 = .ok (.iconst 1, 1) := by decide +kernel
theorem dX7_makeAt_119 : decode cX7_makeAt 119 = .ok (.iadd, 1) := by decide +kernel
theorem dX7_makeAt_120 : decode cX7_makeAt 120 = .ok (.invokevirtual 31, 3) := by decide +kernel
theorem dX7_makeAt_123 : decode cX7_makeAt 123 = .ok (.lstore 7, 2) := by decide +kernel
theorem dX7_makeAt_125 : decode cX7_makeAt 125 = .ok (.lload 5, 2) := by decide +kernel
theorem dX7_makeAt_127 : decode cX7_makeAt 127 = .ok (.lload 7, 2) := by decide +kernel
theorem dX7_makeAt_129 : decode cX7_makeAt 129 = .ok (.lcmp, 1) := by decide +kernel
theorem dX7_makeAt_130 : decode cX7_makeAt 130 = .ok (.ifCond .gt 18, 3) := by decide +kernel
theorem dX7_makeAt_133 : decode cX7_makeAt 133 = .ok (.aload_n 0, 1) := by decide +kernel
theorem dX7_makeAt_134 : decode cX7_makeAt 134 = .ok (.getfield 18, 3) := by decide +kernel
theorem dX7_makeAt_137 : decode cX7_makeAt 137 = .ok (.iload_n 2, 1) := by decide +kernel
theorem dX7_makeAt_138 : decode cX7_makeAt 138 = .ok (.iconst 1, 1) := by decide +kernel
theorem dX7_makeAt_139 : decode cX7_makeAt 139 = .ok (.iadd, 1) := by decide +kernel
theorem dX7_makeAt_140 : decode cX7_makeAt 140 = .ok (.iload 4, 2) := by decide +kernel
theorem dX7_makeAt_142 : decode cX7_makeAt 142 = .ok (.invokevirtual 31, 3) := by decide +kernel
theorem dX7_makeAt_145 : decode cX7_makeAt 145 = .ok (.goto 4, 3) := by decide +kernel
theorem dX7_makeAt_148 : decode cX7_makeAt 148 = .ok (.lconst 0, 1) := by decide +kernel
theorem dX7_makeAt_149 : decode cX7_makeAt 149 = .ok (.lload 7, 2) := by decide +kernel
theorem dX7_makeAt_151 : decode cX7_makeAt 151 = .ok (.lload 5, 2) := by decide +kernel
theorem dX7_makeAt_153 : decode cX7_makeAt 153 = .ok (.lcmp, 1) := by decide +kernel
theorem dX7_makeAt_154 : decode cX7_makeAt 154 = .ok (.ifCond .gt 18, 3) := by decide +kernel
theorem dX7_makeAt_157 : decode cX7_makeAt 157 = .ok (.aload_n 0, 1) := by decide +kernel
theorem dX7_makeAt_158 : decode cX7_makeAt 158 = .ok (.getfield 18, 3) := by decide +kernel
theorem dX7_makeAt_161 : decode cX7_makeAt 161 = .ok (.iload_n 2, 1) := by decide +kernel
theorem dX7_makeAt_162 : decode cX7_makeAt 162 = .ok (.iload 4, 2) := by decide +kernel
theorem dX7_makeAt_164 : decode cX7_makeAt 164 = .ok (.iconst 1, 1) := by decide +kernel
theorem dX7_makeAt_165 : decode cX7_makeAt 165 = .ok (.iadd, 1) := by decide +kernel
theorem dX7_makeAt_166 : decode cX7_makeAt 166 = .ok (.invokevirtual 31, 3) := by decide +kernel
theorem dX7_makeAt_169 : decode cX7_makeAt 169 = .ok (.goto 4, 3) := by decide +kernel
theorem dX7_makeAt_172 : decode cX7_makeAt 172 = .ok (.lconst 0, 1) := by decide +kernel
theorem dX7_makeAt_173 : decode cX7_makeAt 173 = .ok (.ladd, 1) := by decide +kernel
theorem dX7_makeAt_174 : decode cX7_makeAt 174 = .ok (.lstore 9, 2) := by decide +kernel
theorem dX7_makeAt_176 : decode cX7_makeAt 176 = .ok (.aload_n 0, 1) := by decide +kernel
theorem dX7_makeAt_177 : decode cX7_makeAt 177 = .ok (.iload_n 2, 1) := by decide +kernel
theorem dX7_makeAt_178 : decode cX7_makeAt 178 = .ok (.iload 4, 2) := by decide +kernel
theorem dX7_makeAt_180 : decode cX7_makeAt 180 = .ok (.lconst 1, 1) := by decide +kernel
theorem dX7_makeAt_181 : decode cX7_makeAt 181 = .ok (.lload 5, 2) := by decide +kernel
theorem dX7_makeAt_183 : decode cX7_makeAt 183 = .ok (.lload 7, 2) := by decide +kernel
theorem dX7_makeAt_185 : decode cX7_makeAt 185 = .ok (.invokestatic 50, 3) := by decide +kernel
theorem dX7_makeAt_188 : decode cX7_makeAt 188 = .ok (.ladd, 1) := by decide +kernel
theorem dX7_makeAt_189 : decode cX7_makeAt 189 = .ok (.lload 9, 2) := by decide +kernel
theorem dX7_makeAt_191 : decode cX7_makeAt 191 = .ok (.invokevirtual 46, 3) := by decide +kernel
theorem dX7_makeAt_194 : decode cX7_makeAt 194 = .ok (.return_, 1) := by decide +kernel
set_option maxRecDepth 20000 in
theorem ggX7_keep_X4_write : GoodIn wsX7_keep wsX4_write := goodIn_r _ [7, 8, 9, 10, 6, 11, 14] (by decide +kernel) (by decide +kernel)
set_option maxRecDepth 20000 in
theorem gX7_keep_X4_write : GoodIn wsX7_keep (wsV RX7 56 RX4 yX4_write wsX4_write) := goodIn_app (goodIn_of _ (by decide +kernel)) ggX7_keep_X4_write
theorem dX7_keep_0 : decode cX7_keep 0 = .ok (.aload_n 0, 1) := by decide +kernel
theorem dX7_keep_1 : decode cX7_keep 1 = .ok (.getfield 12, 3) := by decide +kernel
theorem dX7_keep_4 : decode cX7_keep 4 = .ok (.iload_n 1, 1) := by decide +kernel
theorem dX7_keep_5 : decode cX7_keep 5 = .ok (.iload_n 2, 1) := by decide +kernel
theorem dX7_keep_6 : decode cX7_keep 6 = .ok (.lload_n 3, 1) := by decide +kernel
theorem dX7_keep_7 : decode cX7_keep 7 = .ok (.invokevirtual 56, 3) := by decide +kernel
theorem dX7_keep_10 : decode cX7_keep 10 = .ok (.aload_n 0, 1) := by decide +kernel
theorem dX7_keep_11 : decode cX7_keep 11 = .ok (.getfield 18, 3) := by decide +kernel
theorem dX7_keep_14 : decode cX7_keep 14 = .ok (.iload_n 1, 1) := by decide +kernel
theorem dX7_keep_15 : decode cX7_keep 15 = .ok (.iload_n 2, 1) := by decide +kernel
theorem dX7_keep_16 : decode cX7_keep 16 = .ok (.lload 5, 2) := by decide +kernel
theorem dX7_keep_18 : decode cX7_keep 18 = .ok (.invokevirtual 56, 3) := by decide +kernel
theorem dX7_keep_21 : decode cX7_keep 21 = .ok (.return_, 1) := by decide +kernel
set_option maxRecDepth 20000 in
theorem ggX7_firstWord_X2_has : GoodIn wsX7_firstWord wsX2_has := goodIn_r _ [10, 11, 29, 30] (by decide +kernel) (by decide +kernel)
set_option maxRecDepth 20000 in
theorem gX7_firstWord_X2_has : GoodIn wsX7_firstWord (wsV RX7 42 RX2 yX2_has wsX2_has) := goodIn_app (goodIn_of _ (by decide +kernel)) ggX7_firstWord_X2_has
set_option maxRecDepth 20000 in
theorem ggX7_firstWord_X2_at : GoodIn wsX7_firstWord wsX2_at := goodIn_r _ [15, 16, 17, 7, 8, 9, 10, 11, 29, 30] (by decide +kernel) (by decide +kernel)
set_option maxRecDepth 20000 in
theorem gX7_firstWord_X2_at : GoodIn wsX7_firstWord (wsV RX7 39 RX2 yX2_at wsX2_at) := goodIn_app (goodIn_of _ (by decide +kernel)) ggX7_firstWord_X2_at
set_option maxRecDepth 20000 in
theorem ggX7_firstWord_X4_at : GoodIn wsX7_firstWord wsX4_at := goodIn_r _ [22, 23, 24, 25, 21, 26, 31] (by decide +kernel) (by decide +kernel)
set_option maxRecDepth 20000 in
theorem gX7_firstWord_X4_at : GoodIn wsX7_firstWord (wsV RX7 31 RX4 yX4_at wsX4_at) := goodIn_app (goodIn_of _ (by decide +kernel)) ggX7_firstWord_X4_at
theorem dX7_firstWord_0 : decode cX7_firstWord 0 = .ok (.aload_n 1, 1) := by decide +kernel
theorem dX7_firstWord_1 : decode cX7_firstWord 1 = .ok (.iload_n 2, 1) := by decide +kernel
theorem dX7_firstWord_2 : decode cX7_firstWord 2 = .ok (.invokevirtual 42, 3) := by decide +kernel
theorem dX7_firstWord_5 : decode cX7_firstWord 5 = .ok (.ifCond .ne 10, 3) := by decide +kernel
theorem dX7_firstWord_8 : decode cX7_firstWord 8 = .ok (.aload_n 3, 1) := by decide +kernel
theorem dX7_firstWord_9 : decode cX7_firstWord 9 = .ok (.iload 4, 2) := by decide +kernel
theorem dX7_firstWord_11 : decode cX7_firstWord 11 = .ok (.invokevirtual 39, 3) := by decide +kernel
theorem dX7_firstWord_14 : decode cX7_firstWord 14 = .ok (.ireturn, 1) := by decide +kernel
theorem dX7_firstWord_15 : decode cX7_firstWord 15 = .ok (.aload_n 3, 1) := by decide +kernel
theorem dX7_firstWord_16 : decode cX7_firstWord 16 = .ok (.iload 4, 2) := by decide +kernel
theorem dX7_firstWord_18 : decode cX7_firstWord 18 = .ok (.invokevirtual 42, 3) := by decide +kernel
theorem dX7_firstWord_21 : decode cX7_firstWord 21 = .ok (.ifCond .eq 17, 3) := by decide +kernel
theorem dX7_firstWord_24 : decode cX7_firstWord 24 = .ok (.aload_n 1, 1) := by decide +kernel
theorem dX7_firstWord_25 : decode cX7_firstWord 25 = .ok (.iload_n 2, 1) := by decide +kernel
theorem dX7_firstWord_26 : decode cX7_firstWord 26 = .ok (.invokevirtual 39, 3) := by decide +kernel
theorem dX7_firstWord_29 : decode cX7_firstWord 29 = .ok (.aload_n 3, 1) := by decide +kernel
theorem dX7_firstWord_30 : decode cX7_firstWord 30 = .ok (.iload 4, 2) := by decide +kernel
theorem dX7_firstWord_32 : decode cX7_firstWord 32 = .ok (.invokevirtual 39, 3) := by decide +kernel
theorem dX7_firstWord_35 : decode cX7_firstWord 35 = .ok (.if_icmp .ne 9, 3) := by decide +kernel
theorem dX7_firstWord_38 : decode cX7_firstWord 38 = .ok (.aload_n 1, 1) := by decide +kernel
theorem dX7_firstWord_39 : decode cX7_firstWord 39 = .ok (.iload_n 2, 1) := by decide +kernel
theorem dX7_firstWord_40 : decode cX7_firstWord 40 = .ok (.invokevirtual 39, 3) := by decide +kernel
theorem dX7_firstWord_43 : decode cX7_firstWord 43 = .ok (.ireturn, 1) := by decide +kernel
theorem dX7_firstWord_44 : decode cX7_firstWord 44 = .ok (.aload_n 0, 1) := by decide +kernel
theorem dX7_firstWord_45 : decode cX7_firstWord 45 = .ok (.getfield 12, 3) := by decide +kernel
theorem dX7_firstWord_48 : decode cX7_firstWord 48 = .ok (.iload_n 2, 1) := by decide +kernel
theorem dX7_firstWord_49 : decode cX7_firstWord 49 = .ok (.iconst 1, 1) := by decide +kernel
theorem dX7_firstWord_50 : decode cX7_firstWord 50 = .ok (.iadd, 1) := by decide +kernel
theorem dX7_firstWord_51 : decode cX7_firstWord 51 = .ok (.iload 4, 2) := by decide +kernel
theorem dX7_firstWord_53 : decode cX7_firstWord 53 = .ok (.invokevirtual 31, 3) := by decide +kernel
theorem dX7_firstWord_56 : decode cX7_firstWord 56 = .ok (.lstore 5, 2) := by decide +kernel
theorem dX7_firstWord_58 : decode cX7_firstWord 58 = .ok (.aload_n 0, 1) := by decide +kernel
theorem dX7_firstWord_59 : decode cX7_firstWord 59 = .ok (.getfield 12, 3) := by decide +kernel
theorem dX7_firstWord_62 : decode cX7_firstWord 62 = .ok (.iload_n 2, 1) := by decide +kernel
theorem dX7_firstWord_63 : decode cX7_firstWord 63 = .ok (.iload 4, 2) := by decide +kernel
theorem dX7_firstWord_65 : decode cX7_firstWord 65 = .ok (.iconst 1, 1) := by decide +kernel
theorem dX7_firstWord_66 : decode cX7_firstWord 66 = .ok (.iadd, 1) := by decide +kernel
theorem dX7_firstWord_67 : decode cX7_firstWord 67 = .ok (.invokevirtual 31, 3) := by decide +kernel
theorem dX7_firstWord_70 : decode cX7_firstWord 70 = .ok (.lstore 7, 2) := by decide +kernel
theorem dX7_firstWord_72 : decode cX7_firstWord 72 = .ok (.lload 5, 2) := by decide +kernel
theorem dX7_firstWord_74 : decode cX7_firstWord 74 = .ok (.lload 7, 2) := by decide +kernel
theorem dX7_firstWord_76 : decode cX7_firstWord 76 = .ok (.lcmp, 1) := by decide +kernel
theorem dX7_firstWord_77 : decode cX7_firstWord 77 = .ok (.ifCond .ne 18, 3) := by decide +kernel
theorem dX7_firstWord_80 : decode cX7_firstWord 80 = .ok (.aload_n 1, 1) := by decide +kernel
theorem dX7_firstWord_81 : decode cX7_firstWord 81 = .ok (.iload_n 2, 1) := by decide +kernel
theorem dX7_firstWord_82 : decode cX7_firstWord 82 = .ok (.invokevirtual 39, 3) := by decide +kernel
theorem dX7_firstWord_85 : decode cX7_firstWord 85 = .ok (.aload_n 3, 1) := by decide +kernel
theorem dX7_firstWord_86 : decode cX7_firstWord 86 = .ok (.iload 4, 2) := by decide +kernel
theorem dX7_firstWord_88 : decode cX7_firstWord 88 = .ok (.invokevirtual 39, 3) := by decide +kernel
theorem dX7_firstWord_91 : decode cX7_firstWord 91 = .ok (.invokestatic 60, 3) := by decide +kernel
theorem dX7_firstWord_94 : decode cX7_firstWord 94 = .ok (.ireturn, 1) := by decide +kernel
theorem dX7_firstWord_95 : decode cX7_firstWord 95 = .ok (.lload 5, 2) := by decide +kernel
theorem dX7_firstWord_97 : decode cX7_firstWord 97 = .ok (.lload 7, 2) := by decide +kernel
theorem dX7_firstWord_99 : decode cX7_firstWord 99 = .ok (.lcmp, 1) := by decide +kernel
theorem dX7_firstWord_100 : decode cX7_firstWord 100 = .ok (.ifCond .ge 11, 3) := by decide +kernel
theorem dX7_firstWord_103 : decode cX7_firstWord 103 = .ok (.aload_n 1, 1) := by decide +kernel
theorem dX7_firstWord_104 : decode cX7_firstWord 104 = .ok (.iload_n 2, 1) := by decide +kernel
theorem dX7_firstWord_105 : decode cX7_firstWord 105 = .ok (.invokevirtual 39, 3) := by decide +kernel
theorem dX7_firstWord_108 : decode cX7_firstWord 108 = .ok (.goto 9, 3) := by decide +kernel
theorem dX7_firstWord_111 : decode cX7_firstWord 111 = .ok (.aload_n 3, 1) := by decide +kernel
theorem dX7_firstWord_112 : decode cX7_firstWord 112 = .ok (.iload 4, 2) := by decide +kernel
theorem dX7_firstWord_114 : decode cX7_firstWord 114 = .ok (.invokevirtual 39, 3) := by decide +kernel
theorem dX7_firstWord_117 : decode cX7_firstWord 117 = .ok (.ireturn, 1) := by decide +kernel
set_option maxRecDepth 20000 in
theorem ggX8_init_X2_init : GoodIn wsX8_init wsX2_init := goodIn_r _ [40, 41, 2, 3, 4, 42, 43, 100, 101] (by decide +kernel) (by decide +kernel)
set_option maxRecDepth 20000 in
theorem gX8_init_X2_init_n27 : GoodIn wsX8_init (wsX2_init) := ggX8_init_X2_init
set_option maxRecDepth 20000 in
theorem ggX8_init_X3_init : GoodIn wsX8_init wsX3_init := goodIn_r _ [45, 46, 2, 3, 4, 47, 48, 49, 50, 102, 103, 104] (by decide +kernel) (by decide +kernel)
set_option maxRecDepth 20000 in
theorem gX8_init_X3_init_n34 : GoodIn wsX8_init (wsX3_init) := ggX8_init_X3_init
set_option maxRecDepth 20000 in
theorem ggX8_init_X5_init : GoodIn wsX8_init wsX5_init := goodIn_r _ [52, 53, 2, 3, 54, 55, 4, 56, 105, 106] (by decide +kernel) (by decide +kernel)
set_option maxRecDepth 20000 in
theorem gX8_init_X5_init_n41 : GoodIn wsX8_init (wsX5_init) := ggX8_init_X5_init
set_option maxRecDepth 20000 in
theorem ggX8_init_X7_init : GoodIn wsX8_init wsX7_init := goodIn_r _ [58, 59, 2, 3, 60, 61, 62, 63, 64, 65, 66, 67, 49, 68, 116, 107, 108] (by decide +kernel) (by decide +kernel)
set_option maxRecDepth 20000 in
theorem gX8_init_X7_init_n48 : GoodIn wsX8_init (wsX7_init) := ggX8_init_X7_init
set_option maxRecDepth 20000 in
theorem ggX8_init_X1_init : GoodIn wsX8_init wsX1_init := goodIn_r _ [70, 71, 2, 3, 72, 61, 62, 73, 74, 65, 66, 67, 49, 68, 116, 109, 110] (by decide +kernel) (by decide +kernel)
set_option maxRecDepth 20000 in
theorem gX8_init_X1_init_n55 : GoodIn wsX8_init (wsX1_init) := ggX8_init_X1_init
set_option maxRecDepth 20000 in
theorem ggX8_init_X0_init : GoodIn wsX8_init wsX0_init := goodIn_r _ [76, 77, 2, 3, 78, 61, 62, 79, 80, 65, 66, 67, 49, 68, 116, 111, 112] (by decide +kernel) (by decide +kernel)
set_option maxRecDepth 20000 in
theorem gX8_init_X0_init_n62 : GoodIn wsX8_init (wsX0_init) := ggX8_init_X0_init
set_option maxRecDepth 20000 in
theorem ggX8_init_X6_init : GoodIn wsX8_init wsX6_init := goodIn_r _ [82, 83, 2, 3, 4, 84, 85, 86, 113, 114, 115] (by decide +kernel) (by decide +kernel)
set_option maxRecDepth 20000 in
theorem gX8_init_X6_init_n80 : GoodIn wsX8_init (wsX6_init) := ggX8_init_X6_init
