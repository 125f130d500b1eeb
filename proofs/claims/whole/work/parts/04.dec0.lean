theorem dX0_init_0 : decode cX0_init 0 = .ok (.aload_n 0, 1) := by decide +kernel
theorem dX0_init_1 : decode cX0_init 1 = .ok (.invokespecial 3, 3) := by decide +kernel
theorem dX0_init_4 : decode cX0_init 4 = .ok (.aload_n 0, 1) := by decide +kernel
theorem dX0_init_5 : decode cX0_init 5 = .ok (.bipush 61, 2) := by decide +kernel
theorem dX0_init_7 : decode cX0_init 7 = .ok (.newarray .int, 2) := by decide +kernel
theorem dX0_init_9 : decode cX0_init 9 = .ok (.putfield 9, 3) := by decide +kernel
theorem dX0_init_12 : decode cX0_init 12 = .ok (.return_, 1) := by decide +kernel
set_option maxRecDepth 20000 in
theorem ggX0_find_X2_takenOf : GoodIn wsX0_find wsX2_takenOf := goodIn_r _ [8, 9, 10, 11, 7, 12, 43, 44, 45, 46, 47, 48, 49] (by decide +kernel) (by decide +kernel)
set_option maxRecDepth 20000 in
theorem gX0_find_X2_takenOf : GoodIn wsX0_find (wsV RX0 22 RX2 yX2_takenOf wsX2_takenOf) := goodIn_app (goodIn_of _ (by decide +kernel)) ggX0_find_X2_takenOf
set_option maxRecDepth 20000 in
theorem ggX0_find_X2_cellsOf : GoodIn wsX0_find wsX2_cellsOf := goodIn_r _ [16, 17, 10, 11, 7, 12, 43, 44, 45, 46, 47, 48, 49] (by decide +kernel) (by decide +kernel)
set_option maxRecDepth 20000 in
theorem gX0_find_X2_cellsOf : GoodIn wsX0_find (wsV RX0 28 RX2 yX2_cellsOf wsX2_cellsOf) := goodIn_app (goodIn_of _ (by decide +kernel)) ggX0_find_X2_cellsOf
set_option maxRecDepth 20000 in
theorem ggX0_find_X2_runsThrough : GoodIn wsX0_find wsX2_runsThrough := goodIn_r _ [21, 22, 23, 24, 7, 25, 17, 26, 27, 28, 29, 9, 30, 43, 44, 45, 46, 47, 48, 49] (by decide +kernel) (by decide +kernel)
set_option maxRecDepth 20000 in
theorem gX0_find_X2_runsThrough : GoodIn wsX0_find (wsV RX0 31 RX2 yX2_runsThrough wsX2_runsThrough) := goodIn_app (goodIn_of _ (by decide +kernel)) ggX0_find_X2_runsThrough
set_option maxRecDepth 20000 in
theorem ggX0_find_X0_bestSize : GoodIn wsX0_find wsX0_bestSize := goodIn_r _ [35, 36, 37, 38, 34, 39, 3, 40, 41, 42] (by decide +kernel) (by decide +kernel)
set_option maxRecDepth 20000 in
theorem gX0_find_X0_bestSize : GoodIn wsX0_find (wsV RX0 35 RX0 yX0_bestSize wsX0_bestSize) := goodIn_app (goodIn_of _ (by decide +kernel)) ggX0_find_X0_bestSize
set_option maxRecDepth 20000 in
theorem ggX0_find_X0_pebblesFrom : GoodIn wsX0_find wsX0_pebblesFrom := goodIn_r _ [39, 3, 40, 41, 42] (by decide +kernel) (by decide +kernel)
set_option maxRecDepth 20000 in
theorem gX0_find_X0_pebblesFrom : GoodIn wsX0_find (wsV RX0 39 RX0 yX0_pebblesFrom wsX0_pebblesFrom) := goodIn_app (goodIn_of _ (by decide +kernel)) ggX0_find_X0_pebblesFrom
theorem dX0_find_0 : decode cX0_find 0 = .ok (.aload_n 0, 1) := by decide +kernel
theorem dX0_find_1 : decode cX0_find 1 = .ok (.iconst 0, 1) := by decide +kernel
theorem dX0_find_2 : decode cX0_find 2 = .ok (.putfield 15, 3) := by decide +kernel
theorem dX0_find_5 : decode cX0_find 5 = .ok (.aload_n 0, 1) := by decide +kernel
theorem dX0_find_6 : decode cX0_find 6 = .ok (.iconst (-1), 1) := by decide +kernel
theorem dX0_find_7 : decode cX0_find 7 = .ok (.putfield 19, 3) := by decide +kernel
theorem dX0_find_10 : decode cX0_find 10 = .ok (.aload_n 1, 1) := by decide +kernel
theorem dX0_find_11 : decode cX0_find 11 = .ok (.ifnonnull 4, 3) := by decide +kernel
theorem dX0_find_14 : decode cX0_find 14 = .ok (.return_, 1) := by decide +kernel
theorem dX0_find_15 : decode cX0_find 15 = .ok (.aload_n 1, 1) := by decide +kernel
theorem dX0_find_16 : decode cX0_find 16 = .ok (.iload_n 2, 1) := by decide +kernel
theorem dX0_find_17 : decode cX0_find 17 = .ok (.invokevirtual 22, 3) := by decide +kernel
theorem dX0_find_20 : decode cX0_find 20 = .ok (.istore_n 3, 1) := by decide +kernel
theorem dX0_find_21 : decode cX0_find 21 = .ok (.aload_n 1, 1) := by decide +kernel
theorem dX0_find_22 : decode cX0_find 22 = .ok (.iload_n 2, 1) := by decide +kernel
theorem dX0_find_23 : decode cX0_find 23 = .ok (.invokevirtual 28, 3) := by decide +kernel
theorem dX0_find_26 : decode cX0_find 26 = .ok (.istore 4, 2) := by decide +kernel
theorem dX0_find_28 : decode cX0_find 28 = .ok (.iload_n 3, 1) := by decide +kernel
theorem dX0_find_29 : decode cX0_find 29 = .ok (.ifCond .lt 16, 3) := by decide +kernel
theorem dX0_find_32 : decode cX0_find 32 = .ok (.iload 4, 2) := by decide +kernel
theorem dX0_find_34 : decode cX0_find 34 = .ok (.bipush 60, 2) := by decide +kernel
theorem dX0_find_36 : decode cX0_find 36 = .ok (.if_icmp .gt 9, 3) := by decide +kernel
theorem dX0_find_39 : decode cX0_find 39 = .ok (.iload_n 3, 1) := by decide +kernel
theorem dX0_find_40 : decode cX0_find 40 = .ok (.iload 4, 2) := by decide +kernel
theorem dX0_find_42 : decode cX0_find 42 = .ok (.if_icmp .lt 4, 3) := by decide +kernel
theorem dX0_find_45 : decode cX0_find 45 = .ok (.return_, 1) := by decide +kernel
theorem dX0_find_46 : decode cX0_find 46 = .ok (.aload_n 0, 1) := by decide +kernel
theorem dX0_find_47 : decode cX0_find 47 = .ok (.getfield 9, 3) := by decide +kernel
theorem dX0_find_50 : decode cX0_find 50 = .ok (.iload 4, 2) := by decide +kernel
theorem dX0_find_52 : decode cX0_find 52 = .ok (.iconst 0, 1) := by decide +kernel
theorem dX0_find_53 : decode cX0_find 53 = .ok (.iastore, 1) := by decide +kernel
theorem dX0_find_54 : decode cX0_find 54 = .ok (.iload 4, 2) := by decide +kernel
theorem dX0_find_56 : decode cX0_find 56 = .ok (.iconst 1, 1) := by decide +kernel
theorem dX0_find_57 : decode cX0_find 57 = .ok (.isub, 1) := by decide +kernel
theorem dX0_find_58 : decode cX0_find 58 = .ok (.istore 5, 2) := by decide +kernel
theorem dX0_find_60 : decode cX0_find 60 = .ok (.iload 5, 2) := by decide +kernel
theorem dX0_find_62 : decode cX0_find 62 = .ok (.iload_n 3, 1) := by decide +kernel
theorem dX0_find_63 : decode cX0_find 63 = .ok (.if_icmp .lt 93, 3) := by decide +kernel
theorem dX0_find_66 : decode cX0_find 66 = .ok (.iload 5, 2) := by decide +kernel
theorem dX0_find_68 : decode cX0_find 68 = .ok (.iload_n 3, 1) := by decide +kernel
theorem dX0_find_69 : decode cX0_find 69 = .ok (.if_icmp .le 17, 3) := by decide +kernel
theorem dX0_find_72 : decode cX0_find 72 = .ok (.aload_n 1, 1) := by decide +kernel
theorem dX0_find_73 : decode cX0_find 73 = .ok (.iload_n 2, 1) := by decide +kernel
theorem dX0_find_74 : decode cX0_find 74 = .ok (.iload 5, 2) := by decide +kernel
theorem dX0_find_76 : decode cX0_find 76 = .ok (.invokevirtual 31, 3) := by decide +kernel
theorem dX0_find_79 : decode cX0_find 79 = .ok (.ifCond .eq 7, 3) := by decide +kernel
theorem dX0_find_82 : decode cX0_find 82 = .ok (.iconst 1, 1) := by decide +kernel
theorem dX0_find_83 : decode cX0_find 83 = .ok (.goto 4, 3) := by decide +kernel
theorem dX0_find_86 : decode cX0_find 86 = .ok (.iconst 0, 1) := by decide +kernel
theorem dX0_find_87 : decode cX0_find 87 = .ok (.istore 6, 2) := by decide +kernel
theorem dX0_find_89 : decode cX0_find 89 = .ok (.aload_n 0, 1) := by decide +kernel
theorem dX0_find_90 : decode cX0_find 90 = .ok (.iload 6, 2) := by decide +kernel
theorem dX0_find_92 : decode cX0_find 92 = .ok (.ifCond .eq 7, 3) := by decide +kernel
theorem dX0_find_95 : decode cX0_find 95 = .ok (.iconst (-1), 1) := by decide +kernel
theorem dX0_find_96 : decode cX0_find 96 = .ok (.goto 11, 3) := by decide +kernel
theorem dX0_find_99 : decode cX0_find 99 = .ok (.aload_n 0, 1) := by decide +kernel
theorem dX0_find_100 : decode cX0_find 100 = .ok (.iload 5, 2) := by decide +kernel
theorem dX0_find_102 : decode cX0_find 102 = .ok (.iload 4, 2) := by decide +kernel
theorem dX0_find_104 : decode cX0_find 104 = .ok (.invokevirtual 35, 3) := by decide +kernel
theorem dX0_find_107 : decode cX0_find 107 = .ok (.putfield 19, 3) := by decide +kernel
theorem dX0_find_110 : decode cX0_find 110 = .ok (.aload_n 0, 1) := by decide +kernel
theorem dX0_find_111 : decode cX0_find 111 = .ok (.aload_n 0, 1) := by decide +kernel
theorem dX0_find_112 : decode cX0_find 112 = .ok (.getfield 19, 3) := by decide +kernel
theorem dX0_find_115 : decode cX0_find 115 = .ok (.iconst (-1), 1) := by decide +kernel
theorem dX0_find_116 : decode cX0_find 116 = .ok (.if_icmp .ne 7, 3) := by decide +kernel
theorem dX0_find_119 : decode cX0_find 119 = .ok (.iconst (-1), 1) := by decide +kernel
theorem dX0_find_120 : decode cX0_find 120 = .ok (.goto 16, 3) := by decide +kernel
theorem dX0_find_123 : decode cX0_find 123 = .ok (.aload_n 0, 1) := by decide +kernel
theorem dX0_find_124 : decode cX0_find 124 = .ok (.iload 5, 2) := by decide +kernel
theorem dX0_find_126 : decode cX0_find 126 = .ok (.aload_n 0, 1) := by decide +kernel
theorem dX0_find_127 : decode cX0_find 127 = .ok (.getfield 19, 3) := by decide +kernel
theorem dX0_find_130 : decode cX0_find 130 = .ok (.iadd, 1) := by decide +kernel
theorem dX0_find_131 : decode cX0_find 131 = .ok (.invokevirtual 39, 3) := by decide +kernel
theorem dX0_find_134 : decode cX0_find 134 = .ok (.iconst 1, 1) := by decide +kernel
theorem dX0_find_135 : decode cX0_find 135 = .ok (.iadd, 1) := by decide +kernel
theorem dX0_find_136 : decode cX0_find 136 = .ok (.putfield 15, 3) := by decide +kernel
theorem dX0_find_139 : decode cX0_find 139 = .ok (.aload_n 0, 1) := by decide +kernel
theorem dX0_find_140 : decode cX0_find 140 = .ok (.getfield 9, 3) := by decide +kernel
theorem dX0_find_143 : decode cX0_find 143 = .ok (.iload 5, 2) := by decide +kernel
theorem dX0_find_145 : decode cX0_find 145 = .ok (.aload_n 0, 1) := by decide +kernel
theorem dX0_find_146 : decode cX0_find 146 = .ok (.getfield 15, 3) := by decide +kernel
theorem dX0_find_149 : decode cX0_find 149 = .ok (.iastore, 1) := by decide +kernel
theorem dX0_find_150 : decode cX0_find 150 = .ok (.iinc 5 (-1), 3) := by decide +kernel
theorem dX0_find_153 : decode cX0_find 153 = .ok (.goto (-93), 3) := by decide +kernel
theorem dX0_find_156 : decode cX0_find 156 = .ok (.return_, 1) := by decide +kernel
set_option maxRecDepth 20000 in
theorem ggX0_bestSize_X0_pebblesFrom : GoodIn wsX0_bestSize wsX0_pebblesFrom := goodIn_r _ [5, 6, 7, 8, 9] (by decide +kernel) (by decide +kernel)
set_option maxRecDepth 20000 in
theorem gX0_bestSize_X0_pebblesFrom : GoodIn wsX0_bestSize (wsV RX0 39 RX0 yX0_pebblesFrom wsX0_pebblesFrom) := goodIn_app (goodIn_of _ (by decide +kernel)) ggX0_bestSize_X0_pebblesFrom
theorem dX0_bestSize_0 : decode cX0_bestSize 0 = .ok (.iconst (-1), 1) := by decide +kernel
theorem dX0_bestSize_1 : decode cX0_bestSize 1 = .ok (.istore_n 3, 1) := by decide +kernel
theorem dX0_bestSize_2 : decode cX0_bestSize 2 = .ok (.iconst 1, 1) := by decide +kernel
theorem dX0_bestSize_3 : decode cX0_bestSize 3 = .ok (.istore 4, 2) := by decide +kernel
theorem dX0_bestSize_5 : decode cX0_bestSize 5 = .ok (.iload 4, 2) := by decide +kernel
theorem dX0_bestSize_7 : decode cX0_bestSize 7 = .ok (.bipush 6, 2) := by decide +kernel
theorem dX0_bestSize_9 : decode cX0_bestSize 9 = .ok (.if_icmp .gt 53, 3) := by decide +kernel
theorem dX0_bestSize_12 : decode cX0_bestSize 12 = .ok (.iload 4, 2) := by decide +kernel
theorem dX0_bestSize_14 : decode cX0_bestSize 14 = .ok (.iload_n 2, 1) := by decide +kernel
theorem dX0_bestSize_15 : decode cX0_bestSize 15 = .ok (.iload_n 1, 1) := by decide +kernel
theorem dX0_bestSize_16 : decode cX0_bestSize 16 = .ok (.isub, 1) := by decide +kernel
theorem dX0_bestSize_17 : decode cX0_bestSize 17 = .ok (.if_icmp .gt 45, 3) := by decide +kernel
theorem dX0_bestSize_20 : decode cX0_bestSize 20 = .ok (.aload_n 0, 1) := by decide +kernel
theorem dX0_bestSize_21 : decode cX0_bestSize 21 = .ok (.iload_n 1, 1) := by decide +kernel
theorem dX0_bestSize_22 : decode cX0_bestSize 22 = .ok (.iload 4, 2) := by decide +kernel
theorem dX0_bestSize_24 : decode cX0_bestSize 24 = .ok (.iadd, 1) := by decide +kernel
theorem dX0_bestSize_25 : decode cX0_bestSize 25 = .ok (.invokevirtual 39, 3) := by decide +kernel
theorem dX0_bestSize_28 : decode cX0_bestSize 28 = .ok (.istore 5, 2) := by decide +kernel
theorem dX0_bestSize_30 : decode cX0_bestSize 30 = .ok (.iload 5, 2) := by decide +kernel
theorem dX0_bestSize_32 : decode cX0_bestSize 32 = .ok (.iconst (-1), 1) := by decide +kernel
theorem dX0_bestSize_33 : decode cX0_bestSize 33 = .ok (.if_icmp .eq 23, 3) := by decide +kernel
theorem dX0_bestSize_36 : decode cX0_bestSize 36 = .ok (.iload_n 3, 1) := by decide +kernel
theorem dX0_bestSize_37 : decode cX0_bestSize 37 = .ok (.iconst (-1), 1) := by decide +kernel
theorem dX0_bestSize_38 : decode cX0_bestSize 38 = .ok (.if_icmp .eq 15, 3) := by decide +kernel
theorem dX0_bestSize_41 : decode cX0_bestSize 41 = .ok (.iload 5, 2) := by decide +kernel
theorem dX0_bestSize_43 : decode cX0_bestSize 43 = .ok (.aload_n 0, 1) := by decide +kernel
theorem dX0_bestSize_44 : decode cX0_bestSize 44 = .ok (.iload_n 1, 1) := by decide +kernel
theorem dX0_bestSize_45 : decode cX0_bestSize 45 = .ok (.iload_n 3, 1) := by decide +kernel
theorem dX0_bestSize_46 : decode cX0_bestSize 46 = .ok (.iadd, 1) := by decide +kernel
theorem dX0_bestSize_47 : decode cX0_bestSize 47 = .ok (.invokevirtual 39, 3) := by decide +kernel
theorem dX0_bestSize_50 : decode cX0_bestSize 50 = .ok (.if_icmp .gt 6, 3) := by decide +kernel
theorem dX0_bestSize_53 : decode cX0_bestSize 53 = .ok (.iload 4, 2) := by decide +kernel
theorem dX0_bestSize_55 : decode cX0_bestSize 55 = .ok (.istore_n 3, 1) := by decide +kernel
theorem dX0_bestSize_56 : decode cX0_bestSize 56 = .ok (.iinc 4 1, 3) := by decide +kernel
theorem dX0_bestSize_59 : decode cX0_bestSize 59 = .ok (.goto (-54), 3) := by decide +kernel
theorem dX0_bestSize_62 : decode cX0_bestSize 62 = .ok (.iload_n 3, 1) := by decide +kernel
theorem dX0_bestSize_63 : decode cX0_bestSize 63 = .ok (.ireturn, 1) := by decide +kernel
theorem dX0_pebblesFrom_0 : decode cX0_pebblesFrom 0 = .ok (.iload_n 1, 1) := by decide +kernel
theorem dX0_pebblesFrom_1 : decode cX0_pebblesFrom 1 = .ok (.ifCond .lt 21, 3) := by decide +kernel
theorem dX0_pebblesFrom_4 : decode cX0_pebblesFrom 4 = .ok (.iload_n 1, 1) := by decide +kernel
theorem dX0_pebblesFrom_5 : decode cX0_pebblesFrom 5 = .ok (.aload_n 0, 1) := by decide +kernel
theorem dX0_pebblesFrom_6 : decode cX0_pebblesFrom 6 = .ok (.getfield 9, 3) := by decide +kernel
theorem dX0_pebblesFrom_9 : decode cX0_pebblesFrom 9 = .ok (.arraylength, 1) := by decide +kernel
theorem dX0_pebblesFrom_10 : decode cX0_pebblesFrom 10 = .ok (.if_icmp .ge 12, 3) := by decide +kernel
theorem dX0_pebblesFrom_13 : decode cX0_pebblesFrom 13 = .ok (.aload_n 0, 1) := by decide +kernel
theorem dX0_pebblesFrom_14 : decode cX0_pebblesFrom 14 = .ok (.getfield 9, 3) := by decide +kernel
theorem dX0_pebblesFrom_17 : decode cX0_pebblesFrom 17 = .ok (.iload_n 1, 1) := by decide +kernel
theorem dX0_pebblesFrom_18 : decode cX0_pebblesFrom 18 = .ok (.iaload, 1) := by decide +kernel
theorem dX0_pebblesFrom_19 : decode cX0_pebblesFrom 19 = .ok (.goto 4, 3) := by decide +kernel
theorem dX0_pebblesFrom_22 : decode cX0_pebblesFrom 22 = .ok (.iconst (-1), 1) := by decide +kernel
theorem dX0_pebblesFrom_23 : decode cX0_pebblesFrom 23 = .ok (.ireturn, 1) := by decide +kernel
theorem dX0_pebbles_0 : decode cX0_pebbles 0 = .ok (.aload_n 0, 1) := by decide +kernel
theorem dX0_pebbles_1 : decode cX0_pebbles 1 = .ok (.getfield 15, 3) := by decide +kernel
theorem dX0_pebbles_4 : decode cX0_pebbles 4 = .ok (.ireturn, 1) := by decide +kernel
theorem dX0_firstSize_0 : decode cX0_firstSize 0 = .ok (.aload_n 0, 1) := by decide +kernel
theorem dX0_firstSize_1 : decode cX0_firstSize 1 = .ok (.getfield 19, 3) := by decide +kernel
theorem dX0_firstSize_4 : decode cX0_firstSize 4 = .ok (.ireturn, 1) := by decide +kernel
set_option maxRecDepth 20000 in
theorem ggX1_init_X2_init : GoodIn wsX1_init wsX2_init := goodIn_r _ [10, 11, 2, 3, 12, 13, 14, 15, 16, 20, 21, 22, 23, 24, 25, 26] (by decide +kernel) (by decide +kernel)
set_option maxRecDepth 20000 in
theorem gX1_init_X2_init : GoodIn wsX1_init (wsX2_init) := ggX1_init_X2_init
theorem dX1_init_0 : decode cX1_init 0 = .ok (.aload_n 0, 1) := by decide +kernel
theorem dX1_init_1 : decode cX1_init 1 = .ok (.invokespecial 3, 3) := by decide +kernel
theorem dX1_init_4 : decode cX1_init 4 = .ok (.aload_n 0, 1) := by decide +kernel
theorem dX1_init_5 : decode cX1_init 5 = .ok (.bipush 6, 2) := by decide +kernel
theorem dX1_init_7 : decode cX1_init 7 = .ok (.anewarray 9, 3) := by decide +kernel
theorem dX1_init_10 : decode cX1_init 10 = .ok (.putfield 11, 3) := by decide +kernel
theorem dX1_init_13 : decode cX1_init 13 = .ok (.iconst 0, 1) := by decide +kernel
theorem dX1_init_14 : decode cX1_init 14 = .ok (.istore_n 1, 1) := by decide +kernel
theorem dX1_init_15 : decode cX1_init 15 = .ok (.iload_n 1, 1) := by decide +kernel
theorem dX1_init_16 : decode cX1_init 16 = .ok (.aload_n 0, 1) := by decide +kernel
theorem dX1_init_17 : decode cX1_init 17 = .ok (.getfield 11, 3) := by decide +kernel
theorem dX1_init_20 : decode cX1_init 20 = .ok (.arraylength, 1) := by decide +kernel
theorem dX1_init_21 : decode cX1_init 21 = .ok (.if_icmp .ge 22, 3) := by decide +kernel
theorem dX1_init_24 : decode cX1_init 24 = .ok (.aload_n 0, 1) := by decide +kernel
theorem dX1_init_25 : decode cX1_init 25 = .ok (.getfield 11, 3) := by decide +kernel
theorem dX1_init_28 : decode cX1_init 28 = .ok (.iload_n 1, 1) := by decide +kernel
theorem dX1_init_29 : decode cX1_init 29 = .ok (.new 9, 3) := by decide +kernel
theorem dX1_init_32 : decode cX1_init 32 = .ok (.dup, 1) := by decide +kernel
theorem dX1_init_33 : decode cX1_init 33 = .ok (.invokespecial 17, 3) := by decide +kernel
theorem dX1_init_36 : decode cX1_init 36 = .ok (.aastore, 1) := by decide +kernel
theorem dX1_init_37 : decode cX1_init 37 = .ok (.iinc 1 1, 3) := by decide +kernel
theorem dX1_init_40 : decode cX1_init 40 = .ok (.goto (-25), 3) := by decide +kernel
theorem dX1_init_43 : decode cX1_init 43 = .ok (.return_, 1) := by decide +kernel
theorem dX1_size_0 : decode cX1_size 0 = .ok (.aload_n 0, 1) := by decide +kernel
theorem dX1_size_1 : decode cX1_size 1 = .ok (.getfield 18, 3) := by decide +kernel
theorem dX1_size_4 : decode cX1_size 4 = .ok (.ireturn, 1) := by decide +kernel
set_option maxRecDepth 20000 in
theorem ggX1_save_X1_placeAt : GoodIn wsX1_save wsX1_placeAt := goodIn_r _ [11, 12, 33, 34, 35] (by decide +kernel) (by decide +kernel)
set_option maxRecDepth 20000 in
theorem gX1_save_X1_placeAt : GoodIn wsX1_save (wsV RX1 25 RX1 yX1_placeAt wsX1_placeAt) := goodIn_app (goodIn_of _ (by decide +kernel)) ggX1_save_X1_placeAt
set_option maxRecDepth 20000 in
theorem ggX1_save_X2_become : GoodIn wsX1_save wsX2_become := goodIn_r _ [17, 18, 19, 20, 21, 22, 23, 24, 25, 26, 16, 27, 28, 4, 5, 6, 29, 30, 31, 32, 36, 37, 38, 39, 40, 41, 42] (by decide +kernel) (by decide +kernel)
set_option maxRecDepth 20000 in
theorem gX1_save_X2_become : GoodIn wsX1_save (wsV RX1 29 RX2 yX2_become wsX2_become) := goodIn_app (goodIn_of _ (by decide +kernel)) ggX1_save_X2_become
theorem dX1_save_0 : decode cX1_save 0 = .ok (.aload_n 0, 1) := by decide +kernel
theorem dX1_save_1 : decode cX1_save 1 = .ok (.aload_n 0, 1) := by decide +kernel
theorem dX1_save_2 : decode cX1_save 2 = .ok (.getfield 22, 3) := by decide +kernel
theorem dX1_save_5 : decode cX1_save 5 = .ok (.invokevirtual 25, 3) := by decide +kernel
theorem dX1_save_8 : decode cX1_save 8 = .ok (.astore_n 2, 1) := by decide +kernel
theorem dX1_save_9 : decode cX1_save 9 = .ok (.aload_n 2, 1) := by decide +kernel
theorem dX1_save_10 : decode cX1_save 10 = .ok (.ifnonnull 4, 3) := by decide +kernel
theorem dX1_save_13 : decode cX1_save 13 = .ok (.return_, 1) := by decide +kernel
theorem dX1_save_14 : decode cX1_save 14 = .ok (.aload_n 2, 1) := by decide +kernel
theorem dX1_save_15 : decode cX1_save 15 = .ok (.aload_n 1, 1) := by decide +kernel
theorem dX1_save_16 : decode cX1_save 16 = .ok (.invokevirtual 29, 3) := by decide +kernel
theorem dX1_save_19 : decode cX1_save 19 = .ok (.aload_n 0, 1) := by decide +kernel
theorem dX1_save_20 : decode cX1_save 20 = .ok (.aload_n 0, 1) := by decide +kernel
theorem dX1_save_21 : decode cX1_save 21 = .ok (.getfield 22, 3) := by decide +kernel
theorem dX1_save_24 : decode cX1_save 24 = .ok (.iconst 1, 1) := by decide +kernel
theorem dX1_save_25 : decode cX1_save 25 = .ok (.iadd, 1) := by decide +kernel
theorem dX1_save_26 : decode cX1_save 26 = .ok (.bipush 6, 2) := by decide +kernel
theorem dX1_save_28 : decode cX1_save 28 = .ok (.irem, 1) := by decide +kernel
theorem dX1_save_29 : decode cX1_save 29 = .ok (.putfield 22, 3) := by decide +kernel
theorem dX1_save_32 : decode cX1_save 32 = .ok (.aload_n 0, 1) := by decide +kernel
theorem dX1_save_33 : decode cX1_save 33 = .ok (.aload_n 0, 1) := by decide +kernel
theorem dX1_save_34 : decode cX1_save 34 = .ok (.getfield 18, 3) := by decide +kernel
theorem dX1_save_37 : decode cX1_save 37 = .ok (.iconst 1, 1) := by decide +kernel
theorem dX1_save_38 : decode cX1_save 38 = .ok (.iadd, 1) := by decide +kernel
theorem dX1_save_39 : decode cX1_save 39 = .ok (.bipush 6, 2) := by decide +kernel
theorem dX1_save_41 : decode cX1_save 41 = .ok (.invokestatic 33, 3) := by decide +kernel
theorem dX1_save_44 : decode cX1_save 44 = .ok (.putfield 18, 3) := by decide +kernel
theorem dX1_save_47 : decode cX1_save 47 = .ok (.return_, 1) := by decide +kernel
set_option maxRecDepth 20000 in
theorem ggX1_restore_X1_placeAt : GoodIn wsX1_restore wsX1_placeAt := goodIn_r _ [7, 8, 32, 33, 34] (by decide +kernel) (by decide +kernel)
set_option maxRecDepth 20000 in
theorem gX1_restore_X1_placeAt : GoodIn wsX1_restore (wsV RX1 25 RX1 yX1_placeAt wsX1_placeAt) := goodIn_app (goodIn_of _ (by decide +kernel)) ggX1_restore_X1_placeAt
set_option maxRecDepth 20000 in
theorem ggX1_restore_X2_become : GoodIn wsX1_restore wsX2_become := goodIn_r _ [13, 14, 15, 16, 17, 18, 19, 20, 21, 22, 12, 23, 24, 25, 26, 27, 28, 29, 30, 31, 35, 36, 37, 38, 39, 40, 41] (by decide +kernel) (by decide +kernel)
set_option maxRecDepth 20000 in
theorem gX1_restore_X2_become : GoodIn wsX1_restore (wsV RX1 29 RX2 yX2_become wsX2_become) := goodIn_app (goodIn_of _ (by decide +kernel)) ggX1_restore_X2_become
theorem dX1_restore_0 : decode cX1_restore 0 = .ok (.aload_n 0, 1) := by decide +kernel
theorem dX1_restore_1 : decode cX1_restore 1 = .ok (.getfield 22, 3) := by decide +kernel
theorem dX1_restore_4 : decode cX1_restore 4 = .ok (.bipush 6, 2) := by decide +kernel
theorem dX1_restore_6 : decode cX1_restore 6 = .ok (.iadd, 1) := by decide +kernel
theorem dX1_restore_7 : decode cX1_restore 7 = .ok (.iconst 1, 1) := by decide +kernel
theorem dX1_restore_8 : decode cX1_restore 8 = .ok (.isub, 1) := by decide +kernel
theorem dX1_restore_9 : decode cX1_restore 9 = .ok (.bipush 6, 2) := by decide +kernel
theorem dX1_restore_11 : decode cX1_restore 11 = .ok (.irem, 1) := by decide +kernel
theorem dX1_restore_12 : decode cX1_restore 12 = .ok (.istore_n 2, 1) := by decide +kernel
theorem dX1_restore_13 : decode cX1_restore 13 = .ok (.aload_n 0, 1) := by decide +kernel
theorem dX1_restore_14 : decode cX1_restore 14 = .ok (.getfield 18, 3) := by decide +kernel
theorem dX1_restore_17 : decode cX1_restore 17 = .ok (.ifCond .eq 7, 3) := by decide +kernel
theorem dX1_restore_20 : decode cX1_restore 20 = .ok (.aload_n 1, 1) := by decide +kernel
theorem dX1_restore_21 : decode cX1_restore 21 = .ok (.ifnonnull 4, 3) := by decide +kernel
theorem dX1_restore_24 : decode cX1_restore 24 = .ok (.return_, 1) := by decide +kernel
theorem dX1_restore_25 : decode cX1_restore 25 = .ok (.aload_n 1, 1) := by decide +kernel
theorem dX1_restore_26 : decode cX1_restore 26 = .ok (.aload_n 0, 1) := by decide +kernel
theorem dX1_restore_27 : decode cX1_restore 27 = .ok (.iload_n 2, 1) := by decide +kernel
theorem dX1_restore_28 : decode cX1_restore 28 = .ok (.invokevirtual 25, 3) := by decide +kernel
theorem dX1_restore_31 : decode cX1_restore 31 = .ok (.invokevirtual 29, 3) := by decide +kernel
theorem dX1_restore_34 : decode cX1_restore 34 = .ok (.aload_n 0, 1) := by decide +kernel
theorem dX1_restore_35 : decode cX1_restore 35 = .ok (.iload_n 2, 1) := by decide +kernel
theorem dX1_restore_36 : decode cX1_restore 36 = .ok (.putfield 22, 3) := by decide +kernel
theorem dX1_restore_39 : decode cX1_restore 39 = .ok (.aload_n 0, 1) := by decide +kernel
theorem dX1_restore_40 : decode cX1_restore 40 = .ok (.dup, 1) := by decide +kernel
theorem dX1_restore_41 : decode cX1_restore 41 = .ok (.getfield 18, 3) := by decide +kernel
theorem dX1_restore_44 : decode cX1_restore 44 = .ok (.iconst 1, 1) := by decide +kernel
theorem dX1_restore_45 : decode cX1_restore 45 = .ok (.isub, 1) := by decide +kernel
theorem dX1_restore_46 : decode cX1_restore 46 = .ok (.putfield 18, 3) := by decide +kernel
theorem dX1_restore_49 : decode cX1_restore 49 = .ok (.return_, 1) := by decide +kernel
theorem dX1_placeAt_0 : decode cX1_placeAt 0 = .ok (.iload_n 1, 1) := by decide +kernel
theorem dX1_placeAt_1 : decode cX1_placeAt 1 = .ok (.ifCond .lt 21, 3) := by decide +kernel
theorem dX1_placeAt_4 : decode cX1_placeAt 4 = .ok (.iload_n 1, 1) := by decide +kernel
theorem dX1_placeAt_5 : decode cX1_placeAt 5 = .ok (.aload_n 0, 1) := by decide +kernel
theorem dX1_placeAt_6 : decode cX1_placeAt 6 = .ok (.getfield 11, 3) := by decide +kernel
theorem dX1_placeAt_9 : decode cX1_placeAt 9 = .ok (.arraylength, 1) := by decide +kernel
theorem dX1_placeAt_10 : decode cX1_placeAt 10 = .ok (.if_icmp .ge 12, 3) := by decide +kernel
theorem dX1_placeAt_13 : decode cX1_placeAt 13 = .ok (.aload_n 0, 1) := by decide +kernel
theorem dX1_placeAt_14 : decode cX1_placeAt 14 = .ok (.getfield 11, 3) := by decide +kernel
theorem dX1_placeAt_17 : decode cX1_placeAt 17 = .ok (.iload_n 1, 1) := by decide +kernel
theorem dX1_placeAt_18 : decode cX1_placeAt 18 = .ok (.aaload, 1) := by decide +kernel
theorem dX1_placeAt_19 : decode cX1_placeAt 19 = .ok (.goto 4, 3) := by decide +kernel
theorem dX1_placeAt_22 : decode cX1_placeAt 22 = .ok (.aconst_null, 1) := by decide +kernel
theorem dX1_placeAt_23 : decode cX1_placeAt 23 = .ok (.areturn, 1) := by decide +kernel
theorem dX2_init_0 : decode cX2_init 0 = .ok (.aload_n 0, 1) := by decide +kernel
theorem dX2_init_1 : decode cX2_init 1 = .ok (.invokespecial 3, 3) := by decide +kernel
theorem dX2_init_4 : decode cX2_init 4 = .ok (.aload_n 0, 1) := by decide +kernel
theorem dX2_init_5 : decode cX2_init 5 = .ok (.bipush 6, 2) := by decide +kernel
theorem dX2_init_7 : decode cX2_init 7 = .ok (.newarray .int, 2) := by decide +kernel
theorem dX2_init_9 : decode cX2_init 9 = .ok (.putfield 9, 3) := by decide +kernel
theorem dX2_init_12 : decode cX2_init 12 = .ok (.aload_n 0, 1) := by decide +kernel
theorem dX2_init_13 : decode cX2_init 13 = .ok (.bipush 6, 2) := by decide +kernel
theorem dX2_init_15 : decode cX2_init 15 = .ok (.newarray .int, 2) := by decide +kernel
theorem dX2_init_17 : decode cX2_init 17 = .ok (.putfield 15, 3) := by decide +kernel
theorem dX2_init_20 : decode cX2_init 20 = .ok (.aload_n 0, 1) := by decide +kernel
theorem dX2_init_21 : decode cX2_init 21 = .ok (.sipush 360, 3) := by decide +kernel
theorem dX2_init_24 : decode cX2_init 24 = .ok (.newarray .int, 2) := by decide +kernel
theorem dX2_init_26 : decode cX2_init 26 = .ok (.putfield 18, 3) := by decide +kernel
theorem dX2_init_29 : decode cX2_init 29 = .ok (.aload_n 0, 1) := by decide +kernel
theorem dX2_init_30 : decode cX2_init 30 = .ok (.bipush 7, 2) := by decide +kernel
theorem dX2_init_32 : decode cX2_init 32 = .ok (.newarray .int, 2) := by decide +kernel
theorem dX2_init_34 : decode cX2_init 34 = .ok (.putfield 21, 3) := by decide +kernel
theorem dX2_init_37 : decode cX2_init 37 = .ok (.iconst 0, 1) := by decide +kernel
theorem dX2_init_38 : decode cX2_init 38 = .ok (.istore_n 1, 1) := by decide +kernel
theorem dX2_init_39 : decode cX2_init 39 = .ok (.iload_n 1, 1) := by decide +kernel
theorem dX2_init_40 : decode cX2_init 40 = .ok (.aload_n 0, 1) := by decide +kernel
theorem dX2_init_41 : decode cX2_init 41 = .ok (.getfield 9, 3) := by decide +kernel
theorem dX2_init_44 : decode cX2_init 44 = .ok (.arraylength, 1) := by decide +kernel
theorem dX2_init_45 : decode cX2_init 45 = .ok (.if_icmp .ge 21, 3) := by decide +kernel
theorem dX2_init_48 : decode cX2_init 48 = .ok (.aload_n 0, 1) := by decide +kernel
theorem dX2_init_49 : decode cX2_init 49 = .ok (.getfield 9, 3) := by decide +kernel
theorem dX2_init_52 : decode cX2_init 52 = .ok (.iload_n 1, 1) := by decide +kernel
theorem dX2_init_53 : decode cX2_init 53 = .ok (.bipush 32, 2) := by decide +kernel
theorem dX2_init_55 : decode cX2_init 55 = .ok (.iconst 4, 1) := by decide +kernel
theorem dX2_init_56 : decode cX2_init 56 = .ok (.iload_n 1, 1) := by decide +kernel
theorem dX2_init_57 : decode cX2_init 57 = .ok (.imul, 1) := by decide +kernel
theorem dX2_init_58 : decode cX2_init 58 = .ok (.isub, 1) := by decide +kernel
theorem dX2_init_59 : decode cX2_init 59 = .ok (.iastore, 1) := by decide +kernel
theorem dX2_init_60 : decode cX2_init 60 = .ok (.iinc 1 1, 3) := by decide +kernel
theorem dX2_init_63 : decode cX2_init 63 = .ok (.goto (-24), 3) := by decide +kernel
theorem dX2_init_66 : decode cX2_init 66 = .ok (.iconst 1, 1) := by decide +kernel
theorem dX2_init_67 : decode cX2_init 67 = .ok (.istore_n 1, 1) := by decide +kernel
theorem dX2_init_68 : decode cX2_init 68 = .ok (.iload_n 1, 1) := by decide +kernel
theorem dX2_init_69 : decode cX2_init 69 = .ok (.aload_n 0, 1) := by decide +kernel
theorem dX2_init_70 : decode cX2_init 70 = .ok (.getfield 21, 3) := by decide +kernel
theorem dX2_init_73 : decode cX2_init 73 = .ok (.arraylength, 1) := by decide +kernel
theorem dX2_init_74 : decode cX2_init 74 = .ok (.if_icmp .ge 17, 3) := by decide +kernel
theorem dX2_init_77 : decode cX2_init 77 = .ok (.aload_n 0, 1) := by decide +kernel
theorem dX2_init_78 : decode cX2_init 78 = .ok (.getfield 21, 3) := by decide +kernel
theorem dX2_init_81 : decode cX2_init 81 = .ok (.iload_n 1, 1) := by decide +kernel
theorem dX2_init_82 : decode cX2_init 82 = .ok (.bipush 9, 2) := by decide +kernel
theorem dX2_init_84 : decode cX2_init 84 = .ok (.iastore, 1) := by decide +kernel
theorem dX2_init_85 : decode cX2_init 85 = .ok (.iinc 1 1, 3) := by decide +kernel
theorem dX2_init_88 : decode cX2_init 88 = .ok (.goto (-20), 3) := by decide +kernel
theorem dX2_init_91 : decode cX2_init 91 = .ok (.return_, 1) := by decide +kernel
set_option maxRecDepth 20000 in
theorem ggX2_become_X2_copy : GoodIn wsX2_become wsX2_copy := goodIn_r _ [11, 12, 13, 14, 15, 16, 17, 18, 19] (by decide +kernel) (by decide +kernel)
set_option maxRecDepth 20000 in
theorem gX2_become_X2_copy : GoodIn wsX2_become (va_wsS RX2 24 yX2_copy wsX2_copy) := goodIn_app (goodIn_of _ (by decide +kernel)) ggX2_become_X2_copy
theorem dX2_become_0 : decode cX2_become 0 = .ok (.aload_n 1, 1) := by decide +kernel
theorem dX2_become_1 : decode cX2_become 1 = .ok (.ifnonnull 4, 3) := by decide +kernel
theorem dX2_become_4 : decode cX2_become 4 = .ok (.return_, 1) := by decide +kernel
theorem dX2_become_5 : decode cX2_become 5 = .ok (.aload_n 1, 1) := by decide +kernel
theorem dX2_become_6 : decode cX2_become 6 = .ok (.getfield 9, 3) := by decide +kernel
theorem dX2_become_9 : decode cX2_become 9 = .ok (.aload_n 0, 1) := by decide +kernel
theorem dX2_become_10 : decode cX2_become 10 = .ok (.getfield 9, 3) := by decide +kernel
theorem dX2_become_13 : decode cX2_become 13 = .ok (.invokestatic 24, 3) := by decide +kernel
theorem dX2_become_16 : decode cX2_become 16 = .ok (.aload_n 1, 1) := by decide +kernel
theorem dX2_become_17 : decode cX2_become 17 = .ok (.getfield 15, 3) := by decide +kernel
theorem dX2_become_20 : decode cX2_become 20 = .ok (.aload_n 0, 1) := by decide +kernel
theorem dX2_become_21 : decode cX2_become 21 = .ok (.getfield 15, 3) := by decide +kernel
theorem dX2_become_24 : decode cX2_become 24 = .ok (.invokestatic 24, 3) := by decide +kernel
theorem dX2_become_27 : decode cX2_become 27 = .ok (.aload_n 1, 1) := by decide +kernel
theorem dX2_become_28 : decode cX2_become 28 = .ok (.getfield 18, 3) := by decide +kernel
theorem dX2_become_31 : decode cX2_become 31 = .ok (.aload_n 0, 1) := by decide +kernel
theorem dX2_become_32 : decode cX2_become 32 = .ok (.getfield 18, 3) := by decide +kernel
theorem dX2_become_35 : decode cX2_become 35 = .ok (.invokestatic 24, 3) := by decide +kernel
theorem dX2_become_38 : decode cX2_become 38 = .ok (.aload_n 1, 1) := by decide +kernel
theorem dX2_become_39 : decode cX2_become 39 = .ok (.getfield 21, 3) := by decide +kernel
theorem dX2_become_42 : decode cX2_become 42 = .ok (.aload_n 0, 1) := by decide +kernel
theorem dX2_become_43 : decode cX2_become 43 = .ok (.getfield 21, 3) := by decide +kernel
theorem dX2_become_46 : decode cX2_become 46 = .ok (.invokestatic 24, 3) := by decide +kernel
theorem dX2_become_49 : decode cX2_become 49 = .ok (.aload_n 0, 1) := by decide +kernel
theorem dX2_become_50 : decode cX2_become 50 = .ok (.aload_n 1, 1) := by decide +kernel
theorem dX2_become_51 : decode cX2_become 51 = .ok (.getfield 28, 3) := by decide +kernel
theorem dX2_become_54 : decode cX2_become 54 = .ok (.putfield 28, 3) := by decide +kernel
theorem dX2_become_57 : decode cX2_become 57 = .ok (.aload_n 0, 1) := by decide +kernel
theorem dX2_become_58 : decode cX2_become 58 = .ok (.aload_n 1, 1) := by decide +kernel
theorem dX2_become_59 : decode cX2_become 59 = .ok (.getfield 32, 3) := by decide +kernel
theorem dX2_become_62 : decode cX2_become 62 = .ok (.putfield 32, 3) := by decide +kernel
theorem dX2_become_65 : decode cX2_become 65 = .ok (.aload_n 0, 1) := by decide +kernel
theorem dX2_become_66 : decode cX2_become 66 = .ok (.aload_n 1, 1) := by decide +kernel
theorem dX2_become_67 : decode cX2_become 67 = .ok (.getfield 35, 3) := by decide +kernel
theorem dX2_become_70 : decode cX2_become 70 = .ok (.putfield 35, 3) := by decide +kernel
theorem dX2_become_73 : decode cX2_become 73 = .ok (.return_, 1) := by decide +kernel
theorem dX2_copy_0 : decode cX2_copy 0 = .ok (.aload_n 0, 1) := by decide +kernel
theorem dX2_copy_1 : decode cX2_copy 1 = .ok (.iconst 0, 1) := by decide +kernel
theorem dX2_copy_2 : decode cX2_copy 2 = .ok (.aload_n 1, 1) := by decide +kernel
theorem dX2_copy_3 : decode cX2_copy 3 = .ok (.iconst 0, 1) := by decide +kernel
theorem dX2_copy_4 : decode cX2_copy 4 = .ok (.aload_n 0, 1) := by decide +kernel
theorem dX2_copy_5 : decode cX2_copy 5 = .ok (.arraylength, 1) := by decide +kernel
theorem dX2_copy_6 : decode cX2_copy 6 = .ok (.aload_n 1, 1) := by decide +kernel
theorem dX2_copy_7 : decode cX2_copy 7 = .ok (.arraylength, 1) := by decide +kernel
theorem dX2_copy_8 : decode cX2_copy 8 = .ok (.invokestatic 38, 3) := by decide +kernel
theorem dX2_copy_11 : decode cX2_copy 11 = .ok (.invokestatic 44, 3) := by decide +kernel
theorem dX2_copy_14 : decode cX2_copy 14 = .ok (.return_, 1) := by decide +kernel
theorem dX2_isCourse_0 : decode cX2_isCourse 0 = .ok (.iload_n 0, 1) := by decide +kernel
theorem dX2_isCourse_1 : decode cX2_isCourse 1 = .ok (.ifCond .lt 13, 3) := by decide +kernel
theorem dX2_isCourse_4 : decode cX2_isCourse 4 = .ok (.iload_n 0, 1) := by decide +kernel
theorem dX2_isCourse_5 : decode cX2_isCourse 5 = .ok (.bipush 6, 2) := by decide +kernel
theorem dX2_isCourse_7 : decode cX2_isCourse 7 = .ok (.if_icmp .ge 7, 3) := by decide +kernel
theorem dX2_isCourse_10 : decode cX2_isCourse 10 = .ok (.iconst 1, 1) := by decide +kernel
theorem dX2_isCourse_11 : decode cX2_isCourse 11 = .ok (.goto 4, 3) := by decide +kernel
theorem dX2_isCourse_14 : decode cX2_isCourse 14 = .ok (.iconst 0, 1) := by decide +kernel
theorem dX2_isCourse_15 : decode cX2_isCourse 15 = .ok (.ireturn, 1) := by decide +kernel
theorem dX2_isSize_0 : decode cX2_isSize 0 = .ok (.iload_n 0, 1) := by decide +kernel
theorem dX2_isSize_1 : decode cX2_isSize 1 = .ok (.iconst 1, 1) := by decide +kernel
theorem dX2_isSize_2 : decode cX2_isSize 2 = .ok (.if_icmp .lt 13, 3) := by decide +kernel
theorem dX2_isSize_5 : decode cX2_isSize 5 = .ok (.iload_n 0, 1) := by decide +kernel
theorem dX2_isSize_6 : decode cX2_isSize 6 = .ok (.bipush 6, 2) := by decide +kernel
theorem dX2_isSize_8 : decode cX2_isSize 8 = .ok (.if_icmp .gt 7, 3) := by decide +kernel
theorem dX2_isSize_11 : decode cX2_isSize 11 = .ok (.iconst 1, 1) := by decide +kernel
theorem dX2_isSize_12 : decode cX2_isSize 12 = .ok (.goto 4, 3) := by decide +kernel
theorem dX2_isSize_15 : decode cX2_isSize 15 = .ok (.iconst 0, 1) := by decide +kernel
theorem dX2_isSize_16 : decode cX2_isSize 16 = .ok (.ireturn, 1) := by decide +kernel
theorem dX2_settingOf_0 : decode cX2_settingOf 0 = .ok (.iload_n 1, 1) := by decide +kernel
theorem dX2_settingOf_1 : decode cX2_settingOf 1 = .ok (.ifCond .ne 12, 3) := by decide +kernel
theorem dX2_settingOf_4 : decode cX2_settingOf 4 = .ok (.aload_n 0, 1) := by decide +kernel
theorem dX2_settingOf_5 : decode cX2_settingOf 5 = .ok (.getfield 9, 3) := by decide +kernel
theorem dX2_settingOf_8 : decode cX2_settingOf 8 = .ok (.iconst 0, 1) := by decide +kernel
theorem dX2_settingOf_9 : decode cX2_settingOf 9 = .ok (.iaload, 1) := by decide +kernel
theorem dX2_settingOf_10 : decode cX2_settingOf 10 = .ok (.goto 19, 3) := by decide +kernel
theorem dX2_settingOf_13 : decode cX2_settingOf 13 = .ok (.iload_n 1, 1) := by decide +kernel
theorem dX2_settingOf_14 : decode cX2_settingOf 14 = .ok (.iconst 1, 1) := by decide +kernel
theorem dX2_settingOf_15 : decode cX2_settingOf 15 = .ok (.if_icmp .ne 10, 3) := by decide +kernel
theorem dX2_settingOf_18 : decode cX2_settingOf 18 = .ok (.aload_n 0, 1) := by decide +kernel
theorem dX2_settingOf_19 : decode cX2_settingOf 19 = .ok (.getfield 28, 3) := by decide +kernel
theorem dX2_settingOf_22 : decode cX2_settingOf 22 = .ok (.goto 7, 3) := by decide +kernel
theorem dX2_settingOf_25 : decode cX2_settingOf 25 = .ok (.aload_n 0, 1) := by decide +kernel
theorem dX2_settingOf_26 : decode cX2_settingOf 26 = .ok (.getfield 32, 3) := by decide +kernel
theorem dX2_settingOf_29 : decode cX2_settingOf 29 = .ok (.ireturn, 1) := by decide +kernel
theorem dX2_changeSetting_0 : decode cX2_changeSetting 0 = .ok (.iload_n 1, 1) := by decide +kernel
theorem dX2_changeSetting_1 : decode cX2_changeSetting 1 = .ok (.ifCond .ne 34, 3) := by decide +kernel
theorem dX2_changeSetting_4 : decode cX2_changeSetting 4 = .ok (.iconst 0, 1) := by decide +kernel
theorem dX2_changeSetting_5 : decode cX2_changeSetting 5 = .ok (.istore_n 3, 1) := by decide +kernel
theorem dX2_changeSetting_6 : decode cX2_changeSetting 6 = .ok (.iload_n 3, 1) := by decide +kernel
theorem dX2_changeSetting_7 : decode cX2_changeSetting 7 = .ok (.aload_n 0, 1) := by decide +kernel
theorem dX2_changeSetting_8 : decode cX2_changeSetting 8 = .ok (.getfield 9, 3) := by decide +kernel
theorem dX2_changeSetting_11 : decode cX2_changeSetting 11 = .ok (.arraylength, 1) := by decide +kernel
theorem dX2_changeSetting_12 : decode cX2_changeSetting 12 = .ok (.if_icmp .ge 20, 3) := by decide +kernel
theorem dX2_changeSetting_15 : decode cX2_changeSetting 15 = .ok (.aload_n 0, 1) := by decide +kernel
theorem dX2_changeSetting_16 : decode cX2_changeSetting 16 = .ok (.getfield 9, 3) := by decide +kernel
theorem dX2_changeSetting_19 : decode cX2_changeSetting 19 = .ok (.iload_n 3, 1) := by decide +kernel
theorem dX2_changeSetting_20 : decode cX2_changeSetting 20 = .ok (.iload_n 2, 1) := by decide +kernel
theorem dX2_changeSetting_21 : decode cX2_changeSetting 21 = .ok (.iconst 4, 1) := by decide +kernel
theorem dX2_changeSetting_22 : decode cX2_changeSetting 22 = .ok (.iload_n 3, 1) := by decide +kernel
theorem dX2_changeSetting_23 : decode cX2_changeSetting 23 = .ok (.imul, 1) := by decide +kernel
theorem dX2_changeSetting_24 : decode cX2_changeSetting 24 = .ok (.isub, 1) := by decide +kernel
theorem dX2_changeSetting_25 : decode cX2_changeSetting 25 = .ok (.iastore, 1) := by decide +kernel
theorem dX2_changeSetting_26 : decode cX2_changeSetting 26 = .ok (.iinc 3 1, 3) := by decide +kernel
theorem dX2_changeSetting_29 : decode cX2_changeSetting 29 = .ok (.goto (-23), 3) := by decide +kernel
theorem dX2_changeSetting_32 : decode cX2_changeSetting 32 = .ok (.goto 21, 3) := by decide +kernel
theorem dX2_changeSetting_35 : decode cX2_changeSetting 35 = .ok (.iload_n 1, 1) := by decide +kernel
theorem dX2_changeSetting_36 : decode cX2_changeSetting 36 = .ok (.iconst 1, 1) := by decide +kernel
theorem dX2_changeSetting_37 : decode cX2_changeSetting 37 = .ok (.if_icmp .ne 11, 3) := by decide +kernel
theorem dX2_changeSetting_40 : decode cX2_changeSetting 40 = .ok (.aload_n 0, 1) := by decide +kernel
theorem dX2_changeSetting_41 : decode cX2_changeSetting 41 = .ok (.iload_n 2, 1) := by decide +kernel
theorem dX2_changeSetting_42 : decode cX2_changeSetting 42 = .ok (.putfield 28, 3) := by decide +kernel
theorem dX2_changeSetting_45 : decode cX2_changeSetting 45 = .ok (.goto 8, 3) := by decide +kernel
theorem dX2_changeSetting_48 : decode cX2_changeSetting 48 = .ok (.aload_n 0, 1) := by decide +kernel
theorem dX2_changeSetting_49 : decode cX2_changeSetting 49 = .ok (.iload_n 2, 1) := by decide +kernel
theorem dX2_changeSetting_50 : decode cX2_changeSetting 50 = .ok (.putfield 32, 3) := by decide +kernel
theorem dX2_changeSetting_53 : decode cX2_changeSetting 53 = .ok (.return_, 1) := by decide +kernel
theorem dX2_inStock_0 : decode cX2_inStock 0 = .ok (.iload_n 1, 1) := by decide +kernel
theorem dX2_inStock_1 : decode cX2_inStock 1 = .ok (.iconst 1, 1) := by decide +kernel
theorem dX2_inStock_2 : decode cX2_inStock 2 = .ok (.if_icmp .lt 18, 3) := by decide +kernel
theorem dX2_inStock_5 : decode cX2_inStock 5 = .ok (.iload_n 1, 1) := by decide +kernel
theorem dX2_inStock_6 : decode cX2_inStock 6 = .ok (.bipush 6, 2) := by decide +kernel
theorem dX2_inStock_8 : decode cX2_inStock 8 = .ok (.if_icmp .gt 12, 3) := by decide +kernel
theorem dX2_inStock_11 : decode cX2_inStock 11 = .ok (.aload_n 0, 1) := by decide +kernel
theorem dX2_inStock_12 : decode cX2_inStock 12 = .ok (.getfield 21, 3) := by decide +kernel
theorem dX2_inStock_15 : decode cX2_inStock 15 = .ok (.iload_n 1, 1) := by decide +kernel
theorem dX2_inStock_16 : decode cX2_inStock 16 = .ok (.iaload, 1) := by decide +kernel
theorem dX2_inStock_17 : decode cX2_inStock 17 = .ok (.goto 4, 3) := by decide +kernel
theorem dX2_inStock_20 : decode cX2_inStock 20 = .ok (.iconst 0, 1) := by decide +kernel
theorem dX2_inStock_21 : decode cX2_inStock 21 = .ok (.ireturn, 1) := by decide +kernel
set_option maxRecDepth 20000 in
theorem ggX2_changeStock_X2_isSize : GoodIn wsX2_changeStock wsX2_isSize := goodIn_r _ [5] (by decide +kernel) (by decide +kernel)
set_option maxRecDepth 20000 in
theorem gX2_changeStock_X2_isSize : GoodIn wsX2_changeStock (va_wsS RX2 50 yX2_isSize wsX2_isSize) := goodIn_app (goodIn_of _ (by decide +kernel)) ggX2_changeStock_X2_isSize
theorem dX2_changeStock_0 : decode cX2_changeStock 0 = .ok (.iload_n 1, 1) := by decide +kernel
theorem dX2_changeStock_1 : decode cX2_changeStock 1 = .ok (.invokestatic 50, 3) := by decide +kernel
theorem dX2_changeStock_4 : decode cX2_changeStock 4 = .ok (.ifCond .ne 5, 3) := by decide +kernel
theorem dX2_changeStock_7 : decode cX2_changeStock 7 = .ok (.iconst 0, 1) := by decide +kernel
theorem dX2_changeStock_8 : decode cX2_changeStock 8 = .ok (.ireturn, 1) := by decide +kernel
theorem dX2_changeStock_9 : decode cX2_changeStock 9 = .ok (.aload_n 0, 1) := by decide +kernel
theorem dX2_changeStock_10 : decode cX2_changeStock 10 = .ok (.getfield 21, 3) := by decide +kernel
theorem dX2_changeStock_13 : decode cX2_changeStock 13 = .ok (.iload_n 1, 1) := by decide +kernel
theorem dX2_changeStock_14 : decode cX2_changeStock 14 = .ok (.iaload, 1) := by decide +kernel
theorem dX2_changeStock_15 : decode cX2_changeStock 15 = .ok (.istore_n 3, 1) := by decide +kernel
theorem dX2_changeStock_16 : decode cX2_changeStock 16 = .ok (.aload_n 0, 1) := by decide +kernel
theorem dX2_changeStock_17 : decode cX2_changeStock 17 = .ok (.getfield 21, 3) := by decide +kernel
theorem dX2_changeStock_20 : decode cX2_changeStock 20 = .ok (.iload_n 1, 1) := by decide +kernel
theorem dX2_changeStock_21 : decode cX2_changeStock 21 = .ok (.iload_n 2, 1) := by decide +kernel
theorem dX2_changeStock_22 : decode cX2_changeStock 22 = .ok (.iastore, 1) := by decide +kernel
theorem dX2_changeStock_23 : decode cX2_changeStock 23 = .ok (.iload_n 3, 1) := by decide +kernel
theorem dX2_changeStock_24 : decode cX2_changeStock 24 = .ok (.ireturn, 1) := by decide +kernel
theorem dX2_wasted_0 : decode cX2_wasted 0 = .ok (.aload_n 0, 1) := by decide +kernel
theorem dX2_wasted_1 : decode cX2_wasted 1 = .ok (.getfield 35, 3) := by decide +kernel
theorem dX2_wasted_4 : decode cX2_wasted 4 = .ok (.ireturn, 1) := by decide +kernel
set_option maxRecDepth 20000 in
theorem ggX2_cellsOf_X2_isCourse : GoodIn wsX2_cellsOf wsX2_isCourse := goodIn_r _ [5] (by decide +kernel) (by decide +kernel)
set_option maxRecDepth 20000 in
theorem gX2_cellsOf_X2_isCourse : GoodIn wsX2_cellsOf (va_wsS RX2 54 yX2_isCourse wsX2_isCourse) := goodIn_app (goodIn_of _ (by decide +kernel)) ggX2_cellsOf_X2_isCourse
theorem dX2_cellsOf_0 : decode cX2_cellsOf 0 = .ok (.iload_n 1, 1) := by decide +kernel
theorem dX2_cellsOf_1 : decode cX2_cellsOf 1 = .ok (.invokestatic 54, 3) := by decide +kernel
theorem dX2_cellsOf_4 : decode cX2_cellsOf 4 = .ok (.ifCond .eq 12, 3) := by decide +kernel
theorem dX2_cellsOf_7 : decode cX2_cellsOf 7 = .ok (.aload_n 0, 1) := by decide +kernel
theorem dX2_cellsOf_8 : decode cX2_cellsOf 8 = .ok (.getfield 9, 3) := by decide +kernel
theorem dX2_cellsOf_11 : decode cX2_cellsOf 11 = .ok (.iload_n 1, 1) := by decide +kernel
theorem dX2_cellsOf_12 : decode cX2_cellsOf 12 = .ok (.iaload, 1) := by decide +kernel
theorem dX2_cellsOf_13 : decode cX2_cellsOf 13 = .ok (.goto 4, 3) := by decide +kernel
theorem dX2_cellsOf_16 : decode cX2_cellsOf 16 = .ok (.iconst 0, 1) := by decide +kernel
theorem dX2_cellsOf_17 : decode cX2_cellsOf 17 = .ok (.ireturn, 1) := by decide +kernel
set_option maxRecDepth 20000 in
theorem ggX2_takenOf_X2_isCourse : GoodIn wsX2_takenOf wsX2_isCourse := goodIn_r _ [5] (by decide +kernel) (by decide +kernel)
set_option maxRecDepth 20000 in
theorem gX2_takenOf_X2_isCourse : GoodIn wsX2_takenOf (va_wsS RX2 54 yX2_isCourse wsX2_isCourse) := goodIn_app (goodIn_of _ (by decide +kernel)) ggX2_takenOf_X2_isCourse
theorem dX2_takenOf_0 : decode cX2_takenOf 0 = .ok (.iload_n 1, 1) := by decide +kernel
theorem dX2_takenOf_1 : decode cX2_takenOf 1 = .ok (.invokestatic 54, 3) := by decide +kernel
theorem dX2_takenOf_4 : decode cX2_takenOf 4 = .ok (.ifCond .eq 12, 3) := by decide +kernel
theorem dX2_takenOf_7 : decode cX2_takenOf 7 = .ok (.aload_n 0, 1) := by decide +kernel
theorem dX2_takenOf_8 : decode cX2_takenOf 8 = .ok (.getfield 15, 3) := by decide +kernel
theorem dX2_takenOf_11 : decode cX2_takenOf 11 = .ok (.iload_n 1, 1) := by decide +kernel
theorem dX2_takenOf_12 : decode cX2_takenOf 12 = .ok (.iaload, 1) := by decide +kernel
theorem dX2_takenOf_13 : decode cX2_takenOf 13 = .ok (.goto 4, 3) := by decide +kernel
theorem dX2_takenOf_16 : decode cX2_takenOf 16 = .ok (.iconst 0, 1) := by decide +kernel
theorem dX2_takenOf_17 : decode cX2_takenOf 17 = .ok (.ireturn, 1) := by decide +kernel
set_option maxRecDepth 20000 in
theorem ggX2_freeOf_X2_isCourse : GoodIn wsX2_freeOf wsX2_isCourse := goodIn_r _ [6] (by decide +kernel) (by decide +kernel)
set_option maxRecDepth 20000 in
theorem gX2_freeOf_X2_isCourse : GoodIn wsX2_freeOf (va_wsS RX2 54 yX2_isCourse wsX2_isCourse) := goodIn_app (goodIn_of _ (by decide +kernel)) ggX2_freeOf_X2_isCourse
theorem dX2_freeOf_0 : decode cX2_freeOf 0 = .ok (.iload_n 1, 1) := by decide +kernel
theorem dX2_freeOf_1 : decode cX2_freeOf 1 = .ok (.invokestatic 54, 3) := by decide +kernel
theorem dX2_freeOf_4 : decode cX2_freeOf 4 = .ok (.ifCond .eq 19, 3) := by decide +kernel
theorem dX2_freeOf_7 : decode cX2_freeOf 7 = .ok (.aload_n 0, 1) := by decide +kernel
theorem dX2_freeOf_8 : decode cX2_freeOf 8 = .ok (.getfield 9, 3) := by decide +kernel
theorem dX2_freeOf_11 : decode cX2_freeOf 11 = .ok (.iload_n 1, 1) := by decide +kernel
theorem dX2_freeOf_12 : decode cX2_freeOf 12 = .ok (.iaload, 1) := by decide +kernel
theorem dX2_freeOf_13 : decode cX2_freeOf 13 = .ok (.aload_n 0, 1) := by decide +kernel
theorem dX2_freeOf_14 : decode cX2_freeOf 14 = .ok (.getfield 15, 3) := by decide +kernel
theorem dX2_freeOf_17 : decode cX2_freeOf 17 = .ok (.iload_n 1, 1) := by decide +kernel
theorem dX2_freeOf_18 : decode cX2_freeOf 18 = .ok (.iaload, 1) := by decide +kernel
theorem dX2_freeOf_19 : decode cX2_freeOf 19 = .ok (.isub, 1) := by decide +kernel
theorem dX2_freeOf_20 : decode cX2_freeOf 20 = .ok (.goto 4, 3) := by decide +kernel
theorem dX2_freeOf_23 : decode cX2_freeOf 23 = .ok (.iconst 0, 1) := by decide +kernel
theorem dX2_freeOf_24 : decode cX2_freeOf 24 = .ok (.ireturn, 1) := by decide +kernel
theorem dX2_meets_0 : decode cX2_meets 0 = .ok (.iload_n 1, 1) := by decide +kernel
theorem dX2_meets_1 : decode cX2_meets 1 = .ok (.iconst 1, 1) := by decide +kernel
theorem dX2_meets_2 : decode cX2_meets 2 = .ok (.if_icmp .lt 19, 3) := by decide +kernel
theorem dX2_meets_5 : decode cX2_meets 5 = .ok (.iload_n 1, 1) := by decide +kernel
theorem dX2_meets_6 : decode cX2_meets 6 = .ok (.bipush 6, 2) := by decide +kernel
theorem dX2_meets_8 : decode cX2_meets 8 = .ok (.if_icmp .ge 13, 3) := by decide +kernel
theorem dX2_meets_11 : decode cX2_meets 11 = .ok (.aload_n 0, 1) := by decide +kernel
theorem dX2_meets_12 : decode cX2_meets 12 = .ok (.getfield 9, 3) := by decide +kernel
theorem dX2_meets_15 : decode cX2_meets 15 = .ok (.iload_n 1, 1) := by decide +kernel
theorem dX2_meets_16 : decode cX2_meets 16 = .ok (.iaload, 1) := by decide +kernel
theorem dX2_meets_17 : decode cX2_meets 17 = .ok (.iconst 1, 1) := by decide +kernel
theorem dX2_meets_18 : decode cX2_meets 18 = .ok (.if_icmp .ge 5, 3) := by decide +kernel
theorem dX2_meets_21 : decode cX2_meets 21 = .ok (.iconst (-1), 1) := by decide +kernel
theorem dX2_meets_22 : decode cX2_meets 22 = .ok (.ireturn, 1) := by decide +kernel
theorem dX2_meets_23 : decode cX2_meets 23 = .ok (.iload_n 2, 1) := by decide +kernel
theorem dX2_meets_24 : decode cX2_meets 24 = .ok (.aload_n 0, 1) := by decide +kernel
theorem dX2_meets_25 : decode cX2_meets 25 = .ok (.getfield 9, 3) := by decide +kernel
theorem dX2_meets_28 : decode cX2_meets 28 = .ok (.iload_n 1, 1) := by decide +kernel
theorem dX2_meets_29 : decode cX2_meets 29 = .ok (.iconst 1, 1) := by decide +kernel
theorem dX2_meets_30 : decode cX2_meets 30 = .ok (.isub, 1) := by decide +kernel
theorem dX2_meets_31 : decode cX2_meets 31 = .ok (.iaload, 1) := by decide +kernel
theorem dX2_meets_32 : decode cX2_meets 32 = .ok (.imul, 1) := by decide +kernel
theorem dX2_meets_33 : decode cX2_meets 33 = .ok (.aload_n 0, 1) := by decide +kernel
theorem dX2_meets_34 : decode cX2_meets 34 = .ok (.getfield 9, 3) := by decide +kernel
theorem dX2_meets_37 : decode cX2_meets 37 = .ok (.iload_n 1, 1) := by decide +kernel
theorem dX2_meets_38 : decode cX2_meets 38 = .ok (.iaload, 1) := by decide +kernel
theorem dX2_meets_39 : decode cX2_meets 39 = .ok (.idiv, 1) := by decide +kernel
theorem dX2_meets_40 : decode cX2_meets 40 = .ok (.ireturn, 1) := by decide +kernel
theorem dX2_hasJoint_0 : decode cX2_hasJoint 0 = .ok (.iload_n 1, 1) := by decide +kernel
theorem dX2_hasJoint_1 : decode cX2_hasJoint 1 = .ok (.ifCond .lt 29, 3) := by decide +kernel
theorem dX2_hasJoint_4 : decode cX2_hasJoint 4 = .ok (.iload_n 1, 1) := by decide +kernel
theorem dX2_hasJoint_5 : decode cX2_hasJoint 5 = .ok (.bipush 6, 2) := by decide +kernel
theorem dX2_hasJoint_7 : decode cX2_hasJoint 7 = .ok (.if_icmp .ge 23, 3) := by decide +kernel
theorem dX2_hasJoint_10 : decode cX2_hasJoint 10 = .ok (.iload_n 2, 1) := by decide +kernel
theorem dX2_hasJoint_11 : decode cX2_hasJoint 11 = .ok (.ifCond .lt 19, 3) := by decide +kernel
theorem dX2_hasJoint_14 : decode cX2_hasJoint 14 = .ok (.iload_n 2, 1) := by decide +kernel
theorem dX2_hasJoint_15 : decode cX2_hasJoint 15 = .ok (.bipush 60, 2) := by decide +kernel
theorem dX2_hasJoint_17 : decode cX2_hasJoint 17 = .ok (.if_icmp .ge 13, 3) := by decide +kernel
theorem dX2_hasJoint_20 : decode cX2_hasJoint 20 = .ok (.iload_n 2, 1) := by decide +kernel
theorem dX2_hasJoint_21 : decode cX2_hasJoint 21 = .ok (.aload_n 0, 1) := by decide +kernel
theorem dX2_hasJoint_22 : decode cX2_hasJoint 22 = .ok (.getfield 9, 3) := by decide +kernel
theorem dX2_hasJoint_25 : decode cX2_hasJoint 25 = .ok (.iload_n 1, 1) := by decide +kernel
theorem dX2_hasJoint_26 : decode cX2_hasJoint 26 = .ok (.iaload, 1) := by decide +kernel
theorem dX2_hasJoint_27 : decode cX2_hasJoint 27 = .ok (.if_icmp .lt 5, 3) := by decide +kernel
theorem dX2_hasJoint_30 : decode cX2_hasJoint 30 = .ok (.iconst 0, 1) := by decide +kernel
theorem dX2_hasJoint_31 : decode cX2_hasJoint 31 = .ok (.ireturn, 1) := by decide +kernel
theorem dX2_hasJoint_32 : decode cX2_hasJoint 32 = .ok (.iload_n 2, 1) := by decide +kernel
theorem dX2_hasJoint_33 : decode cX2_hasJoint 33 = .ok (.ifCond .le 17, 3) := by decide +kernel
theorem dX2_hasJoint_36 : decode cX2_hasJoint 36 = .ok (.iload_n 2, 1) := by decide +kernel
theorem dX2_hasJoint_37 : decode cX2_hasJoint 37 = .ok (.aload_n 0, 1) := by decide +kernel
theorem dX2_hasJoint_38 : decode cX2_hasJoint 38 = .ok (.getfield 15, 3) := by decide +kernel
theorem dX2_hasJoint_41 : decode cX2_hasJoint 41 = .ok (.iload_n 1, 1) := by decide +kernel
theorem dX2_hasJoint_42 : decode cX2_hasJoint 42 = .ok (.iaload, 1) := by decide +kernel
theorem dX2_hasJoint_43 : decode cX2_hasJoint 43 = .ok (.if_icmp .ne 7, 3) := by decide +kernel
theorem dX2_hasJoint_46 : decode cX2_hasJoint 46 = .ok (.iconst 1, 1) := by decide +kernel
theorem dX2_hasJoint_47 : decode cX2_hasJoint 47 = .ok (.goto 4, 3) := by decide +kernel
theorem dX2_hasJoint_50 : decode cX2_hasJoint 50 = .ok (.iconst 0, 1) := by decide +kernel
theorem dX2_hasJoint_51 : decode cX2_hasJoint 51 = .ok (.istore_n 3, 1) := by decide +kernel
theorem dX2_hasJoint_52 : decode cX2_hasJoint 52 = .ok (.iload_n 3, 1) := by decide +kernel
theorem dX2_hasJoint_53 : decode cX2_hasJoint 53 = .ok (.ifCond .ne 17, 3) := by decide +kernel
theorem dX2_hasJoint_56 : decode cX2_hasJoint 56 = .ok (.aload_n 0, 1) := by decide +kernel
theorem dX2_hasJoint_57 : decode cX2_hasJoint 57 = .ok (.getfield 18, 3) := by decide +kernel
theorem dX2_hasJoint_60 : decode cX2_hasJoint 60 = .ok (.iload_n 1, 1) := by decide +kernel
theorem dX2_hasJoint_61 : decode cX2_hasJoint 61 = .ok (.bipush 60, 2) := by decide +kernel
theorem dX2_hasJoint_63 : decode cX2_hasJoint 63 = .ok (.imul, 1) := by decide +kernel
theorem dX2_hasJoint_64 : decode cX2_hasJoint 64 = .ok (.iload_n 2, 1) := by decide +kernel
theorem dX2_hasJoint_65 : decode cX2_hasJoint 65 = .ok (.iadd, 1) := by decide +kernel
theorem dX2_hasJoint_66 : decode cX2_hasJoint 66 = .ok (.iaload, 1) := by decide +kernel
theorem dX2_hasJoint_67 : decode cX2_hasJoint 67 = .ok (.ifCond .eq 7, 3) := by decide +kernel
theorem dX2_hasJoint_70 : decode cX2_hasJoint 70 = .ok (.iconst 1, 1) := by decide +kernel
theorem dX2_hasJoint_71 : decode cX2_hasJoint 71 = .ok (.goto 4, 3) := by decide +kernel
theorem dX2_hasJoint_74 : decode cX2_hasJoint 74 = .ok (.iconst 0, 1) := by decide +kernel
theorem dX2_hasJoint_75 : decode cX2_hasJoint 75 = .ok (.ireturn, 1) := by decide +kernel
set_option maxRecDepth 20000 in
theorem ggX2_runsThrough_X2_meets : GoodIn wsX2_runsThrough wsX2_meets := goodIn_r _ [5, 6, 13, 14, 15, 16, 17, 18, 19] (by decide +kernel) (by decide +kernel)
set_option maxRecDepth 20000 in
theorem gX2_runsThrough_X2_meets : GoodIn wsX2_runsThrough (wsV RX2 57 RX2 yX2_meets wsX2_meets) := goodIn_app (goodIn_of _ (by decide +kernel)) ggX2_runsThrough_X2_meets
set_option maxRecDepth 20000 in
theorem ggX2_runsThrough_X2_hasJoint : GoodIn wsX2_runsThrough wsX2_hasJoint := goodIn_r _ [10, 6, 11, 12, 13, 14, 15, 16, 17, 18, 19] (by decide +kernel) (by decide +kernel)
set_option maxRecDepth 20000 in
theorem gX2_runsThrough_X2_hasJoint : GoodIn wsX2_runsThrough (wsV RX2 60 RX2 yX2_hasJoint wsX2_hasJoint) := goodIn_app (goodIn_of _ (by decide +kernel)) ggX2_runsThrough_X2_hasJoint
theorem dX2_runsThrough_0 : decode cX2_runsThrough 0 = .ok (.iload_n 1, 1) := by decide +kernel
theorem dX2_runsThrough_1 : decode cX2_runsThrough 1 = .ok (.iconst 2, 1) := by decide +kernel
theorem dX2_runsThrough_2 : decode cX2_runsThrough 2 = .ok (.if_icmp .lt 8, 3) := by decide +kernel
theorem dX2_runsThrough_5 : decode cX2_runsThrough 5 = .ok (.iload_n 2, 1) := by decide +kernel
theorem dX2_runsThrough_6 : decode cX2_runsThrough 6 = .ok (.iconst 1, 1) := by decide +kernel
theorem dX2_runsThrough_7 : decode cX2_runsThrough 7 = .ok (.if_icmp .ge 5, 3) := by decide +kernel
theorem dX2_runsThrough_10 : decode cX2_runsThrough 10 = .ok (.iconst 0, 1) := by decide +kernel
theorem dX2_runsThrough_11 : decode cX2_runsThrough 11 = .ok (.ireturn, 1) := by decide +kernel
theorem dX2_runsThrough_12 : decode cX2_runsThrough 12 = .ok (.aload_n 0, 1) := by decide +kernel
theorem dX2_runsThrough_13 : decode cX2_runsThrough 13 = .ok (.iload_n 1, 1) := by decide +kernel
theorem dX2_runsThrough_14 : decode cX2_runsThrough 14 = .ok (.iload_n 2, 1) := by decide +kernel
theorem dX2_runsThrough_15 : decode cX2_runsThrough 15 = .ok (.invokevirtual 57, 3) := by decide +kernel
theorem dX2_runsThrough_18 : decode cX2_runsThrough 18 = .ok (.istore_n 3, 1) := by decide +kernel
theorem dX2_runsThrough_19 : decode cX2_runsThrough 19 = .ok (.aload_n 0, 1) := by decide +kernel
theorem dX2_runsThrough_20 : decode cX2_runsThrough 20 = .ok (.iload_n 1, 1) := by decide +kernel
theorem dX2_runsThrough_21 : decode cX2_runsThrough 21 = .ok (.iconst 1, 1) := by decide +kernel
theorem dX2_runsThrough_22 : decode cX2_runsThrough 22 = .ok (.isub, 1) := by decide +kernel
theorem dX2_runsThrough_23 : decode cX2_runsThrough 23 = .ok (.iload_n 3, 1) := by decide +kernel
theorem dX2_runsThrough_24 : decode cX2_runsThrough 24 = .ok (.invokevirtual 60, 3) := by decide +kernel
theorem dX2_runsThrough_27 : decode cX2_runsThrough 27 = .ok (.ifCond .eq 25, 3) := by decide +kernel
theorem dX2_runsThrough_30 : decode cX2_runsThrough 30 = .ok (.aload_n 0, 1) := by decide +kernel
theorem dX2_runsThrough_31 : decode cX2_runsThrough 31 = .ok (.iload_n 1, 1) := by decide +kernel
theorem dX2_runsThrough_32 : decode cX2_runsThrough 32 = .ok (.iconst 2, 1) := by decide +kernel
theorem dX2_runsThrough_33 : decode cX2_runsThrough 33 = .ok (.isub, 1) := by decide +kernel
theorem dX2_runsThrough_34 : decode cX2_runsThrough 34 = .ok (.aload_n 0, 1) := by decide +kernel
theorem dX2_runsThrough_35 : decode cX2_runsThrough 35 = .ok (.iload_n 1, 1) := by decide +kernel
theorem dX2_runsThrough_36 : decode cX2_runsThrough 36 = .ok (.iconst 1, 1) := by decide +kernel
theorem dX2_runsThrough_37 : decode cX2_runsThrough 37 = .ok (.isub, 1) := by decide +kernel
theorem dX2_runsThrough_38 : decode cX2_runsThrough 38 = .ok (.iload_n 3, 1) := by decide +kernel
theorem dX2_runsThrough_39 : decode cX2_runsThrough 39 = .ok (.invokevirtual 57, 3) := by decide +kernel
theorem dX2_runsThrough_42 : decode cX2_runsThrough 42 = .ok (.invokevirtual 60, 3) := by decide +kernel
theorem dX2_runsThrough_45 : decode cX2_runsThrough 45 = .ok (.ifCond .eq 7, 3) := by decide +kernel
theorem dX2_runsThrough_48 : decode cX2_runsThrough 48 = .ok (.iconst 1, 1) := by decide +kernel
theorem dX2_runsThrough_49 : decode cX2_runsThrough 49 = .ok (.goto 4, 3) := by decide +kernel
theorem dX2_runsThrough_52 : decode cX2_runsThrough 52 = .ok (.iconst 0, 1) := by decide +kernel
theorem dX2_runsThrough_53 : decode cX2_runsThrough 53 = .ok (.ireturn, 1) := by decide +kernel
set_option maxRecDepth 20000 in
theorem ggX2_sourceOf_X2_inStock : GoodIn wsX2_sourceOf wsX2_inStock := goodIn_r _ [5, 6, 7, 8, 9, 10, 11, 12, 13] (by decide +kernel) (by decide +kernel)
set_option maxRecDepth 20000 in
theorem gX2_sourceOf_X2_inStock : GoodIn wsX2_sourceOf (wsV RX2 64 RX2 yX2_inStock wsX2_inStock) := goodIn_app (goodIn_of _ (by decide +kernel)) ggX2_sourceOf_X2_inStock
theorem dX2_sourceOf_0 : decode cX2_sourceOf 0 = .ok (.iload_n 2, 1) := by decide +kernel
theorem dX2_sourceOf_1 : decode cX2_sourceOf 1 = .ok (.ifCond .ne 17, 3) := by decide +kernel
theorem dX2_sourceOf_4 : decode cX2_sourceOf 4 = .ok (.aload_n 0, 1) := by decide +kernel
theorem dX2_sourceOf_5 : decode cX2_sourceOf 5 = .ok (.iload_n 1, 1) := by decide +kernel
theorem dX2_sourceOf_6 : decode cX2_sourceOf 6 = .ok (.invokevirtual 64, 3) := by decide +kernel
theorem dX2_sourceOf_9 : decode cX2_sourceOf 9 = .ok (.ifCond .le 7, 3) := by decide +kernel
theorem dX2_sourceOf_12 : decode cX2_sourceOf 12 = .ok (.iload_n 1, 1) := by decide +kernel
theorem dX2_sourceOf_13 : decode cX2_sourceOf 13 = .ok (.goto 4, 3) := by decide +kernel
theorem dX2_sourceOf_16 : decode cX2_sourceOf 16 = .ok (.iconst 0, 1) := by decide +kernel
theorem dX2_sourceOf_17 : decode cX2_sourceOf 17 = .ok (.ireturn, 1) := by decide +kernel
theorem dX2_sourceOf_18 : decode cX2_sourceOf 18 = .ok (.iload_n 1, 1) := by decide +kernel
theorem dX2_sourceOf_19 : decode cX2_sourceOf 19 = .ok (.iconst 1, 1) := by decide +kernel
theorem dX2_sourceOf_20 : decode cX2_sourceOf 20 = .ok (.iadd, 1) := by decide +kernel
theorem dX2_sourceOf_21 : decode cX2_sourceOf 21 = .ok (.istore_n 3, 1) := by decide +kernel
theorem dX2_sourceOf_22 : decode cX2_sourceOf 22 = .ok (.iload_n 3, 1) := by decide +kernel
theorem dX2_sourceOf_23 : decode cX2_sourceOf 23 = .ok (.bipush 6, 2) := by decide +kernel
theorem dX2_sourceOf_25 : decode cX2_sourceOf 25 = .ok (.if_icmp .gt 19, 3) := by decide +kernel
theorem dX2_sourceOf_28 : decode cX2_sourceOf 28 = .ok (.aload_n 0, 1) := by decide +kernel
theorem dX2_sourceOf_29 : decode cX2_sourceOf 29 = .ok (.iload_n 3, 1) := by decide +kernel
theorem dX2_sourceOf_30 : decode cX2_sourceOf 30 = .ok (.invokevirtual 64, 3) := by decide +kernel
theorem dX2_sourceOf_33 : decode cX2_sourceOf 33 = .ok (.ifCond .le 5, 3) := by decide +kernel
theorem dX2_sourceOf_36 : decode cX2_sourceOf 36 = .ok (.iload_n 3, 1) := by decide +kernel
theorem dX2_sourceOf_37 : decode cX2_sourceOf 37 = .ok (.ireturn, 1) := by decide +kernel
theorem dX2_sourceOf_38 : decode cX2_sourceOf 38 = .ok (.iinc 3 1, 3) := by decide +kernel
theorem dX2_sourceOf_41 : decode cX2_sourceOf 41 = .ok (.goto (-19), 3) := by decide +kernel
theorem dX2_sourceOf_44 : decode cX2_sourceOf 44 = .ok (.iconst 0, 1) := by decide +kernel
theorem dX2_sourceOf_45 : decode cX2_sourceOf 45 = .ok (.ireturn, 1) := by decide +kernel
set_option maxRecDepth 20000 in
theorem ggX2_reasonAgainst_X2_freeOf : GoodIn wsX2_reasonAgainst wsX2_freeOf := goodIn_r _ [5, 6, 7, 8, 9, 4, 10, 37, 38, 39, 40, 41, 42, 43] (by decide +kernel) (by decide +kernel)
set_option maxRecDepth 20000 in
theorem gX2_reasonAgainst_X2_freeOf : GoodIn wsX2_reasonAgainst (wsV RX2 68 RX2 yX2_freeOf wsX2_freeOf) := goodIn_app (goodIn_of _ (by decide +kernel)) ggX2_reasonAgainst_X2_freeOf
set_option maxRecDepth 20000 in
theorem ggX2_reasonAgainst_X2_sourceOf : GoodIn wsX2_reasonAgainst wsX2_sourceOf := goodIn_r _ [14, 15, 16, 17, 4, 18, 19, 37, 38, 39, 40, 41, 42, 43] (by decide +kernel) (by decide +kernel)
set_option maxRecDepth 20000 in
theorem gX2_reasonAgainst_X2_sourceOf : GoodIn wsX2_reasonAgainst (wsV RX2 71 RX2 yX2_sourceOf wsX2_sourceOf) := goodIn_app (goodIn_of _ (by decide +kernel)) ggX2_reasonAgainst_X2_sourceOf
set_option maxRecDepth 20000 in
theorem ggX2_reasonAgainst_X2_takenOf : GoodIn wsX2_reasonAgainst wsX2_takenOf := goodIn_r _ [23, 7, 8, 9, 4, 10, 37, 38, 39, 40, 41, 42, 43] (by decide +kernel) (by decide +kernel)
set_option maxRecDepth 20000 in
theorem gX2_reasonAgainst_X2_takenOf : GoodIn wsX2_reasonAgainst (wsV RX2 75 RX2 yX2_takenOf wsX2_takenOf) := goodIn_app (goodIn_of _ (by decide +kernel)) ggX2_reasonAgainst_X2_takenOf
set_option maxRecDepth 20000 in
theorem ggX2_reasonAgainst_X2_runsThrough : GoodIn wsX2_reasonAgainst wsX2_runsThrough := goodIn_r _ [27, 28, 29, 30, 4, 31, 6, 32, 33, 34, 35, 7, 36, 37, 38, 39, 40, 41, 42, 43] (by decide +kernel) (by decide +kernel)
set_option maxRecDepth 20000 in
theorem gX2_reasonAgainst_X2_runsThrough : GoodIn wsX2_reasonAgainst (wsV RX2 78 RX2 yX2_runsThrough wsX2_runsThrough) := goodIn_app (goodIn_of _ (by decide +kernel)) ggX2_reasonAgainst_X2_runsThrough
theorem dX2_reasonAgainst_0 : decode cX2_reasonAgainst 0 = .ok (.aload_n 0, 1) := by decide +kernel
theorem dX2_reasonAgainst_1 : decode cX2_reasonAgainst 1 = .ok (.iload_n 1, 1) := by decide +kernel
theorem dX2_reasonAgainst_2 : decode cX2_reasonAgainst 2 = .ok (.invokevirtual 68, 3) := by decide +kernel
theorem dX2_reasonAgainst_5 : decode cX2_reasonAgainst 5 = .ok (.istore 4, 2) := by decide +kernel
theorem dX2_reasonAgainst_7 : decode cX2_reasonAgainst 7 = .ok (.iload 4, 2) := by decide +kernel
theorem dX2_reasonAgainst_9 : decode cX2_reasonAgainst 9 = .ok (.ifCond .ne 5, 3) := by decide +kernel
theorem dX2_reasonAgainst_12 : decode cX2_reasonAgainst 12 = .ok (.iconst 1, 1) := by decide +kernel
theorem dX2_reasonAgainst_13 : decode cX2_reasonAgainst 13 = .ok (.ireturn, 1) := by decide +kernel
theorem dX2_reasonAgainst_14 : decode cX2_reasonAgainst 14 = .ok (.iload_n 2, 1) := by decide +kernel
theorem dX2_reasonAgainst_15 : decode cX2_reasonAgainst 15 = .ok (.iload 4, 2) := by decide +kernel
theorem dX2_reasonAgainst_17 : decode cX2_reasonAgainst 17 = .ok (.if_icmp .le 5, 3) := by decide +kernel
theorem dX2_reasonAgainst_20 : decode cX2_reasonAgainst 20 = .ok (.iconst 2, 1) := by decide +kernel
theorem dX2_reasonAgainst_21 : decode cX2_reasonAgainst 21 = .ok (.ireturn, 1) := by decide +kernel
theorem dX2_reasonAgainst_22 : decode cX2_reasonAgainst 22 = .ok (.aload_n 0, 1) := by decide +kernel
theorem dX2_reasonAgainst_23 : decode cX2_reasonAgainst 23 = .ok (.iload_n 2, 1) := by decide +kernel
theorem dX2_reasonAgainst_24 : decode cX2_reasonAgainst 24 = .ok (.iload_n 3, 1) := by decide +kernel
theorem dX2_reasonAgainst_25 : decode cX2_reasonAgainst 25 = .ok (.invokevirtual 71, 3) := by decide +kernel
theorem dX2_reasonAgainst_28 : decode cX2_reasonAgainst 28 = .ok (.ifCond .ne 5, 3) := by decide +kernel
theorem dX2_reasonAgainst_31 : decode cX2_reasonAgainst 31 = .ok (.iconst 3, 1) := by decide +kernel
theorem dX2_reasonAgainst_32 : decode cX2_reasonAgainst 32 = .ok (.ireturn, 1) := by decide +kernel
theorem dX2_reasonAgainst_33 : decode cX2_reasonAgainst 33 = .ok (.iload_n 2, 1) := by decide +kernel
theorem dX2_reasonAgainst_34 : decode cX2_reasonAgainst 34 = .ok (.iload 4, 2) := by decide +kernel
theorem dX2_reasonAgainst_36 : decode cX2_reasonAgainst 36 = .ok (.if_icmp .ge 22, 3) := by decide +kernel
theorem dX2_reasonAgainst_39 : decode cX2_reasonAgainst 39 = .ok (.aload_n 0, 1) := by decide +kernel
theorem dX2_reasonAgainst_40 : decode cX2_reasonAgainst 40 = .ok (.iload_n 1, 1) := by decide +kernel
theorem dX2_reasonAgainst_41 : decode cX2_reasonAgainst 41 = .ok (.aload_n 0, 1) := by decide +kernel
theorem dX2_reasonAgainst_42 : decode cX2_reasonAgainst 42 = .ok (.iload_n 1, 1) := by decide +kernel
theorem dX2_reasonAgainst_43 : decode cX2_reasonAgainst 43 = .ok (.invokevirtual 75, 3) := by decide +kernel
theorem dX2_reasonAgainst_46 : decode cX2_reasonAgainst 46 = .ok (.iload_n 2, 1) := by decide +kernel
theorem dX2_reasonAgainst_47 : decode cX2_reasonAgainst 47 = .ok (.iadd, 1) := by decide +kernel
theorem dX2_reasonAgainst_48 : decode cX2_reasonAgainst 48 = .ok (.invokevirtual 78, 3) := by decide +kernel
theorem dX2_reasonAgainst_51 : decode cX2_reasonAgainst 51 = .ok (.ifCond .eq 7, 3) := by decide +kernel
theorem dX2_reasonAgainst_54 : decode cX2_reasonAgainst 54 = .ok (.iconst 4, 1) := by decide +kernel
theorem dX2_reasonAgainst_55 : decode cX2_reasonAgainst 55 = .ok (.goto 4, 3) := by decide +kernel
theorem dX2_reasonAgainst_58 : decode cX2_reasonAgainst 58 = .ok (.iconst 0, 1) := by decide +kernel
theorem dX2_reasonAgainst_59 : decode cX2_reasonAgainst 59 = .ok (.ireturn, 1) := by decide +kernel
set_option maxRecDepth 20000 in
theorem ggX2_put_X2_sourceOf : GoodIn wsX2_put wsX2_sourceOf := goodIn_r _ [9, 10, 11, 12, 8, 13, 3, 20, 21, 22, 23, 24, 25, 26] (by decide +kernel) (by decide +kernel)
set_option maxRecDepth 20000 in
theorem gX2_put_X2_sourceOf : GoodIn wsX2_put (wsV RX2 71 RX2 yX2_sourceOf wsX2_sourceOf) := goodIn_app (goodIn_of _ (by decide +kernel)) ggX2_put_X2_sourceOf
set_option maxRecDepth 20000 in
theorem ggX2_put_X2_isCourse : GoodIn wsX2_put wsX2_isCourse := goodIn_r _ [16] (by decide +kernel) (by decide +kernel)
set_option maxRecDepth 20000 in
theorem gX2_put_X2_isCourse : GoodIn wsX2_put (va_wsS RX2 54 yX2_isCourse wsX2_isCourse) := goodIn_app (goodIn_of _ (by decide +kernel)) ggX2_put_X2_isCourse
set_option maxRecDepth 20000 in
theorem ggX2_put_X2_isSize : GoodIn wsX2_put wsX2_isSize := goodIn_r _ [19] (by decide +kernel) (by decide +kernel)
set_option maxRecDepth 20000 in
theorem gX2_put_X2_isSize : GoodIn wsX2_put (va_wsS RX2 50 yX2_isSize wsX2_isSize) := goodIn_app (goodIn_of _ (by decide +kernel)) ggX2_put_X2_isSize
theorem dX2_put_0 : decode cX2_put 0 = .ok (.aload_n 0, 1) := by decide +kernel
theorem dX2_put_1 : decode cX2_put 1 = .ok (.iload_n 2, 1) := by decide +kernel
theorem dX2_put_2 : decode cX2_put 2 = .ok (.iload_n 3, 1) := by decide +kernel
theorem dX2_put_3 : decode cX2_put 3 = .ok (.invokevirtual 71, 3) := by decide +kernel
theorem dX2_put_6 : decode cX2_put 6 = .ok (.istore 4, 2) := by decide +kernel
theorem dX2_put_8 : decode cX2_put 8 = .ok (.iload_n 1, 1) := by decide +kernel
theorem dX2_put_9 : decode cX2_put 9 = .ok (.invokestatic 54, 3) := by decide +kernel
theorem dX2_put_12 : decode cX2_put 12 = .ok (.ifCond .eq 11, 3) := by decide +kernel
theorem dX2_put_15 : decode cX2_put 15 = .ok (.iload 4, 2) := by decide +kernel
theorem dX2_put_17 : decode cX2_put 17 = .ok (.invokestatic 50, 3) := by decide +kernel
theorem dX2_put_20 : decode cX2_put 20 = .ok (.ifCond .ne 5, 3) := by decide +kernel
theorem dX2_put_23 : decode cX2_put 23 = .ok (.iconst 0, 1) := by decide +kernel
theorem dX2_put_24 : decode cX2_put 24 = .ok (.ireturn, 1) := by decide +kernel
theorem dX2_put_25 : decode cX2_put 25 = .ok (.iload_n 1, 1) := by decide +kernel
theorem dX2_put_26 : decode cX2_put 26 = .ok (.bipush 60, 2) := by decide +kernel
theorem dX2_put_28 : decode cX2_put 28 = .ok (.imul, 1) := by decide +kernel
theorem dX2_put_29 : decode cX2_put 29 = .ok (.aload_n 0, 1) := by decide +kernel
theorem dX2_put_30 : decode cX2_put 30 = .ok (.getfield 15, 3) := by decide +kernel
theorem dX2_put_33 : decode cX2_put 33 = .ok (.iload_n 1, 1) := by decide +kernel
theorem dX2_put_34 : decode cX2_put 34 = .ok (.iaload, 1) := by decide +kernel
theorem dX2_put_35 : decode cX2_put 35 = .ok (.iadd, 1) := by decide +kernel
theorem dX2_put_36 : decode cX2_put 36 = .ok (.istore 5, 2) := by decide +kernel
theorem dX2_put_38 : decode cX2_put 38 = .ok (.aload_n 0, 1) := by decide +kernel
theorem dX2_put_39 : decode cX2_put 39 = .ok (.getfield 15, 3) := by decide +kernel
theorem dX2_put_42 : decode cX2_put 42 = .ok (.iload_n 1, 1) := by decide +kernel
theorem dX2_put_43 : decode cX2_put 43 = .ok (.iaload, 1) := by decide +kernel
theorem dX2_put_44 : decode cX2_put 44 = .ok (.bipush 60, 2) := by decide +kernel
theorem dX2_put_46 : decode cX2_put 46 = .ok (.if_icmp .ge 18, 3) := by decide +kernel
theorem dX2_put_49 : decode cX2_put 49 = .ok (.iload 5, 2) := by decide +kernel
theorem dX2_put_51 : decode cX2_put 51 = .ok (.ifCond .lt 13, 3) := by decide +kernel
theorem dX2_put_54 : decode cX2_put 54 = .ok (.iload 5, 2) := by decide +kernel
theorem dX2_put_56 : decode cX2_put 56 = .ok (.aload_n 0, 1) := by decide +kernel
theorem dX2_put_57 : decode cX2_put 57 = .ok (.getfield 18, 3) := by decide +kernel
theorem dX2_put_60 : decode cX2_put 60 = .ok (.arraylength, 1) := by decide +kernel
theorem dX2_put_61 : decode cX2_put 61 = .ok (.if_icmp .lt 5, 3) := by decide +kernel
theorem dX2_put_64 : decode cX2_put 64 = .ok (.iconst 0, 1) := by decide +kernel
theorem dX2_put_65 : decode cX2_put 65 = .ok (.ireturn, 1) := by decide +kernel
theorem dX2_put_66 : decode cX2_put 66 = .ok (.aload_n 0, 1) := by decide +kernel
theorem dX2_put_67 : decode cX2_put 67 = .ok (.getfield 18, 3) := by decide +kernel
theorem dX2_put_70 : decode cX2_put 70 = .ok (.iload 5, 2) := by decide +kernel
theorem dX2_put_72 : decode cX2_put 72 = .ok (.iload_n 3, 1) := by decide +kernel
theorem dX2_put_73 : decode cX2_put 73 = .ok (.ifCond .eq 8, 3) := by decide +kernel
theorem dX2_put_76 : decode cX2_put 76 = .ok (.iload_n 2, 1) := by decide +kernel
theorem dX2_put_77 : decode cX2_put 77 = .ok (.ineg, 1) := by decide +kernel
theorem dX2_put_78 : decode cX2_put 78 = .ok (.goto 4, 3) := by decide +kernel
theorem dX2_put_81 : decode cX2_put 81 = .ok (.iload_n 2, 1) := by decide +kernel
theorem dX2_put_82 : decode cX2_put 82 = .ok (.iastore, 1) := by decide +kernel
theorem dX2_put_83 : decode cX2_put 83 = .ok (.aload_n 0, 1) := by decide +kernel
theorem dX2_put_84 : decode cX2_put 84 = .ok (.getfield 15, 3) := by decide +kernel
theorem dX2_put_87 : decode cX2_put 87 = .ok (.iload_n 1, 1) := by decide +kernel
theorem dX2_put_88 : decode cX2_put 88 = .ok (.dup2, 1) := by decide +kernel
theorem dX2_put_89 : decode cX2_put 89 = .ok (.iaload, 1) := by decide +kernel
theorem dX2_put_90 : decode cX2_put 90 = .ok (.iload_n 2, 1) := by decide +kernel
theorem dX2_put_91 : decode cX2_put 91 = .ok (.iadd, 1) := by decide +kernel
theorem dX2_put_92 : decode cX2_put 92 = .ok (.iastore, 1) := by decide +kernel
theorem dX2_put_93 : decode cX2_put 93 = .ok (.aload_n 0, 1) := by decide +kernel
theorem dX2_put_94 : decode cX2_put 94 = .ok (.getfield 21, 3) := by decide +kernel
theorem dX2_put_97 : decode cX2_put 97 = .ok (.iload 4, 2) := by decide +kernel
theorem dX2_put_99 : decode cX2_put 99 = .ok (.dup2, 1) := by decide +kernel
theorem dX2_put_100 : decode cX2_put 100 = .ok (.iaload, 1) := by decide +kernel
theorem dX2_put_101 : decode cX2_put 101 = .ok (.iconst 1, 1) := by decide +kernel
theorem dX2_put_102 : decode cX2_put 102 = .ok (.isub, 1) := by decide +kernel
theorem dX2_put_103 : decode cX2_put 103 = .ok (.iastore, 1) := by decide +kernel
theorem dX2_put_104 : decode cX2_put 104 = .ok (.aload_n 0, 1) := by decide +kernel
theorem dX2_put_105 : decode cX2_put 105 = .ok (.dup, 1) := by decide +kernel
theorem dX2_put_106 : decode cX2_put 106 = .ok (.getfield 35, 3) := by decide +kernel
theorem dX2_put_109 : decode cX2_put 109 = .ok (.iload 4, 2) := by decide +kernel
theorem dX2_put_111 : decode cX2_put 111 = .ok (.iload_n 2, 1) := by decide +kernel
theorem dX2_put_112 : decode cX2_put 112 = .ok (.isub, 1) := by decide +kernel
theorem dX2_put_113 : decode cX2_put 113 = .ok (.iadd, 1) := by decide +kernel
theorem dX2_put_114 : decode cX2_put 114 = .ok (.putfield 35, 3) := by decide +kernel
theorem dX2_put_117 : decode cX2_put 117 = .ok (.iload 4, 2) := by decide +kernel
theorem dX2_put_119 : decode cX2_put 119 = .ok (.iload_n 2, 1) := by decide +kernel
theorem dX2_put_120 : decode cX2_put 120 = .ok (.isub, 1) := by decide +kernel
theorem dX2_put_121 : decode cX2_put 121 = .ok (.ireturn, 1) := by decide +kernel
set_option maxRecDepth 20000 in
theorem ggX2_takeUpLast_X2_isCourse : GoodIn wsX2_takeUpLast wsX2_isCourse := goodIn_r _ [10] (by decide +kernel) (by decide +kernel)
set_option maxRecDepth 20000 in
theorem gX2_takeUpLast_X2_isCourse : GoodIn wsX2_takeUpLast (va_wsS RX2 54 yX2_isCourse wsX2_isCourse) := goodIn_app (goodIn_of _ (by decide +kernel)) ggX2_takeUpLast_X2_isCourse
set_option maxRecDepth 20000 in
theorem ggX2_takeUpLast_X2_bringBack : GoodIn wsX2_takeUpLast wsX2_bringBack := goodIn_r _ [14, 15, 16, 17, 18, 9, 19, 20, 21, 22, 23, 24, 25, 26] (by decide +kernel) (by decide +kernel)
set_option maxRecDepth 20000 in
theorem gX2_takeUpLast_X2_bringBack : GoodIn wsX2_takeUpLast (wsV RX2 81 RX2 yX2_bringBack wsX2_bringBack) := goodIn_app (goodIn_of _ (by decide +kernel)) ggX2_takeUpLast_X2_bringBack
theorem dX2_takeUpLast_0 : decode cX2_takeUpLast 0 = .ok (.iload_n 1, 1) := by decide +kernel
theorem dX2_takeUpLast_1 : decode cX2_takeUpLast 1 = .ok (.invokestatic 54, 3) := by decide +kernel
theorem dX2_takeUpLast_4 : decode cX2_takeUpLast 4 = .ok (.ifCond .ne 5, 3) := by decide +kernel
theorem dX2_takeUpLast_7 : decode cX2_takeUpLast 7 = .ok (.iconst 0, 1) := by decide +kernel
theorem dX2_takeUpLast_8 : decode cX2_takeUpLast 8 = .ok (.ireturn, 1) := by decide +kernel
theorem dX2_takeUpLast_9 : decode cX2_takeUpLast 9 = .ok (.iconst 0, 1) := by decide +kernel
theorem dX2_takeUpLast_10 : decode cX2_takeUpLast 10 = .ok (.istore_n 3, 1) := by decide +kernel
theorem dX2_takeUpLast_11 : decode cX2_takeUpLast 11 = .ok (.aload_n 0, 1) := by decide +kernel
theorem dX2_takeUpLast_12 : decode cX2_takeUpLast 12 = .ok (.getfield 15, 3) := by decide +kernel
theorem dX2_takeUpLast_15 : decode cX2_takeUpLast 15 = .ok (.iload_n 1, 1) := by decide +kernel
theorem dX2_takeUpLast_16 : decode cX2_takeUpLast 16 = .ok (.iaload, 1) := by decide +kernel
theorem dX2_takeUpLast_17 : decode cX2_takeUpLast 17 = .ok (.bipush 60, 2) := by decide +kernel
theorem dX2_takeUpLast_19 : decode cX2_takeUpLast 19 = .ok (.invokestatic 38, 3) := by decide +kernel
theorem dX2_takeUpLast_22 : decode cX2_takeUpLast 22 = .ok (.iconst 1, 1) := by decide +kernel
theorem dX2_takeUpLast_23 : decode cX2_takeUpLast 23 = .ok (.isub, 1) := by decide +kernel
theorem dX2_takeUpLast_24 : decode cX2_takeUpLast 24 = .ok (.istore 4, 2) := by decide +kernel
theorem dX2_takeUpLast_26 : decode cX2_takeUpLast 26 = .ok (.iload 4, 2) := by decide +kernel
theorem dX2_takeUpLast_28 : decode cX2_takeUpLast 28 = .ok (.ifCond .lt 66, 3) := by decide +kernel
theorem dX2_takeUpLast_31 : decode cX2_takeUpLast 31 = .ok (.iload_n 3, 1) := by decide +kernel
theorem dX2_takeUpLast_32 : decode cX2_takeUpLast 32 = .ok (.iload_n 2, 1) := by decide +kernel
theorem dX2_takeUpLast_33 : decode cX2_takeUpLast 33 = .ok (.if_icmp .ge 61, 3) := by decide +kernel
theorem dX2_takeUpLast_36 : decode cX2_takeUpLast 36 = .ok (.aload_n 0, 1) := by decide +kernel
theorem dX2_takeUpLast_37 : decode cX2_takeUpLast 37 = .ok (.getfield 18, 3) := by decide +kernel
theorem dX2_takeUpLast_40 : decode cX2_takeUpLast 40 = .ok (.iload_n 1, 1) := by decide +kernel
theorem dX2_takeUpLast_41 : decode cX2_takeUpLast 41 = .ok (.bipush 60, 2) := by decide +kernel
theorem dX2_takeUpLast_43 : decode cX2_takeUpLast 43 = .ok (.imul, 1) := by decide +kernel
theorem dX2_takeUpLast_44 : decode cX2_takeUpLast 44 = .ok (.iload 4, 2) := by decide +kernel
theorem dX2_takeUpLast_46 : decode cX2_takeUpLast 46 = .ok (.iadd, 1) := by decide +kernel
theorem dX2_takeUpLast_47 : decode cX2_takeUpLast 47 = .ok (.iaload, 1) := by decide +kernel
theorem dX2_takeUpLast_48 : decode cX2_takeUpLast 48 = .ok (.ifCond .eq 40, 3) := by decide +kernel
theorem dX2_takeUpLast_51 : decode cX2_takeUpLast 51 = .ok (.aload_n 0, 1) := by decide +kernel
theorem dX2_takeUpLast_52 : decode cX2_takeUpLast 52 = .ok (.getfield 18, 3) := by decide +kernel
theorem dX2_takeUpLast_55 : decode cX2_takeUpLast 55 = .ok (.iload_n 1, 1) := by decide +kernel
theorem dX2_takeUpLast_56 : decode cX2_takeUpLast 56 = .ok (.bipush 60, 2) := by decide +kernel
theorem dX2_takeUpLast_58 : decode cX2_takeUpLast 58 = .ok (.imul, 1) := by decide +kernel
theorem dX2_takeUpLast_59 : decode cX2_takeUpLast 59 = .ok (.iload 4, 2) := by decide +kernel
theorem dX2_takeUpLast_61 : decode cX2_takeUpLast 61 = .ok (.iadd, 1) := by decide +kernel
theorem dX2_takeUpLast_62 : decode cX2_takeUpLast 62 = .ok (.iconst 0, 1) := by decide +kernel
theorem dX2_takeUpLast_63 : decode cX2_takeUpLast 63 = .ok (.iastore, 1) := by decide +kernel
theorem dX2_takeUpLast_64 : decode cX2_takeUpLast 64 = .ok (.aload_n 0, 1) := by decide +kernel
theorem dX2_takeUpLast_65 : decode cX2_takeUpLast 65 = .ok (.aload_n 0, 1) := by decide +kernel
theorem dX2_takeUpLast_66 : decode cX2_takeUpLast 66 = .ok (.getfield 15, 3) := by decide +kernel
theorem dX2_takeUpLast_69 : decode cX2_takeUpLast 69 = .ok (.iload_n 1, 1) := by decide +kernel
theorem dX2_takeUpLast_70 : decode cX2_takeUpLast 70 = .ok (.iaload, 1) := by decide +kernel
theorem dX2_takeUpLast_71 : decode cX2_takeUpLast 71 = .ok (.iload 4, 2) := by decide +kernel
theorem dX2_takeUpLast_73 : decode cX2_takeUpLast 73 = .ok (.isub, 1) := by decide +kernel
theorem dX2_takeUpLast_74 : decode cX2_takeUpLast 74 = .ok (.invokevirtual 81, 3) := by decide +kernel
theorem dX2_takeUpLast_77 : decode cX2_takeUpLast 77 = .ok (.aload_n 0, 1) := by decide +kernel
theorem dX2_takeUpLast_78 : decode cX2_takeUpLast 78 = .ok (.getfield 15, 3) := by decide +kernel
theorem dX2_takeUpLast_81 : decode cX2_takeUpLast 81 = .ok (.iload_n 1, 1) := by decide +kernel
theorem dX2_takeUpLast_82 : decode cX2_takeUpLast 82 = .ok (.iload 4, 2) := by decide +kernel
theorem dX2_takeUpLast_84 : decode cX2_takeUpLast 84 = .ok (.iastore, 1) := by decide +kernel
theorem dX2_takeUpLast_85 : decode cX2_takeUpLast 85 = .ok (.iinc 3 1, 3) := by decide +kernel
theorem dX2_takeUpLast_88 : decode cX2_takeUpLast 88 = .ok (.iinc 4 (-1), 3) := by decide +kernel
theorem dX2_takeUpLast_91 : decode cX2_takeUpLast 91 = .ok (.goto (-65), 3) := by decide +kernel
theorem dX2_takeUpLast_94 : decode cX2_takeUpLast 94 = .ok (.iload_n 3, 1) := by decide +kernel
theorem dX2_takeUpLast_95 : decode cX2_takeUpLast 95 = .ok (.ireturn, 1) := by decide +kernel
set_option maxRecDepth 20000 in
theorem ggX2_bringBack_X2_isSize : GoodIn wsX2_bringBack wsX2_isSize := goodIn_r _ [6] (by decide +kernel) (by decide +kernel)
set_option maxRecDepth 20000 in
theorem gX2_bringBack_X2_isSize : GoodIn wsX2_bringBack (va_wsS RX2 50 yX2_isSize wsX2_isSize) := goodIn_app (goodIn_of _ (by decide +kernel)) ggX2_bringBack_X2_isSize
theorem dX2_bringBack_0 : decode cX2_bringBack 0 = .ok (.iload_n 1, 1) := by decide +kernel
theorem dX2_bringBack_1 : decode cX2_bringBack 1 = .ok (.invokestatic 50, 3) := by decide +kernel
theorem dX2_bringBack_4 : decode cX2_bringBack 4 = .ok (.ifCond .ne 4, 3) := by decide +kernel
theorem dX2_bringBack_7 : decode cX2_bringBack 7 = .ok (.return_, 1) := by decide +kernel
theorem dX2_bringBack_8 : decode cX2_bringBack 8 = .ok (.aload_n 0, 1) := by decide +kernel
theorem dX2_bringBack_9 : decode cX2_bringBack 9 = .ok (.getfield 21, 3) := by decide +kernel
theorem dX2_bringBack_12 : decode cX2_bringBack 12 = .ok (.iload_n 1, 1) := by decide +kernel
theorem dX2_bringBack_13 : decode cX2_bringBack 13 = .ok (.iaload, 1) := by decide +kernel
theorem dX2_bringBack_14 : decode cX2_bringBack 14 = .ok (.bipush 99, 2) := by decide +kernel
theorem dX2_bringBack_16 : decode cX2_bringBack 16 = .ok (.if_icmp .ge 16, 3) := by decide +kernel
theorem dX2_bringBack_19 : decode cX2_bringBack 19 = .ok (.aload_n 0, 1) := by decide +kernel
theorem dX2_bringBack_20 : decode cX2_bringBack 20 = .ok (.getfield 21, 3) := by decide +kernel
theorem dX2_bringBack_23 : decode cX2_bringBack 23 = .ok (.iload_n 1, 1) := by decide +kernel
theorem dX2_bringBack_24 : decode cX2_bringBack 24 = .ok (.dup2, 1) := by decide +kernel
theorem dX2_bringBack_25 : decode cX2_bringBack 25 = .ok (.iaload, 1) := by decide +kernel
theorem dX2_bringBack_26 : decode cX2_bringBack 26 = .ok (.iconst 1, 1) := by decide +kernel
theorem dX2_bringBack_27 : decode cX2_bringBack 27 = .ok (.iadd, 1) := by decide +kernel
theorem dX2_bringBack_28 : decode cX2_bringBack 28 = .ok (.iastore, 1) := by decide +kernel
theorem dX2_bringBack_29 : decode cX2_bringBack 29 = .ok (.goto 13, 3) := by decide +kernel
theorem dX2_bringBack_32 : decode cX2_bringBack 32 = .ok (.aload_n 0, 1) := by decide +kernel
theorem dX2_bringBack_33 : decode cX2_bringBack 33 = .ok (.dup, 1) := by decide +kernel
theorem dX2_bringBack_34 : decode cX2_bringBack 34 = .ok (.getfield 35, 3) := by decide +kernel
theorem dX2_bringBack_37 : decode cX2_bringBack 37 = .ok (.iload_n 1, 1) := by decide +kernel
theorem dX2_bringBack_38 : decode cX2_bringBack 38 = .ok (.iadd, 1) := by decide +kernel
theorem dX2_bringBack_39 : decode cX2_bringBack 39 = .ok (.putfield 35, 3) := by decide +kernel
theorem dX2_bringBack_42 : decode cX2_bringBack 42 = .ok (.return_, 1) := by decide +kernel
set_option maxRecDepth 20000 in
theorem ggX2_beginAt_X2_isCourse : GoodIn wsX2_beginAt wsX2_isCourse := goodIn_r _ [5] (by decide +kernel) (by decide +kernel)
set_option maxRecDepth 20000 in
theorem gX2_beginAt_X2_isCourse : GoodIn wsX2_beginAt (va_wsS RX2 54 yX2_isCourse wsX2_isCourse) := goodIn_app (goodIn_of _ (by decide +kernel)) ggX2_beginAt_X2_isCourse
theorem dX2_beginAt_0 : decode cX2_beginAt 0 = .ok (.iload_n 1, 1) := by decide +kernel
theorem dX2_beginAt_1 : decode cX2_beginAt 1 = .ok (.invokestatic 54, 3) := by decide +kernel
theorem dX2_beginAt_4 : decode cX2_beginAt 4 = .ok (.ifCond .eq 27, 3) := by decide +kernel
theorem dX2_beginAt_7 : decode cX2_beginAt 7 = .ok (.iload_n 2, 1) := by decide +kernel
theorem dX2_beginAt_8 : decode cX2_beginAt 8 = .ok (.ifCond .lt 23, 3) := by decide +kernel
theorem dX2_beginAt_11 : decode cX2_beginAt 11 = .ok (.iload_n 2, 1) := by decide +kernel
theorem dX2_beginAt_12 : decode cX2_beginAt 12 = .ok (.bipush 60, 2) := by decide +kernel
theorem dX2_beginAt_14 : decode cX2_beginAt 14 = .ok (.if_icmp .ge 17, 3) := by decide +kernel
theorem dX2_beginAt_17 : decode cX2_beginAt 17 = .ok (.aload_n 0, 1) := by decide +kernel
theorem dX2_beginAt_18 : decode cX2_beginAt 18 = .ok (.getfield 18, 3) := by decide +kernel
theorem dX2_beginAt_21 : decode cX2_beginAt 21 = .ok (.iload_n 1, 1) := by decide +kernel
theorem dX2_beginAt_22 : decode cX2_beginAt 22 = .ok (.bipush 60, 2) := by decide +kernel
theorem dX2_beginAt_24 : decode cX2_beginAt 24 = .ok (.imul, 1) := by decide +kernel
theorem dX2_beginAt_25 : decode cX2_beginAt 25 = .ok (.iload_n 2, 1) := by decide +kernel
theorem dX2_beginAt_26 : decode cX2_beginAt 26 = .ok (.iadd, 1) := by decide +kernel
theorem dX2_beginAt_27 : decode cX2_beginAt 27 = .ok (.iaload, 1) := by decide +kernel
theorem dX2_beginAt_28 : decode cX2_beginAt 28 = .ok (.goto 4, 3) := by decide +kernel
theorem dX2_beginAt_31 : decode cX2_beginAt 31 = .ok (.iconst 0, 1) := by decide +kernel
theorem dX2_beginAt_32 : decode cX2_beginAt 32 = .ok (.ireturn, 1) := by decide +kernel
set_option maxRecDepth 20000 in
theorem ggX2_sizeAt_X2_takenOf : GoodIn wsX2_sizeAt wsX2_takenOf := goodIn_r _ [9, 10, 11, 12, 8, 13, 19, 20, 21, 22, 23, 24, 25] (by decide +kernel) (by decide +kernel)
set_option maxRecDepth 20000 in
theorem gX2_sizeAt_X2_takenOf : GoodIn wsX2_sizeAt (wsV RX2 75 RX2 yX2_takenOf wsX2_takenOf) := goodIn_app (goodIn_of _ (by decide +kernel)) ggX2_sizeAt_X2_takenOf
set_option maxRecDepth 20000 in
theorem ggX2_sizeAt_X2_beginAt : GoodIn wsX2_sizeAt wsX2_beginAt := goodIn_r _ [17, 18, 11, 12, 8, 13, 19, 20, 21, 22, 23, 24, 25] (by decide +kernel) (by decide +kernel)
set_option maxRecDepth 20000 in
theorem gX2_sizeAt_X2_beginAt : GoodIn wsX2_sizeAt (wsV RX2 85 RX2 yX2_beginAt wsX2_beginAt) := goodIn_app (goodIn_of _ (by decide +kernel)) ggX2_sizeAt_X2_beginAt
theorem dX2_sizeAt_0 : decode cX2_sizeAt 0 = .ok (.iload_n 2, 1) := by decide +kernel
theorem dX2_sizeAt_1 : decode cX2_sizeAt 1 = .ok (.aload_n 0, 1) := by decide +kernel
theorem dX2_sizeAt_2 : decode cX2_sizeAt 2 = .ok (.iload_n 1, 1) := by decide +kernel
theorem dX2_sizeAt_3 : decode cX2_sizeAt 3 = .ok (.invokevirtual 75, 3) := by decide +kernel
theorem dX2_sizeAt_6 : decode cX2_sizeAt 6 = .ok (.if_icmp .lt 5, 3) := by decide +kernel
theorem dX2_sizeAt_9 : decode cX2_sizeAt 9 = .ok (.iconst (-1), 1) := by decide +kernel
theorem dX2_sizeAt_10 : decode cX2_sizeAt 10 = .ok (.ireturn, 1) := by decide +kernel
theorem dX2_sizeAt_11 : decode cX2_sizeAt 11 = .ok (.iload_n 2, 1) := by decide +kernel
theorem dX2_sizeAt_12 : decode cX2_sizeAt 12 = .ok (.istore_n 3, 1) := by decide +kernel
theorem dX2_sizeAt_13 : decode cX2_sizeAt 13 = .ok (.iload_n 3, 1) := by decide +kernel
theorem dX2_sizeAt_14 : decode cX2_sizeAt 14 = .ok (.ifCond .lt 28, 3) := by decide +kernel
theorem dX2_sizeAt_17 : decode cX2_sizeAt 17 = .ok (.aload_n 0, 1) := by decide +kernel
theorem dX2_sizeAt_18 : decode cX2_sizeAt 18 = .ok (.iload_n 1, 1) := by decide +kernel
theorem dX2_sizeAt_19 : decode cX2_sizeAt 19 = .ok (.iload_n 3, 1) := by decide +kernel
theorem dX2_sizeAt_20 : decode cX2_sizeAt 20 = .ok (.invokevirtual 85, 3) := by decide +kernel
theorem dX2_sizeAt_23 : decode cX2_sizeAt 23 = .ok (.istore 4, 2) := by decide +kernel
theorem dX2_sizeAt_25 : decode cX2_sizeAt 25 = .ok (.iload 4, 2) := by decide +kernel
theorem dX2_sizeAt_27 : decode cX2_sizeAt 27 = .ok (.ifCond .eq 9, 3) := by decide +kernel
theorem dX2_sizeAt_30 : decode cX2_sizeAt 30 = .ok (.iload 4, 2) := by decide +kernel
theorem dX2_sizeAt_32 : decode cX2_sizeAt 32 = .ok (.invokestatic 88, 3) := by decide +kernel
theorem dX2_sizeAt_35 : decode cX2_sizeAt 35 = .ok (.ireturn, 1) := by decide +kernel
theorem dX2_sizeAt_36 : decode cX2_sizeAt 36 = .ok (.iinc 3 (-1), 3) := by decide +kernel
theorem dX2_sizeAt_39 : decode cX2_sizeAt 39 = .ok (.goto (-26), 3) := by decide +kernel
theorem dX2_sizeAt_42 : decode cX2_sizeAt 42 = .ok (.iconst (-1), 1) := by decide +kernel
theorem dX2_sizeAt_43 : decode cX2_sizeAt 43 = .ok (.ireturn, 1) := by decide +kernel
set_option maxRecDepth 20000 in
theorem ggX2_fillCourse_X2_sizeByRule : GoodIn wsX2_fillCourse wsX2_sizeByRule := goodIn_r _ [6, 7, 8, 9, 5, 10, 11, 12, 13, 14, 15, 16, 17, 18, 19, 20, 21, 22, 23, 24, 25, 26, 27, 28, 29, 30, 31, 32, 33, 34, 35, 36, 37, 38, 39, 40, 41, 42, 43, 44, 45, 58, 59, 60, 61, 62, 63, 64] (by decide +kernel) (by decide +kernel)
set_option maxRecDepth 20000 in
theorem gX2_fillCourse_X2_sizeByRule : GoodIn wsX2_fillCourse (wsV RX2 91 RX2 yX2_sizeByRule wsX2_sizeByRule) := goodIn_app (goodIn_of _ (by decide +kernel)) ggX2_fillCourse_X2_sizeByRule
set_option maxRecDepth 20000 in
theorem ggX2_fillCourse_X2_greatestFiller : GoodIn wsX2_fillCourse wsX2_greatestFiller := goodIn_r _ [49, 12, 13, 14, 5, 15, 16, 17, 18, 19, 20, 21, 22, 23, 24, 25, 26, 27, 28, 7, 8, 9, 10, 11, 29, 30, 31, 32, 33, 34, 35, 36, 37, 38, 39, 40, 41, 42, 43, 44, 45, 58, 59, 60, 61, 62, 63, 64] (by decide +kernel) (by decide +kernel)
set_option maxRecDepth 20000 in
theorem gX2_fillCourse_X2_greatestFiller : GoodIn wsX2_fillCourse (wsV RX2 94 RX2 yX2_greatestFiller wsX2_greatestFiller) := goodIn_app (goodIn_of _ (by decide +kernel)) ggX2_fillCourse_X2_greatestFiller
set_option maxRecDepth 20000 in
theorem ggX2_fillCourse_X2_put : GoodIn wsX2_fillCourse wsX2_put := goodIn_r _ [53, 21, 45, 11, 54, 25, 26, 27, 5, 28, 7, 8, 9, 10, 22, 23, 24, 55, 56, 57, 58, 59, 60, 61, 62, 63, 64] (by decide +kernel) (by decide +kernel)
set_option maxRecDepth 20000 in
theorem gX2_fillCourse_X2_put : GoodIn wsX2_fillCourse (wsV RX2 97 RX2 yX2_put wsX2_put) := goodIn_app (goodIn_of _ (by decide +kernel)) ggX2_fillCourse_X2_put
theorem dX2_fillCourse_0 : decode cX2_fillCourse 0 = .ok (.iconst 0, 1) := by decide +kernel
theorem dX2_fillCourse_1 : decode cX2_fillCourse 1 = .ok (.istore_n 3, 1) := by decide +kernel
theorem dX2_fillCourse_2 : decode cX2_fillCourse 2 = .ok (.iload_n 3, 1) := by decide +kernel
theorem dX2_fillCourse_3 : decode cX2_fillCourse 3 = .ok (.bipush 60, 2) := by decide +kernel
theorem dX2_fillCourse_5 : decode cX2_fillCourse 5 = .ok (.if_icmp .ge 67, 3) := by decide +kernel
theorem dX2_fillCourse_8 : decode cX2_fillCourse 8 = .ok (.aload_n 0, 1) := by decide +kernel
theorem dX2_fillCourse_9 : decode cX2_fillCourse 9 = .ok (.iload_n 1, 1) := by decide +kernel
theorem dX2_fillCourse_10 : decode cX2_fillCourse 10 = .ok (.iload_n 2, 1) := by decide +kernel
theorem dX2_fillCourse_11 : decode cX2_fillCourse 11 = .ok (.invokevirtual 91, 3) := by decide +kernel
theorem dX2_fillCourse_14 : decode cX2_fillCourse 14 = .ok (.istore 4, 2) := by decide +kernel
theorem dX2_fillCourse_16 : decode cX2_fillCourse 16 = .ok (.iload 4, 2) := by decide +kernel
theorem dX2_fillCourse_18 : decode cX2_fillCourse 18 = .ok (.ifCond .ne 15, 3) := by decide +kernel
theorem dX2_fillCourse_21 : decode cX2_fillCourse 21 = .ok (.aload_n 0, 1) := by decide +kernel
theorem dX2_fillCourse_22 : decode cX2_fillCourse 22 = .ok (.getfield 32, 3) := by decide +kernel
theorem dX2_fillCourse_25 : decode cX2_fillCourse 25 = .ok (.iconst 1, 1) := by decide +kernel
theorem dX2_fillCourse_26 : decode cX2_fillCourse 26 = .ok (.if_icmp .ne 7, 3) := by decide +kernel
theorem dX2_fillCourse_29 : decode cX2_fillCourse 29 = .ok (.iconst 1, 1) := by decide +kernel
theorem dX2_fillCourse_30 : decode cX2_fillCourse 30 = .ok (.goto 4, 3) := by decide +kernel
theorem dX2_fillCourse_33 : decode cX2_fillCourse 33 = .ok (.iconst 0, 1) := by decide +kernel
theorem dX2_fillCourse_34 : decode cX2_fillCourse 34 = .ok (.istore 5, 2) := by decide +kernel
theorem dX2_fillCourse_36 : decode cX2_fillCourse 36 = .ok (.iload 5, 2) := by decide +kernel
theorem dX2_fillCourse_38 : decode cX2_fillCourse 38 = .ok (.ifCond .eq 10, 3) := by decide +kernel
theorem dX2_fillCourse_41 : decode cX2_fillCourse 41 = .ok (.aload_n 0, 1) := by decide +kernel
theorem dX2_fillCourse_42 : decode cX2_fillCourse 42 = .ok (.iload_n 1, 1) := by decide +kernel
theorem dX2_fillCourse_43 : decode cX2_fillCourse 43 = .ok (.invokevirtual 94, 3) := by decide +kernel
theorem dX2_fillCourse_46 : decode cX2_fillCourse 46 = .ok (.istore 4, 2) := by decide +kernel
theorem dX2_fillCourse_48 : decode cX2_fillCourse 48 = .ok (.iload 4, 2) := by decide +kernel
theorem dX2_fillCourse_50 : decode cX2_fillCourse 50 = .ok (.ifCond .ne 6, 3) := by decide +kernel
theorem dX2_fillCourse_53 : decode cX2_fillCourse 53 = .ok (.goto 19, 3) := by decide +kernel
theorem dX2_fillCourse_56 : decode cX2_fillCourse 56 = .ok (.aload_n 0, 1) := by decide +kernel
theorem dX2_fillCourse_57 : decode cX2_fillCourse 57 = .ok (.iload_n 1, 1) := by decide +kernel
theorem dX2_fillCourse_58 : decode cX2_fillCourse 58 = .ok (.iload 4, 2) := by decide +kernel
theorem dX2_fillCourse_60 : decode cX2_fillCourse 60 = .ok (.iload 5, 2) := by decide +kernel
theorem dX2_fillCourse_62 : decode cX2_fillCourse 62 = .ok (.invokevirtual 97, 3) := by decide +kernel
theorem dX2_fillCourse_65 : decode cX2_fillCourse 65 = .ok (.pop, 1) := by decide +kernel
theorem dX2_fillCourse_66 : decode cX2_fillCourse 66 = .ok (.iinc 3 1, 3) := by decide +kernel
theorem dX2_fillCourse_69 : decode cX2_fillCourse 69 = .ok (.goto (-67), 3) := by decide +kernel
theorem dX2_fillCourse_72 : decode cX2_fillCourse 72 = .ok (.iload_n 3, 1) := by decide +kernel
theorem dX2_fillCourse_73 : decode cX2_fillCourse 73 = .ok (.ireturn, 1) := by decide +kernel
set_option maxRecDepth 20000 in
theorem ggX2_sizeByRule_X2_inStock : GoodIn wsX2_sizeByRule wsX2_inStock := goodIn_r _ [5, 6, 41, 42, 43, 44, 45, 46, 47] (by decide +kernel) (by decide +kernel)
set_option maxRecDepth 20000 in
theorem gX2_sizeByRule_X2_inStock : GoodIn wsX2_sizeByRule (wsV RX2 64 RX2 yX2_inStock wsX2_inStock) := goodIn_app (goodIn_of _ (by decide +kernel)) ggX2_sizeByRule_X2_inStock
set_option maxRecDepth 20000 in
theorem ggX2_sizeByRule_X2_reasonAgainst : GoodIn wsX2_sizeByRule wsX2_reasonAgainst := goodIn_r _ [10, 11, 12, 13, 4, 14, 15, 16, 17, 18, 19, 20, 21, 22, 23, 1, 2, 3, 5, 6, 24, 25, 26, 27, 28, 29, 30, 31, 32, 33, 34, 35, 36, 37, 38, 39, 40, 41, 42, 43, 44, 45, 46, 47] (by decide +kernel) (by decide +kernel)
set_option maxRecDepth 20000 in
theorem gX2_sizeByRule_X2_reasonAgainst : GoodIn wsX2_sizeByRule (wsV RX2 101 RX2 yX2_reasonAgainst wsX2_reasonAgainst) := goodIn_app (goodIn_of _ (by decide +kernel)) ggX2_sizeByRule_X2_reasonAgainst
theorem dX2_sizeByRule_0 : decode cX2_sizeByRule 0 = .ok (.iconst 0, 1) := by decide +kernel
theorem dX2_sizeByRule_1 : decode cX2_sizeByRule 1 = .ok (.istore_n 3, 1) := by decide +kernel
theorem dX2_sizeByRule_2 : decode cX2_sizeByRule 2 = .ok (.iconst 1, 1) := by decide +kernel
theorem dX2_sizeByRule_3 : decode cX2_sizeByRule 3 = .ok (.istore 4, 2) := by decide +kernel
theorem dX2_sizeByRule_5 : decode cX2_sizeByRule 5 = .ok (.iload 4, 2) := by decide +kernel
theorem dX2_sizeByRule_7 : decode cX2_sizeByRule 7 = .ok (.bipush 6, 2) := by decide +kernel
theorem dX2_sizeByRule_9 : decode cX2_sizeByRule 9 = .ok (.if_icmp .gt 62, 3) := by decide +kernel
theorem dX2_sizeByRule_12 : decode cX2_sizeByRule 12 = .ok (.iload_n 3, 1) := by decide +kernel
theorem dX2_sizeByRule_13 : decode cX2_sizeByRule 13 = .ok (.ifCond .eq 26, 3) := by decide +kernel
theorem dX2_sizeByRule_16 : decode cX2_sizeByRule 16 = .ok (.iload_n 2, 1) := by decide +kernel
theorem dX2_sizeByRule_17 : decode cX2_sizeByRule 17 = .ok (.ifCond .eq 22, 3) := by decide +kernel
theorem dX2_sizeByRule_20 : decode cX2_sizeByRule 20 = .ok (.iload_n 2, 1) := by decide +kernel
theorem dX2_sizeByRule_21 : decode cX2_sizeByRule 21 = .ok (.iconst 2, 1) := by decide +kernel
theorem dX2_sizeByRule_22 : decode cX2_sizeByRule 22 = .ok (.if_icmp .ne 21, 3) := by decide +kernel
theorem dX2_sizeByRule_25 : decode cX2_sizeByRule 25 = .ok (.aload_n 0, 1) := by decide +kernel
theorem dX2_sizeByRule_26 : decode cX2_sizeByRule 26 = .ok (.iload 4, 2) := by decide +kernel
theorem dX2_sizeByRule_28 : decode cX2_sizeByRule 28 = .ok (.invokevirtual 64, 3) := by decide +kernel
theorem dX2_sizeByRule_31 : decode cX2_sizeByRule 31 = .ok (.aload_n 0, 1) := by decide +kernel
theorem dX2_sizeByRule_32 : decode cX2_sizeByRule 32 = .ok (.iload_n 3, 1) := by decide +kernel
theorem dX2_sizeByRule_33 : decode cX2_sizeByRule 33 = .ok (.invokevirtual 64, 3) := by decide +kernel
theorem dX2_sizeByRule_36 : decode cX2_sizeByRule 36 = .ok (.if_icmp .lt 7, 3) := by decide +kernel
theorem dX2_sizeByRule_39 : decode cX2_sizeByRule 39 = .ok (.iconst 1, 1) := by decide +kernel
theorem dX2_sizeByRule_40 : decode cX2_sizeByRule 40 = .ok (.goto 4, 3) := by decide +kernel
theorem dX2_sizeByRule_43 : decode cX2_sizeByRule 43 = .ok (.iconst 0, 1) := by decide +kernel
theorem dX2_sizeByRule_44 : decode cX2_sizeByRule 44 = .ok (.istore 5, 2) := by decide +kernel
theorem dX2_sizeByRule_46 : decode cX2_sizeByRule 46 = .ok (.iload 5, 2) := by decide +kernel
theorem dX2_sizeByRule_48 : decode cX2_sizeByRule 48 = .ok (.ifCond .eq 17, 3) := by decide +kernel
theorem dX2_sizeByRule_51 : decode cX2_sizeByRule 51 = .ok (.aload_n 0, 1) := by decide +kernel
theorem dX2_sizeByRule_52 : decode cX2_sizeByRule 52 = .ok (.iload_n 1, 1) := by decide +kernel
theorem dX2_sizeByRule_53 : decode cX2_sizeByRule 53 = .ok (.iload 4, 2) := by decide +kernel
theorem dX2_sizeByRule_55 : decode cX2_sizeByRule 55 = .ok (.iconst 0, 1) := by decide +kernel
theorem dX2_sizeByRule_56 : decode cX2_sizeByRule 56 = .ok (.invokevirtual 101, 3) := by decide +kernel
theorem dX2_sizeByRule_59 : decode cX2_sizeByRule 59 = .ok (.ifCond .ne 6, 3) := by decide +kernel
theorem dX2_sizeByRule_62 : decode cX2_sizeByRule 62 = .ok (.iload 4, 2) := by decide +kernel
theorem dX2_sizeByRule_64 : decode cX2_sizeByRule 64 = .ok (.istore_n 3, 1) := by decide +kernel
theorem dX2_sizeByRule_65 : decode cX2_sizeByRule 65 = .ok (.iinc 4 1, 3) := by decide +kernel
theorem dX2_sizeByRule_68 : decode cX2_sizeByRule 68 = .ok (.goto (-63), 3) := by decide +kernel
theorem dX2_sizeByRule_71 : decode cX2_sizeByRule 71 = .ok (.iload_n 3, 1) := by decide +kernel
theorem dX2_sizeByRule_72 : decode cX2_sizeByRule 72 = .ok (.ireturn, 1) := by decide +kernel
set_option maxRecDepth 20000 in
theorem ggX2_greatestFiller_X2_reasonAgainst : GoodIn wsX2_greatestFiller wsX2_reasonAgainst := goodIn_r _ [5, 6, 7, 8, 4, 9, 10, 11, 12, 13, 14, 15, 16, 17, 18, 19, 20, 21, 22, 23, 24, 25, 26, 27, 28, 29, 30, 31, 32, 33, 34, 35, 36, 37, 38, 39, 40, 41, 42, 43, 44, 45, 46, 47] (by decide +kernel) (by decide +kernel)
set_option maxRecDepth 20000 in
theorem gX2_greatestFiller_X2_reasonAgainst : GoodIn wsX2_greatestFiller (wsV RX2 101 RX2 yX2_reasonAgainst wsX2_reasonAgainst) := goodIn_app (goodIn_of _ (by decide +kernel)) ggX2_greatestFiller_X2_reasonAgainst
theorem dX2_greatestFiller_0 : decode cX2_greatestFiller 0 = .ok (.bipush 6, 2) := by decide +kernel
theorem dX2_greatestFiller_2 : decode cX2_greatestFiller 2 = .ok (.istore_n 2, 1) := by decide +kernel
theorem dX2_greatestFiller_3 : decode cX2_greatestFiller 3 = .ok (.iload_n 2, 1) := by decide +kernel
theorem dX2_greatestFiller_4 : decode cX2_greatestFiller 4 = .ok (.ifCond .le 21, 3) := by decide +kernel
theorem dX2_greatestFiller_7 : decode cX2_greatestFiller 7 = .ok (.aload_n 0, 1) := by decide +kernel
theorem dX2_greatestFiller_8 : decode cX2_greatestFiller 8 = .ok (.iload_n 1, 1) := by decide +kernel
theorem dX2_greatestFiller_9 : decode cX2_greatestFiller 9 = .ok (.iload_n 2, 1) := by decide +kernel
theorem dX2_greatestFiller_10 : decode cX2_greatestFiller 10 = .ok (.iconst 1, 1) := by decide +kernel
theorem dX2_greatestFiller_11 : decode cX2_greatestFiller 11 = .ok (.invokevirtual 101, 3) := by decide +kernel
theorem dX2_greatestFiller_14 : decode cX2_greatestFiller 14 = .ok (.ifCond .ne 5, 3) := by decide +kernel
theorem dX2_greatestFiller_17 : decode cX2_greatestFiller 17 = .ok (.iload_n 2, 1) := by decide +kernel
theorem dX2_greatestFiller_18 : decode cX2_greatestFiller 18 = .ok (.ireturn, 1) := by decide +kernel
theorem dX2_greatestFiller_19 : decode cX2_greatestFiller 19 = .ok (.iinc 2 (-1), 3) := by decide +kernel
theorem dX2_greatestFiller_22 : decode cX2_greatestFiller 22 = .ok (.goto (-19), 3) := by decide +kernel
theorem dX2_greatestFiller_25 : decode cX2_greatestFiller 25 = .ok (.iconst 0, 1) := by decide +kernel
theorem dX2_greatestFiller_26 : decode cX2_greatestFiller 26 = .ok (.ireturn, 1) := by decide +kernel
set_option maxRecDepth 20000 in
theorem ggX2_pebblesOf_X2_takenOf : GoodIn wsX2_pebblesOf wsX2_takenOf := goodIn_r _ [5, 6, 7, 8, 4, 9, 15, 16, 17, 18, 19, 20, 21] (by decide +kernel) (by decide +kernel)
set_option maxRecDepth 20000 in
theorem gX2_pebblesOf_X2_takenOf : GoodIn wsX2_pebblesOf (wsV RX2 75 RX2 yX2_takenOf wsX2_takenOf) := goodIn_app (goodIn_of _ (by decide +kernel)) ggX2_pebblesOf_X2_takenOf
set_option maxRecDepth 20000 in
theorem ggX2_pebblesOf_X2_beginAt : GoodIn wsX2_pebblesOf wsX2_beginAt := goodIn_r _ [13, 14, 7, 8, 4, 9, 15, 16, 17, 18, 19, 20, 21] (by decide +kernel) (by decide +kernel)
set_option maxRecDepth 20000 in
theorem gX2_pebblesOf_X2_beginAt : GoodIn wsX2_pebblesOf (wsV RX2 85 RX2 yX2_beginAt wsX2_beginAt) := goodIn_app (goodIn_of _ (by decide +kernel)) ggX2_pebblesOf_X2_beginAt
theorem dX2_pebblesOf_0 : decode cX2_pebblesOf 0 = .ok (.iconst 0, 1) := by decide +kernel
theorem dX2_pebblesOf_1 : decode cX2_pebblesOf 1 = .ok (.istore_n 2, 1) := by decide +kernel
theorem dX2_pebblesOf_2 : decode cX2_pebblesOf 2 = .ok (.aload_n 0, 1) := by decide +kernel
theorem dX2_pebblesOf_3 : decode cX2_pebblesOf 3 = .ok (.iload_n 1, 1) := by decide +kernel
theorem dX2_pebblesOf_4 : decode cX2_pebblesOf 4 = .ok (.invokevirtual 75, 3) := by decide +kernel
theorem dX2_pebblesOf_7 : decode cX2_pebblesOf 7 = .ok (.istore_n 3, 1) := by decide +kernel
theorem dX2_pebblesOf_8 : decode cX2_pebblesOf 8 = .ok (.iconst 0, 1) := by decide +kernel
theorem dX2_pebblesOf_9 : decode cX2_pebblesOf 9 = .ok (.istore 4, 2) := by decide +kernel
theorem dX2_pebblesOf_11 : decode cX2_pebblesOf 11 = .ok (.iload 4, 2) := by decide +kernel
theorem dX2_pebblesOf_13 : decode cX2_pebblesOf 13 = .ok (.iload_n 3, 1) := by decide +kernel
theorem dX2_pebblesOf_14 : decode cX2_pebblesOf 14 = .ok (.if_icmp .ge 27, 3) := by decide +kernel
theorem dX2_pebblesOf_17 : decode cX2_pebblesOf 17 = .ok (.iload_n 2, 1) := by decide +kernel
theorem dX2_pebblesOf_18 : decode cX2_pebblesOf 18 = .ok (.aload_n 0, 1) := by decide +kernel
theorem dX2_pebblesOf_19 : decode cX2_pebblesOf 19 = .ok (.iload_n 1, 1) := by decide +kernel
theorem dX2_pebblesOf_20 : decode cX2_pebblesOf 20 = .ok (.iload 4, 2) := by decide +kernel
theorem dX2_pebblesOf_22 : decode cX2_pebblesOf 22 = .ok (.invokevirtual 85, 3) := by decide +kernel
theorem dX2_pebblesOf_25 : decode cX2_pebblesOf 25 = .ok (.ifCond .eq 7, 3) := by decide +kernel
theorem dX2_pebblesOf_28 : decode cX2_pebblesOf 28 = .ok (.iconst 1, 1) := by decide +kernel
theorem dX2_pebblesOf_29 : decode cX2_pebblesOf 29 = .ok (.goto 4, 3) := by decide +kernel
theorem dX2_pebblesOf_32 : decode cX2_pebblesOf 32 = .ok (.iconst 0, 1) := by decide +kernel
theorem dX2_pebblesOf_33 : decode cX2_pebblesOf 33 = .ok (.iadd, 1) := by decide +kernel
theorem dX2_pebblesOf_34 : decode cX2_pebblesOf 34 = .ok (.istore_n 2, 1) := by decide +kernel
theorem dX2_pebblesOf_35 : decode cX2_pebblesOf 35 = .ok (.iinc 4 1, 3) := by decide +kernel
theorem dX2_pebblesOf_38 : decode cX2_pebblesOf 38 = .ok (.goto (-27), 3) := by decide +kernel
theorem dX2_pebblesOf_41 : decode cX2_pebblesOf 41 = .ok (.iload_n 2, 1) := by decide +kernel
theorem dX2_pebblesOf_42 : decode cX2_pebblesOf 42 = .ok (.ireturn, 1) := by decide +kernel
set_option maxRecDepth 20000 in
theorem ggX2_fillersOf_X2_takenOf : GoodIn wsX2_fillersOf wsX2_takenOf := goodIn_r _ [5, 6, 7, 8, 4, 9, 15, 16, 17, 18, 19, 20, 21] (by decide +kernel) (by decide +kernel)
set_option maxRecDepth 20000 in
theorem gX2_fillersOf_X2_takenOf : GoodIn wsX2_fillersOf (wsV RX2 75 RX2 yX2_takenOf wsX2_takenOf) := goodIn_app (goodIn_of _ (by decide +kernel)) ggX2_fillersOf_X2_takenOf
set_option maxRecDepth 20000 in
theorem ggX2_fillersOf_X2_beginAt : GoodIn wsX2_fillersOf wsX2_beginAt := goodIn_r _ [13, 14, 7, 8, 4, 9, 15, 16, 17, 18, 19, 20, 21] (by decide +kernel) (by decide +kernel)
set_option maxRecDepth 20000 in
theorem gX2_fillersOf_X2_beginAt : GoodIn wsX2_fillersOf (wsV RX2 85 RX2 yX2_beginAt wsX2_beginAt) := goodIn_app (goodIn_of _ (by decide +kernel)) ggX2_fillersOf_X2_beginAt
theorem dX2_fillersOf_0 : decode cX2_fillersOf 0 = .ok (.iconst 0, 1) := by decide +kernel
theorem dX2_fillersOf_1 : decode cX2_fillersOf 1 = .ok (.istore_n 2, 1) := by decide +kernel
theorem dX2_fillersOf_2 : decode cX2_fillersOf 2 = .ok (.aload_n 0, 1) := by decide +kernel
theorem dX2_fillersOf_3 : decode cX2_fillersOf 3 = .ok (.iload_n 1, 1) := by decide +kernel
theorem dX2_fillersOf_4 : decode cX2_fillersOf 4 = .ok (.invokevirtual 75, 3) := by decide +kernel
theorem dX2_fillersOf_7 : decode cX2_fillersOf 7 = .ok (.istore_n 3, 1) := by decide +kernel
theorem dX2_fillersOf_8 : decode cX2_fillersOf 8 = .ok (.iconst 0, 1) := by decide +kernel
theorem dX2_fillersOf_9 : decode cX2_fillersOf 9 = .ok (.istore 4, 2) := by decide +kernel
theorem dX2_fillersOf_11 : decode cX2_fillersOf 11 = .ok (.iload 4, 2) := by decide +kernel
theorem dX2_fillersOf_13 : decode cX2_fillersOf 13 = .ok (.iload_n 3, 1) := by decide +kernel
theorem dX2_fillersOf_14 : decode cX2_fillersOf 14 = .ok (.if_icmp .ge 27, 3) := by decide +kernel
theorem dX2_fillersOf_17 : decode cX2_fillersOf 17 = .ok (.iload_n 2, 1) := by decide +kernel
theorem dX2_fillersOf_18 : decode cX2_fillersOf 18 = .ok (.aload_n 0, 1) := by decide +kernel
theorem dX2_fillersOf_19 : decode cX2_fillersOf 19 = .ok (.iload_n 1, 1) := by decide +kernel
theorem dX2_fillersOf_20 : decode cX2_fillersOf 20 = .ok (.iload 4, 2) := by decide +kernel
theorem dX2_fillersOf_22 : decode cX2_fillersOf 22 = .ok (.invokevirtual 85, 3) := by decide +kernel
theorem dX2_fillersOf_25 : decode cX2_fillersOf 25 = .ok (.ifCond .ge 7, 3) := by decide +kernel
theorem dX2_fillersOf_28 : decode cX2_fillersOf 28 = .ok (.iconst 1, 1) := by decide +kernel
theorem dX2_fillersOf_29 : decode cX2_fillersOf 29 = .ok (.goto 4, 3) := by decide +kernel
theorem dX2_fillersOf_32 : decode cX2_fillersOf 32 = .ok (.iconst 0, 1) := by decide +kernel
theorem dX2_fillersOf_33 : decode cX2_fillersOf 33 = .ok (.iadd, 1) := by decide +kernel
theorem dX2_fillersOf_34 : decode cX2_fillersOf 34 = .ok (.istore_n 2, 1) := by decide +kernel
theorem dX2_fillersOf_35 : decode cX2_fillersOf 35 = .ok (.iinc 4 1, 3) := by decide +kernel
theorem dX2_fillersOf_38 : decode cX2_fillersOf 38 = .ok (.goto (-27), 3) := by decide +kernel
theorem dX2_fillersOf_41 : decode cX2_fillersOf 41 = .ok (.iload_n 2, 1) := by decide +kernel
theorem dX2_fillersOf_42 : decode cX2_fillersOf 42 = .ok (.ireturn, 1) := by decide +kernel
set_option maxRecDepth 20000 in
theorem ggX2_jointsOf_X2_cellsOf : GoodIn wsX2_jointsOf wsX2_cellsOf := goodIn_r _ [5, 6, 7, 8, 4, 9, 16, 17, 18, 19, 20, 21, 22] (by decide +kernel) (by decide +kernel)
set_option maxRecDepth 20000 in
theorem gX2_jointsOf_X2_cellsOf : GoodIn wsX2_jointsOf (wsV RX2 104 RX2 yX2_cellsOf wsX2_cellsOf) := goodIn_app (goodIn_of _ (by decide +kernel)) ggX2_jointsOf_X2_cellsOf
set_option maxRecDepth 20000 in
theorem ggX2_jointsOf_X2_hasJoint : GoodIn wsX2_jointsOf wsX2_hasJoint := goodIn_r _ [13, 6, 14, 15, 16, 17, 18, 19, 20, 21, 22] (by decide +kernel) (by decide +kernel)
set_option maxRecDepth 20000 in
theorem gX2_jointsOf_X2_hasJoint : GoodIn wsX2_jointsOf (wsV RX2 60 RX2 yX2_hasJoint wsX2_hasJoint) := goodIn_app (goodIn_of _ (by decide +kernel)) ggX2_jointsOf_X2_hasJoint
theorem dX2_jointsOf_0 : decode cX2_jointsOf 0 = .ok (.iconst 0, 1) := by decide +kernel
theorem dX2_jointsOf_1 : decode cX2_jointsOf 1 = .ok (.istore_n 2, 1) := by decide +kernel
theorem dX2_jointsOf_2 : decode cX2_jointsOf 2 = .ok (.aload_n 0, 1) := by decide +kernel
theorem dX2_jointsOf_3 : decode cX2_jointsOf 3 = .ok (.iload_n 1, 1) := by decide +kernel
theorem dX2_jointsOf_4 : decode cX2_jointsOf 4 = .ok (.invokevirtual 104, 3) := by decide +kernel
theorem dX2_jointsOf_7 : decode cX2_jointsOf 7 = .ok (.istore_n 3, 1) := by decide +kernel
theorem dX2_jointsOf_8 : decode cX2_jointsOf 8 = .ok (.iconst 0, 1) := by decide +kernel
theorem dX2_jointsOf_9 : decode cX2_jointsOf 9 = .ok (.istore 4, 2) := by decide +kernel
theorem dX2_jointsOf_11 : decode cX2_jointsOf 11 = .ok (.iload 4, 2) := by decide +kernel
theorem dX2_jointsOf_13 : decode cX2_jointsOf 13 = .ok (.iload_n 3, 1) := by decide +kernel
theorem dX2_jointsOf_14 : decode cX2_jointsOf 14 = .ok (.if_icmp .ge 27, 3) := by decide +kernel
theorem dX2_jointsOf_17 : decode cX2_jointsOf 17 = .ok (.iload_n 2, 1) := by decide +kernel
theorem dX2_jointsOf_18 : decode cX2_jointsOf 18 = .ok (.aload_n 0, 1) := by decide +kernel
theorem dX2_jointsOf_19 : decode cX2_jointsOf 19 = .ok (.iload_n 1, 1) := by decide +kernel
theorem dX2_jointsOf_20 : decode cX2_jointsOf 20 = .ok (.iload 4, 2) := by decide +kernel
theorem dX2_jointsOf_22 : decode cX2_jointsOf 22 = .ok (.invokevirtual 60, 3) := by decide +kernel
theorem dX2_jointsOf_25 : decode cX2_jointsOf 25 = .ok (.ifCond .eq 7, 3) := by decide +kernel
theorem dX2_jointsOf_28 : decode cX2_jointsOf 28 = .ok (.iconst 1, 1) := by decide +kernel
theorem dX2_jointsOf_29 : decode cX2_jointsOf 29 = .ok (.goto 4, 3) := by decide +kernel
theorem dX2_jointsOf_32 : decode cX2_jointsOf 32 = .ok (.iconst 0, 1) := by decide +kernel
theorem dX2_jointsOf_33 : decode cX2_jointsOf 33 = .ok (.iadd, 1) := by decide +kernel
theorem dX2_jointsOf_34 : decode cX2_jointsOf 34 = .ok (.istore_n 2, 1) := by decide +kernel
theorem dX2_jointsOf_35 : decode cX2_jointsOf 35 = .ok (.iinc 4 1, 3) := by decide +kernel
theorem dX2_jointsOf_38 : decode cX2_jointsOf 38 = .ok (.goto (-27), 3) := by decide +kernel
theorem dX2_jointsOf_41 : decode cX2_jointsOf 41 = .ok (.iload_n 2, 1) := by decide +kernel
theorem dX2_jointsOf_42 : decode cX2_jointsOf 42 = .ok (.ireturn, 1) := by decide +kernel
set_option maxRecDepth 20000 in
theorem ggX2_meetingJointsOf_X2_cellsOf : GoodIn wsX2_meetingJointsOf wsX2_cellsOf := goodIn_r _ [5, 6, 7, 8, 4, 9, 20, 21, 22, 23, 24, 25, 26] (by decide +kernel) (by decide +kernel)
set_option maxRecDepth 20000 in
theorem gX2_meetingJointsOf_X2_cellsOf : GoodIn wsX2_meetingJointsOf (wsV RX2 104 RX2 yX2_cellsOf wsX2_cellsOf) := goodIn_app (goodIn_of _ (by decide +kernel)) ggX2_meetingJointsOf_X2_cellsOf
set_option maxRecDepth 20000 in
theorem ggX2_meetingJointsOf_X2_hasJoint : GoodIn wsX2_meetingJointsOf wsX2_hasJoint := goodIn_r _ [13, 6, 14, 15, 20, 21, 22, 23, 24, 25, 26] (by decide +kernel) (by decide +kernel)
set_option maxRecDepth 20000 in
theorem gX2_meetingJointsOf_X2_hasJoint : GoodIn wsX2_meetingJointsOf (wsV RX2 60 RX2 yX2_hasJoint wsX2_hasJoint) := goodIn_app (goodIn_of _ (by decide +kernel)) ggX2_meetingJointsOf_X2_hasJoint
set_option maxRecDepth 20000 in
theorem ggX2_meetingJointsOf_X2_meets : GoodIn wsX2_meetingJointsOf wsX2_meets := goodIn_r _ [19, 6, 20, 21, 22, 23, 24, 25, 26] (by decide +kernel) (by decide +kernel)
set_option maxRecDepth 20000 in
theorem gX2_meetingJointsOf_X2_meets : GoodIn wsX2_meetingJointsOf (wsV RX2 57 RX2 yX2_meets wsX2_meets) := goodIn_app (goodIn_of _ (by decide +kernel)) ggX2_meetingJointsOf_X2_meets
theorem dX2_meetingJointsOf_0 : decode cX2_meetingJointsOf 0 = .ok (.iconst 0, 1) := by decide +kernel
theorem dX2_meetingJointsOf_1 : decode cX2_meetingJointsOf 1 = .ok (.istore_n 2, 1) := by decide +kernel
theorem dX2_meetingJointsOf_2 : decode cX2_meetingJointsOf 2 = .ok (.aload_n 0, 1) := by decide +kernel
theorem dX2_meetingJointsOf_3 : decode cX2_meetingJointsOf 3 = .ok (.iload_n 1, 1) := by decide +kernel
theorem dX2_meetingJointsOf_4 : decode cX2_meetingJointsOf 4 = .ok (.invokevirtual 104, 3) := by decide +kernel
theorem dX2_meetingJointsOf_7 : decode cX2_meetingJointsOf 7 = .ok (.istore_n 3, 1) := by decide +kernel
theorem dX2_meetingJointsOf_8 : decode cX2_meetingJointsOf 8 = .ok (.iconst 1, 1) := by decide +kernel
theorem dX2_meetingJointsOf_9 : decode cX2_meetingJointsOf 9 = .ok (.istore 4, 2) := by decide +kernel
theorem dX2_meetingJointsOf_11 : decode cX2_meetingJointsOf 11 = .ok (.iload 4, 2) := by decide +kernel
theorem dX2_meetingJointsOf_13 : decode cX2_meetingJointsOf 13 = .ok (.iload_n 3, 1) := by decide +kernel
theorem dX2_meetingJointsOf_14 : decode cX2_meetingJointsOf 14 = .ok (.if_icmp .ge 44, 3) := by decide +kernel
theorem dX2_meetingJointsOf_17 : decode cX2_meetingJointsOf 17 = .ok (.iload_n 2, 1) := by decide +kernel
theorem dX2_meetingJointsOf_18 : decode cX2_meetingJointsOf 18 = .ok (.aload_n 0, 1) := by decide +kernel
theorem dX2_meetingJointsOf_19 : decode cX2_meetingJointsOf 19 = .ok (.iload_n 1, 1) := by decide +kernel
theorem dX2_meetingJointsOf_20 : decode cX2_meetingJointsOf 20 = .ok (.iload 4, 2) := by decide +kernel
theorem dX2_meetingJointsOf_22 : decode cX2_meetingJointsOf 22 = .ok (.invokevirtual 60, 3) := by decide +kernel
theorem dX2_meetingJointsOf_25 : decode cX2_meetingJointsOf 25 = .ok (.ifCond .eq 24, 3) := by decide +kernel
theorem dX2_meetingJointsOf_28 : decode cX2_meetingJointsOf 28 = .ok (.aload_n 0, 1) := by decide +kernel
theorem dX2_meetingJointsOf_29 : decode cX2_meetingJointsOf 29 = .ok (.iload_n 1, 1) := by decide +kernel
theorem dX2_meetingJointsOf_30 : decode cX2_meetingJointsOf 30 = .ok (.iconst 1, 1) := by decide +kernel
theorem dX2_meetingJointsOf_31 : decode cX2_meetingJointsOf 31 = .ok (.isub, 1) := by decide +kernel
theorem dX2_meetingJointsOf_32 : decode cX2_meetingJointsOf 32 = .ok (.aload_n 0, 1) := by decide +kernel
theorem dX2_meetingJointsOf_33 : decode cX2_meetingJointsOf 33 = .ok (.iload_n 1, 1) := by decide +kernel
theorem dX2_meetingJointsOf_34 : decode cX2_meetingJointsOf 34 = .ok (.iload 4, 2) := by decide +kernel
theorem dX2_meetingJointsOf_36 : decode cX2_meetingJointsOf 36 = .ok (.invokevirtual 57, 3) := by decide +kernel
theorem dX2_meetingJointsOf_39 : decode cX2_meetingJointsOf 39 = .ok (.invokevirtual 60, 3) := by decide +kernel
theorem dX2_meetingJointsOf_42 : decode cX2_meetingJointsOf 42 = .ok (.ifCond .eq 7, 3) := by decide +kernel
theorem dX2_meetingJointsOf_45 : decode cX2_meetingJointsOf 45 = .ok (.iconst 1, 1) := by decide +kernel
theorem dX2_meetingJointsOf_46 : decode cX2_meetingJointsOf 46 = .ok (.goto 4, 3) := by decide +kernel
theorem dX2_meetingJointsOf_49 : decode cX2_meetingJointsOf 49 = .ok (.iconst 0, 1) := by decide +kernel
theorem dX2_meetingJointsOf_50 : decode cX2_meetingJointsOf 50 = .ok (.iadd, 1) := by decide +kernel
theorem dX2_meetingJointsOf_51 : decode cX2_meetingJointsOf 51 = .ok (.istore_n 2, 1) := by decide +kernel
theorem dX2_meetingJointsOf_52 : decode cX2_meetingJointsOf 52 = .ok (.iinc 4 1, 3) := by decide +kernel
theorem dX2_meetingJointsOf_55 : decode cX2_meetingJointsOf 55 = .ok (.goto (-44), 3) := by decide +kernel
theorem dX2_meetingJointsOf_58 : decode cX2_meetingJointsOf 58 = .ok (.iload_n 2, 1) := by decide +kernel
theorem dX2_meetingJointsOf_59 : decode cX2_meetingJointsOf 59 = .ok (.ireturn, 1) := by decide +kernel
set_option maxRecDepth 20000 in
theorem ggX2_property_X2_cellsOf : GoodIn wsX2_property wsX2_cellsOf := goodIn_r _ [5, 6, 7, 8, 4, 9, 48, 49, 50, 51, 52, 53, 54] (by decide +kernel) (by decide +kernel)
set_option maxRecDepth 20000 in
theorem gX2_property_X2_cellsOf : GoodIn wsX2_property (wsV RX2 104 RX2 yX2_cellsOf wsX2_cellsOf) := goodIn_app (goodIn_of _ (by decide +kernel)) ggX2_property_X2_cellsOf
set_option maxRecDepth 20000 in
theorem ggX2_property_X2_pebblesOf : GoodIn wsX2_property wsX2_pebblesOf := goodIn_r _ [13, 14, 15, 16, 4, 17, 18, 7, 8, 9, 19, 20, 21, 22, 23, 48, 49, 50, 51, 52, 53, 54] (by decide +kernel) (by decide +kernel)
set_option maxRecDepth 20000 in
theorem gX2_property_X2_pebblesOf : GoodIn wsX2_property (wsV RX2 107 RX2 yX2_pebblesOf wsX2_pebblesOf) := goodIn_app (goodIn_of _ (by decide +kernel)) ggX2_property_X2_pebblesOf
set_option maxRecDepth 20000 in
theorem ggX2_property_X2_freeOf : GoodIn wsX2_property wsX2_freeOf := goodIn_r _ [27, 6, 18, 7, 8, 4, 9, 48, 49, 50, 51, 52, 53, 54] (by decide +kernel) (by decide +kernel)
set_option maxRecDepth 20000 in
theorem gX2_property_X2_freeOf : GoodIn wsX2_property (wsV RX2 68 RX2 yX2_freeOf wsX2_freeOf) := goodIn_app (goodIn_of _ (by decide +kernel)) ggX2_property_X2_freeOf
set_option maxRecDepth 20000 in
theorem ggX2_property_X2_jointsOf : GoodIn wsX2_property wsX2_jointsOf := goodIn_r _ [31, 1, 2, 3, 4, 5, 6, 7, 8, 9, 32, 33, 34, 35, 18, 23, 48, 49, 50, 51, 52, 53, 54] (by decide +kernel) (by decide +kernel)
set_option maxRecDepth 20000 in
theorem gX2_property_X2_jointsOf : GoodIn wsX2_property (wsV RX2 110 RX2 yX2_jointsOf wsX2_jointsOf) := goodIn_app (goodIn_of _ (by decide +kernel)) ggX2_property_X2_jointsOf
set_option maxRecDepth 20000 in
theorem ggX2_property_X2_meetingJointsOf : GoodIn wsX2_property wsX2_meetingJointsOf := goodIn_r _ [39, 1, 2, 3, 4, 5, 6, 7, 8, 9, 32, 33, 34, 35, 18, 23, 40, 41, 42, 43, 48, 49, 50, 51, 52, 53, 54] (by decide +kernel) (by decide +kernel)
set_option maxRecDepth 20000 in
theorem gX2_property_X2_meetingJointsOf : GoodIn wsX2_property (wsV RX2 113 RX2 yX2_meetingJointsOf wsX2_meetingJointsOf) := goodIn_app (goodIn_of _ (by decide +kernel)) ggX2_property_X2_meetingJointsOf
set_option maxRecDepth 20000 in
theorem ggX2_property_X2_fillersOf : GoodIn wsX2_property wsX2_fillersOf := goodIn_r _ [47, 14, 15, 16, 4, 17, 18, 7, 8, 9, 19, 20, 21, 22, 23, 48, 49, 50, 51, 52, 53, 54] (by decide +kernel) (by decide +kernel)
set_option maxRecDepth 20000 in
theorem gX2_property_X2_fillersOf : GoodIn wsX2_property (wsV RX2 116 RX2 yX2_fillersOf wsX2_fillersOf) := goodIn_app (goodIn_of _ (by decide +kernel)) ggX2_property_X2_fillersOf
theorem dX2_property_0 : decode cX2_property 0 = .ok (.iload_n 2, 1) := by decide +kernel
theorem dX2_property_1 : decode cX2_property 1 = .ok (.tableswitch 83 0 5 #[39, 45, 51, 57, 71, 77], 39) := by decide +kernel
theorem dX2_property_40 : decode cX2_property 40 = .ok (.aload_n 0, 1) := by decide +kernel
theorem dX2_property_41 : decode cX2_property 41 = .ok (.iload_n 1, 1) := by decide +kernel
theorem dX2_property_42 : decode cX2_property 42 = .ok (.invokevirtual 104, 3) := by decide +kernel
theorem dX2_property_45 : decode cX2_property 45 = .ok (.ireturn, 1) := by decide +kernel
theorem dX2_property_46 : decode cX2_property 46 = .ok (.aload_n 0, 1) := by decide +kernel
theorem dX2_property_47 : decode cX2_property 47 = .ok (.iload_n 1, 1) := by decide +kernel
theorem dX2_property_48 : decode cX2_property 48 = .ok (.invokevirtual 107, 3) := by decide +kernel
theorem dX2_property_51 : decode cX2_property 51 = .ok (.ireturn, 1) := by decide +kernel
theorem dX2_property_52 : decode cX2_property 52 = .ok (.aload_n 0, 1) := by decide +kernel
theorem dX2_property_53 : decode cX2_property 53 = .ok (.iload_n 1, 1) := by decide +kernel
theorem dX2_property_54 : decode cX2_property 54 = .ok (.invokevirtual 68, 3) := by decide +kernel
theorem dX2_property_57 : decode cX2_property 57 = .ok (.ireturn, 1) := by decide +kernel
theorem dX2_property_58 : decode cX2_property 58 = .ok (.aload_n 0, 1) := by decide +kernel
theorem dX2_property_59 : decode cX2_property 59 = .ok (.iload_n 1, 1) := by decide +kernel
theorem dX2_property_60 : decode cX2_property 60 = .ok (.invokevirtual 68, 3) := by decide +kernel
theorem dX2_property_63 : decode cX2_property 63 = .ok (.ifCond .ne 7, 3) := by decide +kernel
theorem dX2_property_66 : decode cX2_property 66 = .ok (.iconst 1, 1) := by decide +kernel
theorem dX2_property_67 : decode cX2_property 67 = .ok (.goto 4, 3) := by decide +kernel
theorem dX2_property_70 : decode cX2_property 70 = .ok (.iconst 0, 1) := by decide +kernel
theorem dX2_property_71 : decode cX2_property 71 = .ok (.ireturn, 1) := by decide +kernel
theorem dX2_property_72 : decode cX2_property 72 = .ok (.aload_n 0, 1) := by decide +kernel
theorem dX2_property_73 : decode cX2_property 73 = .ok (.iload_n 1, 1) := by decide +kernel
theorem dX2_property_74 : decode cX2_property 74 = .ok (.invokevirtual 110, 3) := by decide +kernel
theorem dX2_property_77 : decode cX2_property 77 = .ok (.ireturn, 1) := by decide +kernel
theorem dX2_property_78 : decode cX2_property 78 = .ok (.aload_n 0, 1) := by decide +kernel
theorem dX2_property_79 : decode cX2_property 79 = .ok (.iload_n 1, 1) := by decide +kernel
theorem dX2_property_80 : decode cX2_property 80 = .ok (.invokevirtual 113, 3) := by decide +kernel
theorem dX2_property_83 : decode cX2_property 83 = .ok (.ireturn, 1) := by decide +kernel
theorem dX2_property_84 : decode cX2_property 84 = .ok (.aload_n 0, 1) := by decide +kernel
theorem dX2_property_85 : decode cX2_property 85 = .ok (.iload_n 1, 1) := by decide +kernel
theorem dX2_property_86 : decode cX2_property 86 = .ok (.invokevirtual 116, 3) := by decide +kernel
theorem dX2_property_89 : decode cX2_property 89 = .ok (.ireturn, 1) := by decide +kernel
set_option maxRecDepth 20000 in
theorem ggX2_summed_X2_property : GoodIn wsX2_summed wsX2_property := goodIn_r _ [5, 6, 7, 8, 4, 9, 10, 11, 12, 13, 14, 15, 16, 17, 18, 19, 20, 21, 22, 23, 24, 25, 26, 27, 28, 29, 30, 31, 32, 33, 34, 35, 36, 37, 38, 39, 40, 41, 42, 43, 44, 45, 46, 47, 48, 49, 50, 51, 52, 53, 54, 55, 56, 57, 58] (by decide +kernel) (by decide +kernel)
set_option maxRecDepth 20000 in
theorem gX2_summed_X2_property : GoodIn wsX2_summed (wsV RX2 119 RX2 yX2_property wsX2_property) := goodIn_app (goodIn_of _ (by decide +kernel)) ggX2_summed_X2_property
theorem dX2_summed_0 : decode cX2_summed 0 = .ok (.iconst 0, 1) := by decide +kernel
theorem dX2_summed_1 : decode cX2_summed 1 = .ok (.istore_n 2, 1) := by decide +kernel
theorem dX2_summed_2 : decode cX2_summed 2 = .ok (.iconst 0, 1) := by decide +kernel
theorem dX2_summed_3 : decode cX2_summed 3 = .ok (.istore_n 3, 1) := by decide +kernel
theorem dX2_summed_4 : decode cX2_summed 4 = .ok (.iload_n 3, 1) := by decide +kernel
theorem dX2_summed_5 : decode cX2_summed 5 = .ok (.bipush 6, 2) := by decide +kernel
theorem dX2_summed_7 : decode cX2_summed 7 = .ok (.if_icmp .ge 18, 3) := by decide +kernel
theorem dX2_summed_10 : decode cX2_summed 10 = .ok (.iload_n 2, 1) := by decide +kernel
theorem dX2_summed_11 : decode cX2_summed 11 = .ok (.aload_n 0, 1) := by decide +kernel
theorem dX2_summed_12 : decode cX2_summed 12 = .ok (.iload_n 3, 1) := by decide +kernel
theorem dX2_summed_13 : decode cX2_summed 13 = .ok (.iload_n 1, 1) := by decide +kernel
theorem dX2_summed_14 : decode cX2_summed 14 = .ok (.invokevirtual 119, 3) := by decide +kernel
theorem dX2_summed_17 : decode cX2_summed 17 = .ok (.iadd, 1) := by decide +kernel
theorem dX2_summed_18 : decode cX2_summed 18 = .ok (.istore_n 2, 1) := by decide +kernel
theorem dX2_summed_19 : decode cX2_summed 19 = .ok (.iinc 3 1, 3) := by decide +kernel
theorem dX2_summed_22 : decode cX2_summed 22 = .ok (.goto (-18), 3) := by decide +kernel
theorem dX2_summed_25 : decode cX2_summed 25 = .ok (.iload_n 2, 1) := by decide +kernel
theorem dX2_summed_26 : decode cX2_summed 26 = .ok (.ireturn, 1) := by decide +kernel
set_option maxRecDepth 20000 in
theorem ggX2_throughJoints_X2_cellsOf : GoodIn wsX2_throughJoints wsX2_cellsOf := goodIn_r _ [5, 6, 7, 8, 4, 9, 24, 25, 26, 27, 28, 29, 30] (by decide +kernel) (by decide +kernel)
set_option maxRecDepth 20000 in
theorem gX2_throughJoints_X2_cellsOf : GoodIn wsX2_throughJoints (wsV RX2 104 RX2 yX2_cellsOf wsX2_cellsOf) := goodIn_app (goodIn_of _ (by decide +kernel)) ggX2_throughJoints_X2_cellsOf
set_option maxRecDepth 20000 in
theorem ggX2_throughJoints_X2_hasJoint : GoodIn wsX2_throughJoints wsX2_hasJoint := goodIn_r _ [13, 6, 14, 15, 24, 25, 26, 27, 28, 29, 30] (by decide +kernel) (by decide +kernel)
set_option maxRecDepth 20000 in
theorem gX2_throughJoints_X2_hasJoint : GoodIn wsX2_throughJoints (wsV RX2 60 RX2 yX2_hasJoint wsX2_hasJoint) := goodIn_app (goodIn_of _ (by decide +kernel)) ggX2_throughJoints_X2_hasJoint
set_option maxRecDepth 20000 in
theorem ggX2_throughJoints_X2_runsThrough : GoodIn wsX2_throughJoints wsX2_runsThrough := goodIn_r _ [19, 20, 21, 22, 4, 23, 6, 10, 11, 12, 13, 14, 15, 24, 25, 26, 27, 28, 29, 30] (by decide +kernel) (by decide +kernel)
set_option maxRecDepth 20000 in
theorem gX2_throughJoints_X2_runsThrough : GoodIn wsX2_throughJoints (wsV RX2 78 RX2 yX2_runsThrough wsX2_runsThrough) := goodIn_app (goodIn_of _ (by decide +kernel)) ggX2_throughJoints_X2_runsThrough
theorem dX2_throughJoints_0 : decode cX2_throughJoints 0 = .ok (.iconst 0, 1) := by decide +kernel
theorem dX2_throughJoints_1 : decode cX2_throughJoints 1 = .ok (.istore_n 1, 1) := by decide +kernel
theorem dX2_throughJoints_2 : decode cX2_throughJoints 2 = .ok (.iconst 2, 1) := by decide +kernel
theorem dX2_throughJoints_3 : decode cX2_throughJoints 3 = .ok (.istore_n 2, 1) := by decide +kernel
theorem dX2_throughJoints_4 : decode cX2_throughJoints 4 = .ok (.iload_n 2, 1) := by decide +kernel
theorem dX2_throughJoints_5 : decode cX2_throughJoints 5 = .ok (.bipush 6, 2) := by decide +kernel
theorem dX2_throughJoints_7 : decode cX2_throughJoints 7 = .ok (.if_icmp .ge 58, 3) := by decide +kernel
theorem dX2_throughJoints_10 : decode cX2_throughJoints 10 = .ok (.aload_n 0, 1) := by decide +kernel
theorem dX2_throughJoints_11 : decode cX2_throughJoints 11 = .ok (.iload_n 2, 1) := by decide +kernel
theorem dX2_throughJoints_12 : decode cX2_throughJoints 12 = .ok (.invokevirtual 104, 3) := by decide +kernel
theorem dX2_throughJoints_15 : decode cX2_throughJoints 15 = .ok (.istore_n 3, 1) := by decide +kernel
theorem dX2_throughJoints_16 : decode cX2_throughJoints 16 = .ok (.iconst 1, 1) := by decide +kernel
theorem dX2_throughJoints_17 : decode cX2_throughJoints 17 = .ok (.istore 4, 2) := by decide +kernel
theorem dX2_throughJoints_19 : decode cX2_throughJoints 19 = .ok (.iload 4, 2) := by decide +kernel
theorem dX2_throughJoints_21 : decode cX2_throughJoints 21 = .ok (.iload_n 3, 1) := by decide +kernel
theorem dX2_throughJoints_22 : decode cX2_throughJoints 22 = .ok (.if_icmp .ge 37, 3) := by decide +kernel
theorem dX2_throughJoints_25 : decode cX2_throughJoints 25 = .ok (.iload_n 1, 1) := by decide +kernel
theorem dX2_throughJoints_26 : decode cX2_throughJoints 26 = .ok (.aload_n 0, 1) := by decide +kernel
theorem dX2_throughJoints_27 : decode cX2_throughJoints 27 = .ok (.iload_n 2, 1) := by decide +kernel
theorem dX2_throughJoints_28 : decode cX2_throughJoints 28 = .ok (.iload 4, 2) := by decide +kernel
theorem dX2_throughJoints_30 : decode cX2_throughJoints 30 = .ok (.invokevirtual 60, 3) := by decide +kernel
theorem dX2_throughJoints_33 : decode cX2_throughJoints 33 = .ok (.ifCond .eq 17, 3) := by decide +kernel
theorem dX2_throughJoints_36 : decode cX2_throughJoints 36 = .ok (.aload_n 0, 1) := by decide +kernel
theorem dX2_throughJoints_37 : decode cX2_throughJoints 37 = .ok (.iload_n 2, 1) := by decide +kernel
theorem dX2_throughJoints_38 : decode cX2_throughJoints 38 = .ok (.iload 4, 2) := by decide +kernel
theorem dX2_throughJoints_40 : decode cX2_throughJoints 40 = .ok (.invokevirtual 78, 3) := by decide +kernel
theorem dX2_throughJoints_43 : decode cX2_throughJoints 43 = .ok (.ifCond .eq 7, 3) := by decide +kernel
theorem dX2_throughJoints_46 : decode cX2_throughJoints 46 = .ok (.iconst 1, 1) := by decide +kernel
theorem dX2_throughJoints_47 : decode cX2_throughJoints 47 = .ok (.goto 4, 3) := by decide +kernel
theorem dX2_throughJoints_50 : decode cX2_throughJoints 50 = .ok (.iconst 0, 1) := by decide +kernel
theorem dX2_throughJoints_51 : decode cX2_throughJoints 51 = .ok (.iadd, 1) := by decide +kernel
theorem dX2_throughJoints_52 : decode cX2_throughJoints 52 = .ok (.istore_n 1, 1) := by decide +kernel
theorem dX2_throughJoints_53 : decode cX2_throughJoints 53 = .ok (.iinc 4 1, 3) := by decide +kernel
theorem dX2_throughJoints_56 : decode cX2_throughJoints 56 = .ok (.goto (-37), 3) := by decide +kernel
theorem dX2_throughJoints_59 : decode cX2_throughJoints 59 = .ok (.iinc 2 1, 3) := by decide +kernel
theorem dX2_throughJoints_62 : decode cX2_throughJoints 62 = .ok (.goto (-58), 3) := by decide +kernel
theorem dX2_throughJoints_65 : decode cX2_throughJoints 65 = .ok (.iload_n 1, 1) := by decide +kernel
theorem dX2_throughJoints_66 : decode cX2_throughJoints 66 = .ok (.ireturn, 1) := by decide +kernel
set_option maxRecDepth 20000 in
theorem ggX2_stockCells_X2_inStock : GoodIn wsX2_stockCells wsX2_inStock := goodIn_r _ [5, 6, 7, 8, 9, 10, 11, 12, 13] (by decide +kernel) (by decide +kernel)
set_option maxRecDepth 20000 in
theorem gX2_stockCells_X2_inStock : GoodIn wsX2_stockCells (wsV RX2 64 RX2 yX2_inStock wsX2_inStock) := goodIn_app (goodIn_of _ (by decide +kernel)) ggX2_stockCells_X2_inStock
theorem dX2_stockCells_0 : decode cX2_stockCells 0 = .ok (.iconst 0, 1) := by decide +kernel
theorem dX2_stockCells_1 : decode cX2_stockCells 1 = .ok (.istore_n 1, 1) := by decide +kernel
theorem dX2_stockCells_2 : decode cX2_stockCells 2 = .ok (.iconst 1, 1) := by decide +kernel
theorem dX2_stockCells_3 : decode cX2_stockCells 3 = .ok (.istore_n 2, 1) := by decide +kernel
theorem dX2_stockCells_4 : decode cX2_stockCells 4 = .ok (.iload_n 2, 1) := by decide +kernel
theorem dX2_stockCells_5 : decode cX2_stockCells 5 = .ok (.bipush 6, 2) := by decide +kernel
theorem dX2_stockCells_7 : decode cX2_stockCells 7 = .ok (.if_icmp .gt 19, 3) := by decide +kernel
theorem dX2_stockCells_10 : decode cX2_stockCells 10 = .ok (.iload_n 1, 1) := by decide +kernel
theorem dX2_stockCells_11 : decode cX2_stockCells 11 = .ok (.iload_n 2, 1) := by decide +kernel
theorem dX2_stockCells_12 : decode cX2_stockCells 12 = .ok (.aload_n 0, 1) := by decide +kernel
theorem dX2_stockCells_13 : decode cX2_stockCells 13 = .ok (.iload_n 2, 1) := by decide +kernel
theorem dX2_stockCells_14 : decode cX2_stockCells 14 = .ok (.invokevirtual 64, 3) := by decide +kernel
theorem dX2_stockCells_17 : decode cX2_stockCells 17 = .ok (.imul, 1) := by decide +kernel
theorem dX2_stockCells_18 : decode cX2_stockCells 18 = .ok (.iadd, 1) := by decide +kernel
theorem dX2_stockCells_19 : decode cX2_stockCells 19 = .ok (.istore_n 1, 1) := by decide +kernel
theorem dX2_stockCells_20 : decode cX2_stockCells 20 = .ok (.iinc 2 1, 3) := by decide +kernel
theorem dX2_stockCells_23 : decode cX2_stockCells 23 = .ok (.goto (-19), 3) := by decide +kernel
theorem dX2_stockCells_26 : decode cX2_stockCells 26 = .ok (.iload_n 1, 1) := by decide +kernel
theorem dX2_stockCells_27 : decode cX2_stockCells 27 = .ok (.ireturn, 1) := by decide +kernel
theorem dX3_init_0 : decode cX3_init 0 = .ok (.aload_n 0, 1) := by decide +kernel
theorem dX3_init_1 : decode cX3_init 1 = .ok (.invokespecial 3, 3) := by decide +kernel
theorem dX3_init_4 : decode cX3_init 4 = .ok (.aload_n 0, 1) := by decide +kernel
theorem dX3_init_5 : decode cX3_init 5 = .ok (.bipush 60, 2) := by decide +kernel
theorem dX3_init_7 : decode cX3_init 7 = .ok (.newarray .char, 2) := by decide +kernel
theorem dX3_init_9 : decode cX3_init 9 = .ok (.putfield 9, 3) := by decide +kernel
theorem dX3_init_12 : decode cX3_init 12 = .ok (.return_, 1) := by decide +kernel
theorem dX3_length_0 : decode cX3_length 0 = .ok (.aload_n 0, 1) := by decide +kernel
theorem dX3_length_1 : decode cX3_length 1 = .ok (.getfield 15, 3) := by decide +kernel
theorem dX3_length_4 : decode cX3_length 4 = .ok (.ireturn, 1) := by decide +kernel
theorem dX3_add_0 : decode cX3_add 0 = .ok (.aload_n 0, 1) := by decide +kernel
theorem dX3_add_1 : decode cX3_add 1 = .ok (.getfield 15, 3) := by decide +kernel
theorem dX3_add_4 : decode cX3_add 4 = .ok (.ifCond .lt 35, 3) := by decide +kernel
theorem dX3_add_7 : decode cX3_add 7 = .ok (.aload_n 0, 1) := by decide +kernel
theorem dX3_add_8 : decode cX3_add 8 = .ok (.getfield 15, 3) := by decide +kernel
theorem dX3_add_11 : decode cX3_add 11 = .ok (.aload_n 0, 1) := by decide +kernel
theorem dX3_add_12 : decode cX3_add 12 = .ok (.getfield 9, 3) := by decide +kernel
theorem dX3_add_15 : decode cX3_add 15 = .ok (.arraylength, 1) := by decide +kernel
theorem dX3_add_16 : decode cX3_add 16 = .ok (.if_icmp .ge 23, 3) := by decide +kernel
theorem dX3_add_19 : decode cX3_add 19 = .ok (.aload_n 0, 1) := by decide +kernel
theorem dX3_add_20 : decode cX3_add 20 = .ok (.getfield 9, 3) := by decide +kernel
theorem dX3_add_23 : decode cX3_add 23 = .ok (.aload_n 0, 1) := by decide +kernel
theorem dX3_add_24 : decode cX3_add 24 = .ok (.getfield 15, 3) := by decide +kernel
theorem dX3_add_27 : decode cX3_add 27 = .ok (.iload_n 1, 1) := by decide +kernel
theorem dX3_add_28 : decode cX3_add 28 = .ok (.castore, 1) := by decide +kernel
theorem dX3_add_29 : decode cX3_add 29 = .ok (.aload_n 0, 1) := by decide +kernel
theorem dX3_add_30 : decode cX3_add 30 = .ok (.dup, 1) := by decide +kernel
theorem dX3_add_31 : decode cX3_add 31 = .ok (.getfield 15, 3) := by decide +kernel
theorem dX3_add_34 : decode cX3_add 34 = .ok (.iconst 1, 1) := by decide +kernel
theorem dX3_add_35 : decode cX3_add 35 = .ok (.iadd, 1) := by decide +kernel
theorem dX3_add_36 : decode cX3_add 36 = .ok (.putfield 15, 3) := by decide +kernel
theorem dX3_add_39 : decode cX3_add 39 = .ok (.aload_n 0, 1) := by decide +kernel
theorem dX3_add_40 : decode cX3_add 40 = .ok (.getfield 15, 3) := by decide +kernel
theorem dX3_add_43 : decode cX3_add 43 = .ok (.ireturn, 1) := by decide +kernel
theorem dX3_drop_0 : decode cX3_drop 0 = .ok (.aload_n 0, 1) := by decide +kernel
theorem dX3_drop_1 : decode cX3_drop 1 = .ok (.getfield 15, 3) := by decide +kernel
theorem dX3_drop_4 : decode cX3_drop 4 = .ok (.istore_n 1, 1) := by decide +kernel
theorem dX3_drop_5 : decode cX3_drop 5 = .ok (.aload_n 0, 1) := by decide +kernel
theorem dX3_drop_6 : decode cX3_drop 6 = .ok (.iconst 0, 1) := by decide +kernel
theorem dX3_drop_7 : decode cX3_drop 7 = .ok (.putfield 15, 3) := by decide +kernel
theorem dX3_drop_10 : decode cX3_drop 10 = .ok (.iload_n 1, 1) := by decide +kernel
theorem dX3_drop_11 : decode cX3_drop 11 = .ok (.ireturn, 1) := by decide +kernel
theorem dX3_signAt_0 : decode cX3_signAt 0 = .ok (.iload_n 1, 1) := by decide +kernel
theorem dX3_signAt_1 : decode cX3_signAt 1 = .ok (.ifCond .lt 29, 3) := by decide +kernel
theorem dX3_signAt_4 : decode cX3_signAt 4 = .ok (.iload_n 1, 1) := by decide +kernel
theorem dX3_signAt_5 : decode cX3_signAt 5 = .ok (.aload_n 0, 1) := by decide +kernel
theorem dX3_signAt_6 : decode cX3_signAt 6 = .ok (.getfield 15, 3) := by decide +kernel
theorem dX3_signAt_9 : decode cX3_signAt 9 = .ok (.if_icmp .ge 21, 3) := by decide +kernel
theorem dX3_signAt_12 : decode cX3_signAt 12 = .ok (.iload_n 1, 1) := by decide +kernel
theorem dX3_signAt_13 : decode cX3_signAt 13 = .ok (.aload_n 0, 1) := by decide +kernel
theorem dX3_signAt_14 : decode cX3_signAt 14 = .ok (.getfield 9, 3) := by decide +kernel
theorem dX3_signAt_17 : decode cX3_signAt 17 = .ok (.arraylength, 1) := by decide +kernel
theorem dX3_signAt_18 : decode cX3_signAt 18 = .ok (.if_icmp .ge 12, 3) := by decide +kernel
theorem dX3_signAt_21 : decode cX3_signAt 21 = .ok (.aload_n 0, 1) := by decide +kernel
theorem dX3_signAt_22 : decode cX3_signAt 22 = .ok (.getfield 9, 3) := by decide +kernel
theorem dX3_signAt_25 : decode cX3_signAt 25 = .ok (.iload_n 1, 1) := by decide +kernel
theorem dX3_signAt_26 : decode cX3_signAt 26 = .ok (.caload, 1) := by decide +kernel
theorem dX3_signAt_27 : decode cX3_signAt 27 = .ok (.goto 4, 3) := by decide +kernel
theorem dX3_signAt_30 : decode cX3_signAt 30 = .ok (.iconst 0, 1) := by decide +kernel
theorem dX3_signAt_31 : decode cX3_signAt 31 = .ok (.ireturn, 1) := by decide +kernel
theorem dX3_isCourse_0 : decode cX3_isCourse 0 = .ok (.iload_n 0, 1) := by decide +kernel
theorem dX3_isCourse_1 : decode cX3_isCourse 1 = .ok (.bipush 97, 2) := by decide +kernel
theorem dX3_isCourse_3 : decode cX3_isCourse 3 = .ok (.if_icmp .lt 13, 3) := by decide +kernel
theorem dX3_isCourse_6 : decode cX3_isCourse 6 = .ok (.iload_n 0, 1) := by decide +kernel
theorem dX3_isCourse_7 : decode cX3_isCourse 7 = .ok (.bipush 102, 2) := by decide +kernel
theorem dX3_isCourse_9 : decode cX3_isCourse 9 = .ok (.if_icmp .gt 7, 3) := by decide +kernel
theorem dX3_isCourse_12 : decode cX3_isCourse 12 = .ok (.iconst 1, 1) := by decide +kernel
theorem dX3_isCourse_13 : decode cX3_isCourse 13 = .ok (.goto 4, 3) := by decide +kernel
theorem dX3_isCourse_16 : decode cX3_isCourse 16 = .ok (.iconst 0, 1) := by decide +kernel
theorem dX3_isCourse_17 : decode cX3_isCourse 17 = .ok (.ireturn, 1) := by decide +kernel
theorem dX3_isSize_0 : decode cX3_isSize 0 = .ok (.iload_n 0, 1) := by decide +kernel
theorem dX3_isSize_1 : decode cX3_isSize 1 = .ok (.bipush 49, 2) := by decide +kernel
theorem dX3_isSize_3 : decode cX3_isSize 3 = .ok (.if_icmp .lt 13, 3) := by decide +kernel
theorem dX3_isSize_6 : decode cX3_isSize 6 = .ok (.iload_n 0, 1) := by decide +kernel
theorem dX3_isSize_7 : decode cX3_isSize 7 = .ok (.bipush 54, 2) := by decide +kernel
theorem dX3_isSize_9 : decode cX3_isSize 9 = .ok (.if_icmp .gt 7, 3) := by decide +kernel
theorem dX3_isSize_12 : decode cX3_isSize 12 = .ok (.iconst 1, 1) := by decide +kernel
theorem dX3_isSize_13 : decode cX3_isSize 13 = .ok (.goto 4, 3) := by decide +kernel
theorem dX3_isSize_16 : decode cX3_isSize 16 = .ok (.iconst 0, 1) := by decide +kernel
theorem dX3_isSize_17 : decode cX3_isSize 17 = .ok (.ireturn, 1) := by decide +kernel
set_option maxRecDepth 20000 in
theorem ggX3_mayFollow_X3_isCourse : GoodIn wsX3_mayFollow wsX3_isCourse := goodIn_r _ [4] (by decide +kernel) (by decide +kernel)
set_option maxRecDepth 20000 in
theorem gX3_mayFollow_X3_isCourse : GoodIn wsX3_mayFollow (va_wsS RX3 19 yX3_isCourse wsX3_isCourse) := goodIn_app (goodIn_of _ (by decide +kernel)) ggX3_mayFollow_X3_isCourse
set_option maxRecDepth 20000 in
theorem ggX3_mayFollow_X3_isSize : GoodIn wsX3_mayFollow wsX3_isSize := goodIn_r _ [7] (by decide +kernel) (by decide +kernel)
set_option maxRecDepth 20000 in
theorem gX3_mayFollow_X3_isSize : GoodIn wsX3_mayFollow (va_wsS RX3 23 yX3_isSize wsX3_isSize) := goodIn_app (goodIn_of _ (by decide +kernel)) ggX3_mayFollow_X3_isSize
theorem dX3_mayFollow_0 : decode cX3_mayFollow 0 = .ok (.iload_n 0, 1) := by decide +kernel
theorem dX3_mayFollow_1 : decode cX3_mayFollow 1 = .ok (.bipush 59, 2) := by decide +kernel
theorem dX3_mayFollow_3 : decode cX3_mayFollow 3 = .ok (.if_icmp .ne 8, 3) := by decide +kernel
theorem dX3_mayFollow_6 : decode cX3_mayFollow 6 = .ok (.iload_n 1, 1) := by decide +kernel
theorem dX3_mayFollow_7 : decode cX3_mayFollow 7 = .ok (.invokestatic 19, 3) := by decide +kernel
theorem dX3_mayFollow_10 : decode cX3_mayFollow 10 = .ok (.ireturn, 1) := by decide +kernel
theorem dX3_mayFollow_11 : decode cX3_mayFollow 11 = .ok (.iload_n 0, 1) := by decide +kernel
theorem dX3_mayFollow_12 : decode cX3_mayFollow 12 = .ok (.invokestatic 19, 3) := by decide +kernel
theorem dX3_mayFollow_15 : decode cX3_mayFollow 15 = .ok (.ifCond .eq 8, 3) := by decide +kernel
theorem dX3_mayFollow_18 : decode cX3_mayFollow 18 = .ok (.iload_n 1, 1) := by decide +kernel
theorem dX3_mayFollow_19 : decode cX3_mayFollow 19 = .ok (.invokestatic 23, 3) := by decide +kernel
theorem dX3_mayFollow_22 : decode cX3_mayFollow 22 = .ok (.ireturn, 1) := by decide +kernel
theorem dX3_mayFollow_23 : decode cX3_mayFollow 23 = .ok (.iload_n 1, 1) := by decide +kernel
theorem dX3_mayFollow_24 : decode cX3_mayFollow 24 = .ok (.invokestatic 23, 3) := by decide +kernel
theorem dX3_mayFollow_27 : decode cX3_mayFollow 27 = .ok (.ifCond .ne 22, 3) := by decide +kernel
theorem dX3_mayFollow_30 : decode cX3_mayFollow 30 = .ok (.iload_n 1, 1) := by decide +kernel
theorem dX3_mayFollow_31 : decode cX3_mayFollow 31 = .ok (.bipush 59, 2) := by decide +kernel
theorem dX3_mayFollow_33 : decode cX3_mayFollow 33 = .ok (.if_icmp .eq 16, 3) := by decide +kernel
theorem dX3_mayFollow_36 : decode cX3_mayFollow 36 = .ok (.iload_n 1, 1) := by decide +kernel
theorem dX3_mayFollow_37 : decode cX3_mayFollow 37 = .ok (.bipush 33, 2) := by decide +kernel
theorem dX3_mayFollow_39 : decode cX3_mayFollow 39 = .ok (.if_icmp .ne 14, 3) := by decide +kernel
theorem dX3_mayFollow_42 : decode cX3_mayFollow 42 = .ok (.iload_n 0, 1) := by decide +kernel
theorem dX3_mayFollow_43 : decode cX3_mayFollow 43 = .ok (.invokestatic 23, 3) := by decide +kernel
theorem dX3_mayFollow_46 : decode cX3_mayFollow 46 = .ok (.ifCond .eq 7, 3) := by decide +kernel
theorem dX3_mayFollow_49 : decode cX3_mayFollow 49 = .ok (.iconst 1, 1) := by decide +kernel
theorem dX3_mayFollow_50 : decode cX3_mayFollow 50 = .ok (.goto 4, 3) := by decide +kernel
theorem dX3_mayFollow_53 : decode cX3_mayFollow 53 = .ok (.iconst 0, 1) := by decide +kernel
theorem dX3_mayFollow_54 : decode cX3_mayFollow 54 = .ok (.ireturn, 1) := by decide +kernel
set_option maxRecDepth 20000 in
theorem ggX3_wrongAt_X3_signAt : GoodIn wsX3_wrongAt wsX3_signAt := goodIn_r _ [6, 1, 7, 17, 18] (by decide +kernel) (by decide +kernel)
set_option maxRecDepth 20000 in
theorem gX3_wrongAt_X3_signAt : GoodIn wsX3_wrongAt (wsV RX3 26 RX3 yX3_signAt wsX3_signAt) := goodIn_app (goodIn_of _ (by decide +kernel)) ggX3_wrongAt_X3_signAt
set_option maxRecDepth 20000 in
theorem ggX3_wrongAt_X3_mayFollow : GoodIn wsX3_wrongAt wsX3_mayFollow := goodIn_r _ [10, 11, 12, 5, 13, 14, 15, 16] (by decide +kernel) (by decide +kernel)
set_option maxRecDepth 20000 in
theorem gX3_wrongAt_X3_mayFollow : GoodIn wsX3_wrongAt (va_wsS RX3 30 yX3_mayFollow wsX3_mayFollow) := goodIn_app (goodIn_of _ (by decide +kernel)) ggX3_wrongAt_X3_mayFollow
theorem dX3_wrongAt_0 : decode cX3_wrongAt 0 = .ok (.bipush 59, 2) := by decide +kernel
theorem dX3_wrongAt_2 : decode cX3_wrongAt 2 = .ok (.istore_n 1, 1) := by decide +kernel
theorem dX3_wrongAt_3 : decode cX3_wrongAt 3 = .ok (.iconst 0, 1) := by decide +kernel
theorem dX3_wrongAt_4 : decode cX3_wrongAt 4 = .ok (.istore_n 2, 1) := by decide +kernel
theorem dX3_wrongAt_5 : decode cX3_wrongAt 5 = .ok (.iload_n 2, 1) := by decide +kernel
theorem dX3_wrongAt_6 : decode cX3_wrongAt 6 = .ok (.aload_n 0, 1) := by decide +kernel
theorem dX3_wrongAt_7 : decode cX3_wrongAt 7 = .ok (.getfield 15, 3) := by decide +kernel
theorem dX3_wrongAt_10 : decode cX3_wrongAt 10 = .ok (.if_icmp .ge 27, 3) := by decide +kernel
theorem dX3_wrongAt_13 : decode cX3_wrongAt 13 = .ok (.aload_n 0, 1) := by decide +kernel
theorem dX3_wrongAt_14 : decode cX3_wrongAt 14 = .ok (.iload_n 2, 1) := by decide +kernel
theorem dX3_wrongAt_15 : decode cX3_wrongAt 15 = .ok (.invokevirtual 26, 3) := by decide +kernel
theorem dX3_wrongAt_18 : decode cX3_wrongAt 18 = .ok (.istore_n 3, 1) := by decide +kernel
theorem dX3_wrongAt_19 : decode cX3_wrongAt 19 = .ok (.iload_n 1, 1) := by decide +kernel
theorem dX3_wrongAt_20 : decode cX3_wrongAt 20 = .ok (.iload_n 3, 1) := by decide +kernel
theorem dX3_wrongAt_21 : decode cX3_wrongAt 21 = .ok (.invokestatic 30, 3) := by decide +kernel
theorem dX3_wrongAt_24 : decode cX3_wrongAt 24 = .ok (.ifCond .ne 5, 3) := by decide +kernel
theorem dX3_wrongAt_27 : decode cX3_wrongAt 27 = .ok (.iload_n 2, 1) := by decide +kernel
theorem dX3_wrongAt_28 : decode cX3_wrongAt 28 = .ok (.ireturn, 1) := by decide +kernel
theorem dX3_wrongAt_29 : decode cX3_wrongAt 29 = .ok (.iload_n 3, 1) := by decide +kernel
theorem dX3_wrongAt_30 : decode cX3_wrongAt 30 = .ok (.istore_n 1, 1) := by decide +kernel
theorem dX3_wrongAt_31 : decode cX3_wrongAt 31 = .ok (.iinc 2 1, 3) := by decide +kernel
theorem dX3_wrongAt_34 : decode cX3_wrongAt 34 = .ok (.goto (-29), 3) := by decide +kernel
theorem dX3_wrongAt_37 : decode cX3_wrongAt 37 = .ok (.aload_n 0, 1) := by decide +kernel
theorem dX3_wrongAt_38 : decode cX3_wrongAt 38 = .ok (.getfield 15, 3) := by decide +kernel
theorem dX3_wrongAt_41 : decode cX3_wrongAt 41 = .ok (.ireturn, 1) := by decide +kernel
set_option maxRecDepth 20000 in
theorem ggX3_isComplete_X3_signAt : GoodIn wsX3_isComplete wsX3_signAt := goodIn_r _ [6, 1, 7, 21, 22] (by decide +kernel) (by decide +kernel)
set_option maxRecDepth 20000 in
theorem gX3_isComplete_X3_signAt : GoodIn wsX3_isComplete (wsV RX3 26 RX3 yX3_signAt wsX3_signAt) := goodIn_app (goodIn_of _ (by decide +kernel)) ggX3_isComplete_X3_signAt
set_option maxRecDepth 20000 in
theorem ggX3_isComplete_X3_isSize : GoodIn wsX3_isComplete wsX3_isSize := goodIn_r _ [10] (by decide +kernel) (by decide +kernel)
set_option maxRecDepth 20000 in
theorem gX3_isComplete_X3_isSize : GoodIn wsX3_isComplete (va_wsS RX3 23 yX3_isSize wsX3_isSize) := goodIn_app (goodIn_of _ (by decide +kernel)) ggX3_isComplete_X3_isSize
set_option maxRecDepth 20000 in
theorem ggX3_isComplete_X3_wrongAt : GoodIn wsX3_isComplete wsX3_wrongAt := goodIn_r _ [14, 1, 2, 3, 4, 5, 6, 7, 15, 16, 17, 18, 19, 20, 8, 9, 10, 21, 22] (by decide +kernel) (by decide +kernel)
set_option maxRecDepth 20000 in
theorem gX3_isComplete_X3_wrongAt : GoodIn wsX3_isComplete (wsV RX3 34 RX3 yX3_wrongAt wsX3_wrongAt) := goodIn_app (goodIn_of _ (by decide +kernel)) ggX3_isComplete_X3_wrongAt
theorem dX3_isComplete_0 : decode cX3_isComplete 0 = .ok (.aload_n 0, 1) := by decide +kernel
theorem dX3_isComplete_1 : decode cX3_isComplete 1 = .ok (.aload_n 0, 1) := by decide +kernel
theorem dX3_isComplete_2 : decode cX3_isComplete 2 = .ok (.getfield 15, 3) := by decide +kernel
theorem dX3_isComplete_5 : decode cX3_isComplete 5 = .ok (.iconst 1, 1) := by decide +kernel
theorem dX3_isComplete_6 : decode cX3_isComplete 6 = .ok (.isub, 1) := by decide +kernel
theorem dX3_isComplete_7 : decode cX3_isComplete 7 = .ok (.invokevirtual 26, 3) := by decide +kernel
theorem dX3_isComplete_10 : decode cX3_isComplete 10 = .ok (.istore_n 1, 1) := by decide +kernel
theorem dX3_isComplete_11 : decode cX3_isComplete 11 = .ok (.iload_n 1, 1) := by decide +kernel
theorem dX3_isComplete_12 : decode cX3_isComplete 12 = .ok (.invokestatic 23, 3) := by decide +kernel
theorem dX3_isComplete_15 : decode cX3_isComplete 15 = .ok (.ifCond .ne 9, 3) := by decide +kernel
theorem dX3_isComplete_18 : decode cX3_isComplete 18 = .ok (.iload_n 1, 1) := by decide +kernel
theorem dX3_isComplete_19 : decode cX3_isComplete 19 = .ok (.bipush 33, 2) := by decide +kernel
theorem dX3_isComplete_21 : decode cX3_isComplete 21 = .ok (.if_icmp .ne 18, 3) := by decide +kernel
theorem dX3_isComplete_24 : decode cX3_isComplete 24 = .ok (.aload_n 0, 1) := by decide +kernel
theorem dX3_isComplete_25 : decode cX3_isComplete 25 = .ok (.invokevirtual 34, 3) := by decide +kernel
theorem dX3_isComplete_28 : decode cX3_isComplete 28 = .ok (.aload_n 0, 1) := by decide +kernel
theorem dX3_isComplete_29 : decode cX3_isComplete 29 = .ok (.getfield 15, 3) := by decide +kernel
theorem dX3_isComplete_32 : decode cX3_isComplete 32 = .ok (.if_icmp .ne 7, 3) := by decide +kernel
theorem dX3_isComplete_35 : decode cX3_isComplete 35 = .ok (.iconst 1, 1) := by decide +kernel
theorem dX3_isComplete_36 : decode cX3_isComplete 36 = .ok (.goto 4, 3) := by decide +kernel
theorem dX3_isComplete_39 : decode cX3_isComplete 39 = .ok (.iconst 0, 1) := by decide +kernel
theorem dX3_isComplete_40 : decode cX3_isComplete 40 = .ok (.ireturn, 1) := by decide +kernel
set_option maxRecDepth 20000 in
theorem ggX4_init_X2_init : GoodIn wsX4_init wsX2_init := goodIn_r _ [23, 24, 2, 3, 25, 26, 27, 28, 29, 46, 47, 48, 49, 50, 51, 52] (by decide +kernel) (by decide +kernel)
set_option maxRecDepth 20000 in
theorem gX4_init_X2_init : GoodIn wsX4_init (wsX2_init) := ggX4_init_X2_init
set_option maxRecDepth 20000 in
theorem ggX4_init_X0_init : GoodIn wsX4_init wsX0_init := goodIn_r _ [31, 32, 2, 3, 25, 33, 58, 59, 60] (by decide +kernel) (by decide +kernel)
set_option maxRecDepth 20000 in
theorem gX4_init_X0_init_n21 : GoodIn wsX4_init (wsX0_init) := ggX4_init_X0_init
set_option maxRecDepth 20000 in
theorem ggX4_init_X1_init : GoodIn wsX4_init wsX1_init := goodIn_r _ [36, 37, 2, 3, 38, 39, 5, 6, 40, 22, 23, 24, 25, 26, 27, 28, 29, 61, 62, 63, 46, 47, 48, 49, 50, 51, 52] (by decide +kernel) (by decide +kernel)
set_option maxRecDepth 20000 in
theorem gX4_init_X1_init : GoodIn wsX4_init (wsX1_init) := ggX4_init_X1_init
set_option maxRecDepth 20000 in
theorem ggX4_init_X3_init : GoodIn wsX4_init wsX3_init := goodIn_r _ [42, 43, 2, 3, 44, 45, 64, 65] (by decide +kernel) (by decide +kernel)
set_option maxRecDepth 20000 in
theorem gX4_init_X3_init_n35 : GoodIn wsX4_init (wsX3_init) := ggX4_init_X3_init
theorem dX4_init_0 : decode cX4_init 0 = .ok (.aload_n 0, 1) := by decide +kernel
theorem dX4_init_1 : decode cX4_init 1 = .ok (.invokespecial 1, 3) := by decide +kernel
theorem dX4_init_4 : decode cX4_init 4 = .ok (.aload_n 0, 1) := by decide +kernel
theorem dX4_init_5 : decode cX4_init 5 = .ok (.new 7, 3) := by decide +kernel
theorem dX4_init_8 : decode cX4_init 8 = .ok (.dup, 1) := by decide +kernel
theorem dX4_init_9 : decode cX4_init 9 = .ok (.invokespecial 9, 3) := by decide +kernel
theorem dX4_init_12 : decode cX4_init 12 = .ok (.putfield 10, 3) := by decide +kernel
theorem dX4_init_15 : decode cX4_init 15 = .ok (.aload_n 0, 1) := by decide +kernel
theorem dX4_init_16 : decode cX4_init 16 = .ok (.new 7, 3) := by decide +kernel
theorem dX4_init_19 : decode cX4_init 19 = .ok (.dup, 1) := by decide +kernel
theorem dX4_init_20 : decode cX4_init 20 = .ok (.invokespecial 9, 3) := by decide +kernel
theorem dX4_init_23 : decode cX4_init 23 = .ok (.putfield 16, 3) := by decide +kernel
theorem dX4_init_26 : decode cX4_init 26 = .ok (.aload_n 0, 1) := by decide +kernel
theorem dX4_init_27 : decode cX4_init 27 = .ok (.new 19, 3) := by decide +kernel
theorem dX4_init_30 : decode cX4_init 30 = .ok (.dup, 1) := by decide +kernel
theorem dX4_init_31 : decode cX4_init 31 = .ok (.invokespecial 21, 3) := by decide +kernel
theorem dX4_init_34 : decode cX4_init 34 = .ok (.putfield 22, 3) := by decide +kernel
theorem dX4_init_37 : decode cX4_init 37 = .ok (.aload_n 0, 1) := by decide +kernel
theorem dX4_init_38 : decode cX4_init 38 = .ok (.new 26, 3) := by decide +kernel
theorem dX4_init_41 : decode cX4_init 41 = .ok (.dup, 1) := by decide +kernel
theorem dX4_init_42 : decode cX4_init 42 = .ok (.invokespecial 28, 3) := by decide +kernel
theorem dX4_init_45 : decode cX4_init 45 = .ok (.putfield 29, 3) := by decide +kernel
theorem dX4_init_48 : decode cX4_init 48 = .ok (.aload_n 0, 1) := by decide +kernel
theorem dX4_init_49 : decode cX4_init 49 = .ok (.new 33, 3) := by decide +kernel
theorem dX4_init_52 : decode cX4_init 52 = .ok (.dup, 1) := by decide +kernel
theorem dX4_init_53 : decode cX4_init 53 = .ok (.invokespecial 35, 3) := by decide +kernel
theorem dX4_init_56 : decode cX4_init 56 = .ok (.putfield 36, 3) := by decide +kernel
theorem dX4_init_59 : decode cX4_init 59 = .ok (.return_, 1) := by decide +kernel
set_option maxRecDepth 20000 in
theorem ggX4_stock_X4_needSize : GoodIn wsX4_stock wsX4_needSize := goodIn_ca (goodIn_r _ [6, 7, 8, 5, 9, 10, 11] (by decide +kernel) (by decide +kernel)) (goodIn_sub (fun _ h => List.mem_cons_of_mem _ (List.mem_append_right _ h)) (by decide +kernel))
set_option maxRecDepth 20000 in
theorem gX4_stock_X4_needSize : GoodIn wsX4_stock (va_wsS RX4 40 yX4_needSize wsX4_needSize) := goodIn_app (goodIn_of _ (by decide +kernel)) ggX4_stock_X4_needSize
set_option maxRecDepth 20000 in
theorem ggX4_stock_X4_needArgument : GoodIn wsX4_stock wsX4_needArgument := goodIn_ca (goodIn_r _ [9, 10, 11] (by decide +kernel) (by decide +kernel)) (goodIn_sub (fun _ h => List.mem_cons_of_mem _ (List.mem_append_right _ h)) (by decide +kernel))
set_option maxRecDepth 20000 in
theorem gX4_stock_X4_needArgument : GoodIn wsX4_stock (va_wsS RX4 44 yX4_needArgument wsX4_needArgument) := goodIn_app (goodIn_of _ (by decide +kernel)) ggX4_stock_X4_needArgument
set_option maxRecDepth 20000 in
theorem ggX4_stock_X1_save : GoodIn wsX4_stock wsX1_save := goodIn_r _ [16, 17, 18, 19, 20, 21, 22, 23, 24, 25, 15, 26, 27, 28, 29, 30, 31, 32, 33, 34, 35, 36, 37, 38, 39, 40, 41, 42, 43, 44, 45, 46, 47, 60, 61, 62, 63, 64, 65, 66, 67, 68, 69] (by decide +kernel) (by decide +kernel)
set_option maxRecDepth 20000 in
theorem gX4_stock_X1_save : GoodIn wsX4_stock (wsV RX4 48 RX1 yX1_save wsX1_save) := goodIn_app (goodIn_of _ (by decide +kernel)) ggX4_stock_X1_save
set_option maxRecDepth 20000 in
theorem ggX4_stock_X2_changeStock : GoodIn wsX4_stock wsX2_changeStock := goodIn_r _ [51, 36, 52, 53, 31, 54, 63, 64, 65, 66, 67, 68, 69] (by decide +kernel) (by decide +kernel)
set_option maxRecDepth 20000 in
theorem gX4_stock_X2_changeStock : GoodIn wsX4_stock (wsV RX4 52 RX2 yX2_changeStock wsX2_changeStock) := goodIn_app (goodIn_of _ (by decide +kernel)) ggX4_stock_X2_changeStock
theorem dX4_stock_0 : decode cX4_stock 0 = .ok (.iload_n 1, 1) := by decide +kernel
theorem dX4_stock_1 : decode cX4_stock 1 = .ok (.invokestatic 40, 3) := by decide +kernel
theorem dX4_stock_4 : decode cX4_stock 4 = .ok (.iload_n 2, 1) := by decide +kernel
theorem dX4_stock_5 : decode cX4_stock 5 = .ok (.ifCond .lt 13, 3) := by decide +kernel
theorem dX4_stock_8 : decode cX4_stock 8 = .ok (.iload_n 2, 1) := by decide +kernel
theorem dX4_stock_9 : decode cX4_stock 9 = .ok (.bipush 99, 2) := by decide +kernel
theorem dX4_stock_11 : decode cX4_stock 11 = .ok (.if_icmp .gt 7, 3) := by decide +kernel
theorem dX4_stock_14 : decode cX4_stock 14 = .ok (.iconst 1, 1) := by decide +kernel
theorem dX4_stock_15 : decode cX4_stock 15 = .ok (.goto 4, 3) := by decide +kernel
theorem dX4_stock_18 : decode cX4_stock 18 = .ok (.iconst 0, 1) := by decide +kernel
theorem dX4_stock_19 : decode cX4_stock 19 = .ok (.invokestatic 44, 3) := by decide +kernel
theorem dX4_stock_22 : decode cX4_stock 22 = .ok (.aload_n 0, 1) := by decide +kernel
theorem dX4_stock_23 : decode cX4_stock 23 = .ok (.getfield 29, 3) := by decide +kernel
theorem dX4_stock_26 : decode cX4_stock 26 = .ok (.aload_n 0, 1) := by decide +kernel
theorem dX4_stock_27 : decode cX4_stock 27 = .ok (.getfield 10, 3) := by decide +kernel
theorem dX4_stock_30 : decode cX4_stock 30 = .ok (.invokevirtual 48, 3) := by decide +kernel
theorem dX4_stock_33 : decode cX4_stock 33 = .ok (.aload_n 0, 1) := by decide +kernel
theorem dX4_stock_34 : decode cX4_stock 34 = .ok (.getfield 10, 3) := by decide +kernel
theorem dX4_stock_37 : decode cX4_stock 37 = .ok (.iload_n 1, 1) := by decide +kernel
theorem dX4_stock_38 : decode cX4_stock 38 = .ok (.iload_n 2, 1) := by decide +kernel
theorem dX4_stock_39 : decode cX4_stock 39 = .ok (.invokevirtual 52, 3) := by decide +kernel
theorem dX4_stock_42 : decode cX4_stock 42 = .ok (.ireturn, 1) := by decide +kernel
set_option maxRecDepth 20000 in
theorem ggX4_lay_X4_needCourse : GoodIn wsX4_lay wsX4_needCourse := goodIn_ca (goodIn_r _ [6, 7, 8, 5, 9, 10, 11] (by decide +kernel) (by decide +kernel)) (goodIn_sub (fun _ h => List.mem_cons_of_mem _ (List.mem_append_left _ (List.mem_append_left _ (List.mem_append_right _ h)))) (by decide +kernel))
set_option maxRecDepth 20000 in
theorem gX4_lay_X4_needCourse : GoodIn wsX4_lay (va_wsS RX4 56 yX4_needCourse wsX4_needCourse) := goodIn_app (goodIn_of _ (by decide +kernel)) ggX4_lay_X4_needCourse
set_option maxRecDepth 20000 in
theorem ggX4_lay_X4_needSize : GoodIn wsX4_lay wsX4_needSize := goodIn_ca (goodIn_r _ [14, 15, 16, 5, 17, 18, 19] (by decide +kernel) (by decide +kernel)) (goodIn_sub (fun _ h => List.mem_cons_of_mem _ (List.mem_append_left _ (List.mem_append_right _ h))) (by decide +kernel))
set_option maxRecDepth 20000 in
theorem gX4_lay_X4_needSize : GoodIn wsX4_lay (va_wsS RX4 40 yX4_needSize wsX4_needSize) := goodIn_app (goodIn_of _ (by decide +kernel)) ggX4_lay_X4_needSize
set_option maxRecDepth 20000 in
theorem ggX4_lay_X2_reasonAgainst : GoodIn wsX4_lay wsX2_reasonAgainst := goodIn_r _ [24, 25, 26, 27, 23, 28, 29, 30, 31, 32, 33, 34, 35, 36, 37, 38, 39, 40, 41, 42, 43, 44, 45, 46, 47, 48, 49, 50, 51, 52, 53, 54, 55, 56, 57, 58, 59, 109, 110, 111, 112, 113, 114, 115] (by decide +kernel) (by decide +kernel)
set_option maxRecDepth 20000 in
theorem gX4_lay_X2_reasonAgainst : GoodIn wsX4_lay (wsV RX4 59 RX2 yX2_reasonAgainst wsX2_reasonAgainst) := goodIn_app (goodIn_of _ (by decide +kernel)) ggX4_lay_X2_reasonAgainst
set_option maxRecDepth 20000 in
theorem ggX4_lay_X4_needState : GoodIn wsX4_lay wsX4_needState := goodIn_ca (goodIn_r _ [62, 63, 64] (by decide +kernel) (by decide +kernel)) (goodIn_sub (fun _ h => List.mem_cons_of_mem _ (List.mem_append_right _ h)) (by decide +kernel))
set_option maxRecDepth 20000 in
theorem gX4_lay_X4_needState : GoodIn wsX4_lay (va_wsS RX4 63 yX4_needState wsX4_needState) := goodIn_app (goodIn_of _ (by decide +kernel)) ggX4_lay_X4_needState
set_option maxRecDepth 20000 in
theorem ggX4_lay_X1_save : GoodIn wsX4_lay wsX1_save := goodIn_r _ [69, 70, 71, 72, 73, 74, 75, 76, 77, 78, 68, 79, 80, 81, 82, 83, 23, 84, 29, 30, 59, 42, 85, 86, 87, 88, 89, 90, 91, 92, 93, 94, 95, 116, 117, 118, 109, 110, 111, 112, 113, 114, 115] (by decide +kernel) (by decide +kernel)
set_option maxRecDepth 20000 in
theorem gX4_lay_X1_save : GoodIn wsX4_lay (wsV RX4 48 RX1 yX1_save wsX1_save) := goodIn_app (goodIn_of _ (by decide +kernel)) ggX4_lay_X1_save
set_option maxRecDepth 20000 in
theorem ggX4_lay_X2_takenOf : GoodIn wsX4_lay wsX2_takenOf := goodIn_r _ [46, 30, 31, 32, 23, 33, 109, 110, 111, 112, 113, 114, 115] (by decide +kernel) (by decide +kernel)
set_option maxRecDepth 20000 in
theorem gX4_lay_X2_takenOf : GoodIn wsX4_lay (wsV RX4 66 RX2 yX2_takenOf wsX2_takenOf) := goodIn_app (goodIn_of _ (by decide +kernel)) ggX4_lay_X2_takenOf
set_option maxRecDepth 20000 in
theorem ggX4_lay_X2_put : GoodIn wsX4_lay wsX2_put := goodIn_r _ [100, 30, 59, 42, 87, 34, 35, 36, 23, 37, 38, 39, 40, 41, 31, 32, 33, 101, 102, 103, 109, 110, 111, 112, 113, 114, 115] (by decide +kernel) (by decide +kernel)
set_option maxRecDepth 20000 in
theorem gX4_lay_X2_put : GoodIn wsX4_lay (wsV RX4 70 RX2 yX2_put wsX2_put) := goodIn_app (goodIn_of _ (by decide +kernel)) ggX4_lay_X2_put
theorem dX4_lay_0 : decode cX4_lay 0 = .ok (.iload_n 1, 1) := by decide +kernel
theorem dX4_lay_1 : decode cX4_lay 1 = .ok (.invokestatic 56, 3) := by decide +kernel
theorem dX4_lay_4 : decode cX4_lay 4 = .ok (.iload_n 2, 1) := by decide +kernel
theorem dX4_lay_5 : decode cX4_lay 5 = .ok (.invokestatic 40, 3) := by decide +kernel
theorem dX4_lay_8 : decode cX4_lay 8 = .ok (.aload_n 0, 1) := by decide +kernel
theorem dX4_lay_9 : decode cX4_lay 9 = .ok (.getfield 10, 3) := by decide +kernel
theorem dX4_lay_12 : decode cX4_lay 12 = .ok (.iload_n 1, 1) := by decide +kernel
theorem dX4_lay_13 : decode cX4_lay 13 = .ok (.iload_n 2, 1) := by decide +kernel
theorem dX4_lay_14 : decode cX4_lay 14 = .ok (.iconst 0, 1) := by decide +kernel
theorem dX4_lay_15 : decode cX4_lay 15 = .ok (.invokevirtual 59, 3) := by decide +kernel
theorem dX4_lay_18 : decode cX4_lay 18 = .ok (.ifCond .ne 7, 3) := by decide +kernel
theorem dX4_lay_21 : decode cX4_lay 21 = .ok (.iconst 1, 1) := by decide +kernel
theorem dX4_lay_22 : decode cX4_lay 22 = .ok (.goto 4, 3) := by decide +kernel
theorem dX4_lay_25 : decode cX4_lay 25 = .ok (.iconst 0, 1) := by decide +kernel
theorem dX4_lay_26 : decode cX4_lay 26 = .ok (.invokestatic 63, 3) := by decide +kernel
theorem dX4_lay_29 : decode cX4_lay 29 = .ok (.aload_n 0, 1) := by decide +kernel
theorem dX4_lay_30 : decode cX4_lay 30 = .ok (.getfield 29, 3) := by decide +kernel
theorem dX4_lay_33 : decode cX4_lay 33 = .ok (.aload_n 0, 1) := by decide +kernel
theorem dX4_lay_34 : decode cX4_lay 34 = .ok (.getfield 10, 3) := by decide +kernel
theorem dX4_lay_37 : decode cX4_lay 37 = .ok (.invokevirtual 48, 3) := by decide +kernel
theorem dX4_lay_40 : decode cX4_lay 40 = .ok (.aload_n 0, 1) := by decide +kernel
theorem dX4_lay_41 : decode cX4_lay 41 = .ok (.getfield 10, 3) := by decide +kernel
theorem dX4_lay_44 : decode cX4_lay 44 = .ok (.iload_n 1, 1) := by decide +kernel
theorem dX4_lay_45 : decode cX4_lay 45 = .ok (.invokevirtual 66, 3) := by decide +kernel
theorem dX4_lay_48 : decode cX4_lay 48 = .ok (.istore_n 3, 1) := by decide +kernel
theorem dX4_lay_49 : decode cX4_lay 49 = .ok (.aload_n 0, 1) := by decide +kernel
theorem dX4_lay_50 : decode cX4_lay 50 = .ok (.getfield 10, 3) := by decide +kernel
theorem dX4_lay_53 : decode cX4_lay 53 = .ok (.iload_n 1, 1) := by decide +kernel
theorem dX4_lay_54 : decode cX4_lay 54 = .ok (.iload_n 2, 1) := by decide +kernel
theorem dX4_lay_55 : decode cX4_lay 55 = .ok (.iconst 0, 1) := by decide +kernel
theorem dX4_lay_56 : decode cX4_lay 56 = .ok (.invokevirtual 70, 3) := by decide +kernel
theorem dX4_lay_59 : decode cX4_lay 59 = .ok (.pop, 1) := by decide +kernel
theorem dX4_lay_60 : decode cX4_lay 60 = .ok (.iload_n 3, 1) := by decide +kernel
theorem dX4_lay_61 : decode cX4_lay 61 = .ok (.ireturn, 1) := by decide +kernel
set_option maxRecDepth 20000 in
theorem ggX4_cut_X4_needCourse : GoodIn wsX4_cut wsX4_needCourse := goodIn_ca (goodIn_r _ [6, 7, 8, 5, 9, 10, 11] (by decide +kernel) (by decide +kernel)) (goodIn_sub (fun _ h => List.mem_cons_of_mem _ (List.mem_append_left _ (List.mem_append_left _ (List.mem_append_right _ h)))) (by decide +kernel))
set_option maxRecDepth 20000 in
theorem gX4_cut_X4_needCourse : GoodIn wsX4_cut (va_wsS RX4 56 yX4_needCourse wsX4_needCourse) := goodIn_app (goodIn_of _ (by decide +kernel)) ggX4_cut_X4_needCourse
set_option maxRecDepth 20000 in
theorem ggX4_cut_X4_needSize : GoodIn wsX4_cut wsX4_needSize := goodIn_ca (goodIn_r _ [14, 15, 16, 5, 17, 18, 19] (by decide +kernel) (by decide +kernel)) (goodIn_sub (fun _ h => List.mem_cons_of_mem _ (List.mem_append_left _ (List.mem_append_right _ h))) (by decide +kernel))
set_option maxRecDepth 20000 in
theorem gX4_cut_X4_needSize : GoodIn wsX4_cut (va_wsS RX4 40 yX4_needSize wsX4_needSize) := goodIn_app (goodIn_of _ (by decide +kernel)) ggX4_cut_X4_needSize
set_option maxRecDepth 20000 in
theorem ggX4_cut_X2_reasonAgainst : GoodIn wsX4_cut wsX2_reasonAgainst := goodIn_r _ [24, 25, 26, 27, 23, 28, 29, 30, 31, 32, 33, 34, 35, 36, 37, 38, 39, 40, 41, 42, 43, 44, 45, 46, 47, 48, 49, 50, 51, 52, 53, 54, 55, 56, 57, 58, 59, 108, 109, 110, 111, 112, 113, 114] (by decide +kernel) (by decide +kernel)
set_option maxRecDepth 20000 in
theorem gX4_cut_X2_reasonAgainst : GoodIn wsX4_cut (wsV RX4 59 RX2 yX2_reasonAgainst wsX2_reasonAgainst) := goodIn_app (goodIn_of _ (by decide +kernel)) ggX4_cut_X2_reasonAgainst
set_option maxRecDepth 20000 in
theorem ggX4_cut_X4_needState : GoodIn wsX4_cut wsX4_needState := goodIn_ca (goodIn_r _ [62, 63, 64] (by decide +kernel) (by decide +kernel)) (goodIn_sub (fun _ h => List.mem_cons_of_mem _ (List.mem_append_right _ h)) (by decide +kernel))
set_option maxRecDepth 20000 in
theorem gX4_cut_X4_needState : GoodIn wsX4_cut (va_wsS RX4 63 yX4_needState wsX4_needState) := goodIn_app (goodIn_of _ (by decide +kernel)) ggX4_cut_X4_needState
set_option maxRecDepth 20000 in
theorem ggX4_cut_X1_save : GoodIn wsX4_cut wsX1_save := goodIn_r _ [69, 70, 71, 72, 73, 74, 75, 76, 77, 78, 68, 79, 80, 81, 82, 83, 23, 84, 29, 30, 59, 42, 85, 86, 87, 88, 89, 90, 91, 92, 93, 94, 95, 115, 116, 117, 108, 109, 110, 111, 112, 113, 114] (by decide +kernel) (by decide +kernel)
set_option maxRecDepth 20000 in
theorem gX4_cut_X1_save : GoodIn wsX4_cut (wsV RX4 48 RX1 yX1_save wsX1_save) := goodIn_app (goodIn_of _ (by decide +kernel)) ggX4_cut_X1_save
set_option maxRecDepth 20000 in
theorem ggX4_cut_X2_put : GoodIn wsX4_cut wsX2_put := goodIn_r _ [99, 30, 59, 42, 87, 34, 35, 36, 23, 37, 38, 39, 40, 41, 31, 32, 33, 100, 101, 102, 108, 109, 110, 111, 112, 113, 114] (by decide +kernel) (by decide +kernel)
set_option maxRecDepth 20000 in
theorem gX4_cut_X2_put : GoodIn wsX4_cut (wsV RX4 70 RX2 yX2_put wsX2_put) := goodIn_app (goodIn_of _ (by decide +kernel)) ggX4_cut_X2_put
theorem dX4_cut_0 : decode cX4_cut 0 = .ok (.iload_n 1, 1) := by decide +kernel
theorem dX4_cut_1 : decode cX4_cut 1 = .ok (.invokestatic 56, 3) := by decide +kernel
theorem dX4_cut_4 : decode cX4_cut 4 = .ok (.iload_n 2, 1) := by decide +kernel
theorem dX4_cut_5 : decode cX4_cut 5 = .ok (.invokestatic 40, 3) := by decide +kernel
theorem dX4_cut_8 : decode cX4_cut 8 = .ok (.aload_n 0, 1) := by decide +kernel
theorem dX4_cut_9 : decode cX4_cut 9 = .ok (.getfield 10, 3) := by decide +kernel
theorem dX4_cut_12 : decode cX4_cut 12 = .ok (.iload_n 1, 1) := by decide +kernel
theorem dX4_cut_13 : decode cX4_cut 13 = .ok (.iload_n 2, 1) := by decide +kernel
theorem dX4_cut_14 : decode cX4_cut 14 = .ok (.iconst 1, 1) := by decide +kernel
theorem dX4_cut_15 : decode cX4_cut 15 = .ok (.invokevirtual 59, 3) := by decide +kernel
theorem dX4_cut_18 : decode cX4_cut 18 = .ok (.ifCond .ne 7, 3) := by decide +kernel
theorem dX4_cut_21 : decode cX4_cut 21 = .ok (.iconst 1, 1) := by decide +kernel
theorem dX4_cut_22 : decode cX4_cut 22 = .ok (.goto 4, 3) := by decide +kernel
theorem dX4_cut_25 : decode cX4_cut 25 = .ok (.iconst 0, 1) := by decide +kernel
theorem dX4_cut_26 : decode cX4_cut 26 = .ok (.invokestatic 63, 3) := by decide +kernel
theorem dX4_cut_29 : decode cX4_cut 29 = .ok (.aload_n 0, 1) := by decide +kernel
theorem dX4_cut_30 : decode cX4_cut 30 = .ok (.getfield 29, 3) := by decide +kernel
theorem dX4_cut_33 : decode cX4_cut 33 = .ok (.aload_n 0, 1) := by decide +kernel
theorem dX4_cut_34 : decode cX4_cut 34 = .ok (.getfield 10, 3) := by decide +kernel
theorem dX4_cut_37 : decode cX4_cut 37 = .ok (.invokevirtual 48, 3) := by decide +kernel
theorem dX4_cut_40 : decode cX4_cut 40 = .ok (.aload_n 0, 1) := by decide +kernel
theorem dX4_cut_41 : decode cX4_cut 41 = .ok (.getfield 10, 3) := by decide +kernel
theorem dX4_cut_44 : decode cX4_cut 44 = .ok (.iload_n 1, 1) := by decide +kernel
theorem dX4_cut_45 : decode cX4_cut 45 = .ok (.iload_n 2, 1) := by decide +kernel
theorem dX4_cut_46 : decode cX4_cut 46 = .ok (.iconst 1, 1) := by decide +kernel
theorem dX4_cut_47 : decode cX4_cut 47 = .ok (.invokevirtual 70, 3) := by decide +kernel
theorem dX4_cut_50 : decode cX4_cut 50 = .ok (.ireturn, 1) := by decide +kernel
set_option maxRecDepth 20000 in
theorem ggX4_takeUp_X4_needCourse : GoodIn wsX4_takeUp wsX4_needCourse := goodIn_ca (goodIn_r _ [6, 7, 8, 5, 9, 10, 11] (by decide +kernel) (by decide +kernel)) (goodIn_sub (fun _ h => List.mem_cons_of_mem _ (List.mem_append_left _ (List.mem_append_right _ h))) (by decide +kernel))
set_option maxRecDepth 20000 in
theorem gX4_takeUp_X4_needCourse : GoodIn wsX4_takeUp (va_wsS RX4 56 yX4_needCourse wsX4_needCourse) := goodIn_app (goodIn_of _ (by decide +kernel)) ggX4_takeUp_X4_needCourse
set_option maxRecDepth 20000 in
theorem ggX4_takeUp_X4_needArgument : GoodIn wsX4_takeUp wsX4_needArgument := goodIn_ca (goodIn_r _ [14, 15, 16] (by decide +kernel) (by decide +kernel)) (goodIn_sub (fun _ h => List.mem_cons_of_mem _ (List.mem_append_right _ h)) (by decide +kernel))
set_option maxRecDepth 20000 in
theorem gX4_takeUp_X4_needArgument : GoodIn wsX4_takeUp (va_wsS RX4 44 yX4_needArgument wsX4_needArgument) := goodIn_app (goodIn_of _ (by decide +kernel)) ggX4_takeUp_X4_needArgument
set_option maxRecDepth 20000 in
theorem ggX4_takeUp_X1_save : GoodIn wsX4_takeUp wsX1_save := goodIn_r _ [21, 22, 23, 24, 25, 26, 27, 28, 29, 30, 20, 31, 32, 33, 34, 35, 36, 37, 38, 39, 40, 41, 42, 43, 44, 45, 46, 47, 48, 49, 50, 51, 52, 72, 73, 74, 75, 76, 77, 78, 79, 80, 81] (by decide +kernel) (by decide +kernel)
set_option maxRecDepth 20000 in
theorem gX4_takeUp_X1_save : GoodIn wsX4_takeUp (wsV RX4 48 RX1 yX1_save wsX1_save) := goodIn_app (goodIn_of _ (by decide +kernel)) ggX4_takeUp_X1_save
set_option maxRecDepth 20000 in
theorem ggX4_takeUp_X2_takeUpLast : GoodIn wsX4_takeUp wsX2_takeUpLast := goodIn_r _ [56, 39, 48, 25, 26, 27, 40, 57, 58, 36, 59, 60, 61, 62, 63, 41, 44, 64, 65, 66, 75, 76, 77, 78, 79, 80, 81] (by decide +kernel) (by decide +kernel)
set_option maxRecDepth 20000 in
theorem gX4_takeUp_X2_takeUpLast : GoodIn wsX4_takeUp (wsV RX4 73 RX2 yX2_takeUpLast wsX2_takeUpLast) := goodIn_app (goodIn_of _ (by decide +kernel)) ggX4_takeUp_X2_takeUpLast
theorem dX4_takeUp_0 : decode cX4_takeUp 0 = .ok (.iload_n 1, 1) := by decide +kernel
theorem dX4_takeUp_1 : decode cX4_takeUp 1 = .ok (.invokestatic 56, 3) := by decide +kernel
theorem dX4_takeUp_4 : decode cX4_takeUp 4 = .ok (.iload_n 2, 1) := by decide +kernel
theorem dX4_takeUp_5 : decode cX4_takeUp 5 = .ok (.iconst 1, 1) := by decide +kernel
theorem dX4_takeUp_6 : decode cX4_takeUp 6 = .ok (.if_icmp .lt 13, 3) := by decide +kernel
theorem dX4_takeUp_9 : decode cX4_takeUp 9 = .ok (.iload_n 2, 1) := by decide +kernel
theorem dX4_takeUp_10 : decode cX4_takeUp 10 = .ok (.bipush 60, 2) := by decide +kernel
theorem dX4_takeUp_12 : decode cX4_takeUp 12 = .ok (.if_icmp .gt 7, 3) := by decide +kernel
theorem dX4_takeUp_15 : decode cX4_takeUp 15 = .ok (.iconst 1, 1) := by decide +kernel
theorem dX4_takeUp_16 : decode cX4_takeUp 16 = .ok (.goto 4, 3) := by decide +kernel
theorem dX4_takeUp_19 : decode cX4_takeUp 19 = .ok (.iconst 0, 1) := by decide +kernel
theorem dX4_takeUp_20 : decode cX4_takeUp 20 = .ok (.invokestatic 44, 3) := by decide +kernel
theorem dX4_takeUp_23 : decode cX4_takeUp 23 = .ok (.aload_n 0, 1) := by decide +kernel
theorem dX4_takeUp_24 : decode cX4_takeUp 24 = .ok (.getfield 29, 3) := by decide +kernel
theorem dX4_takeUp_27 : decode cX4_takeUp 27 = .ok (.aload_n 0, 1) := by decide +kernel
theorem dX4_takeUp_28 : decode cX4_takeUp 28 = .ok (.getfield 10, 3) := by decide +kernel
theorem dX4_takeUp_31 : decode cX4_takeUp 31 = .ok (.invokevirtual 48, 3) := by decide +kernel
theorem dX4_takeUp_34 : decode cX4_takeUp 34 = .ok (.aload_n 0, 1) := by decide +kernel
theorem dX4_takeUp_35 : decode cX4_takeUp 35 = .ok (.getfield 10, 3) := by decide +kernel
theorem dX4_takeUp_38 : decode cX4_takeUp 38 = .ok (.iload_n 1, 1) := by decide +kernel
theorem dX4_takeUp_39 : decode cX4_takeUp 39 = .ok (.iload_n 2, 1) := by decide +kernel
theorem dX4_takeUp_40 : decode cX4_takeUp 40 = .ok (.invokevirtual 73, 3) := by decide +kernel
theorem dX4_takeUp_43 : decode cX4_takeUp 43 = .ok (.ireturn, 1) := by decide +kernel
set_option maxRecDepth 20000 in
theorem ggX4_fill_X4_needCourse : GoodIn wsX4_fill wsX4_needCourse := goodIn_ca (goodIn_r _ [6, 7, 8, 5, 9, 10, 11] (by decide +kernel) (by decide +kernel)) (goodIn_sub (fun _ h => List.mem_cons_of_mem _ (List.mem_append_right _ h)) (by decide +kernel))
set_option maxRecDepth 20000 in
theorem gX4_fill_X4_needCourse : GoodIn wsX4_fill (va_wsS RX4 56 yX4_needCourse wsX4_needCourse) := goodIn_app (goodIn_of _ (by decide +kernel)) ggX4_fill_X4_needCourse
set_option maxRecDepth 20000 in
theorem ggX4_fill_X1_save : GoodIn wsX4_fill wsX1_save := goodIn_r _ [16, 17, 18, 19, 20, 21, 22, 23, 24, 25, 15, 26, 27, 28, 29, 30, 31, 32, 33, 34, 35, 36, 37, 38, 39, 40, 41, 42, 43, 44, 45, 46, 47, 111, 112, 113, 114, 115, 116, 117, 118, 119, 120] (by decide +kernel) (by decide +kernel)
set_option maxRecDepth 20000 in
theorem gX4_fill_X1_save : GoodIn wsX4_fill (wsV RX4 48 RX1 yX1_save wsX1_save) := goodIn_app (goodIn_of _ (by decide +kernel)) ggX4_fill_X1_save
set_option maxRecDepth 20000 in
theorem ggX4_fill_X2_settingOf : GoodIn wsX4_fill wsX2_settingOf := goodIn_r _ [51, 33, 37, 38, 114, 115, 116, 117, 118, 119, 120] (by decide +kernel) (by decide +kernel)
set_option maxRecDepth 20000 in
theorem gX4_fill_X2_settingOf : GoodIn wsX4_fill (wsV RX4 76 RX2 yX2_settingOf wsX2_settingOf) := goodIn_app (goodIn_of _ (by decide +kernel)) ggX4_fill_X2_settingOf
set_option maxRecDepth 20000 in
theorem ggX4_fill_X2_fillCourse : GoodIn wsX4_fill wsX2_fillCourse := goodIn_r _ [55, 38, 56, 57, 58, 31, 59, 60, 61, 62, 63, 36, 64, 65, 66, 67, 68, 69, 70, 71, 33, 34, 72, 73, 74, 75, 76, 77, 78, 79, 80, 81, 82, 83, 84, 85, 86, 87, 88, 89, 90, 91, 92, 93, 94, 35, 95, 96, 97, 98, 99, 100, 101, 102, 39, 103, 104, 105, 114, 115, 116, 117, 118, 119, 120] (by decide +kernel) (by decide +kernel)
set_option maxRecDepth 20000 in
theorem gX4_fill_X2_fillCourse : GoodIn wsX4_fill (wsV RX4 79 RX2 yX2_fillCourse wsX2_fillCourse) := goodIn_app (goodIn_of _ (by decide +kernel)) ggX4_fill_X2_fillCourse
