theorem dX5_byRule_33 : decode cX5_byRule 33 = .ok (.iconst 3, 1) := by decide +kernel
theorem dX5_byRule_34 : decode cX5_byRule 34 = .ok (.iload_n 2, 1) := by decide +kernel
theorem dX5_byRule_35 : decode cX5_byRule 35 = .ok (.iadd, 1) := by decide +kernel
theorem dX5_byRule_36 : decode cX5_byRule 36 = .ok (.iaload, 1) := by decide +kernel
theorem dX5_byRule_37 : decode cX5_byRule 37 = .ok (.if_icmp .lt 7, 3) := by decide +kernel
theorem dX5_byRule_40 : decode cX5_byRule 40 = .ok (.iconst 1, 1) := by decide +kernel
theorem dX5_byRule_41 : decode cX5_byRule 41 = .ok (.goto 4, 3) := by decide +kernel
theorem dX5_byRule_44 : decode cX5_byRule 44 = .ok (.iconst 0, 1) := by decide +kernel
theorem dX5_byRule_45 : decode cX5_byRule 45 = .ok (.istore 4, 2) := by decide +kernel
theorem dX5_byRule_47 : decode cX5_byRule 47 = .ok (.iload 4, 2) := by decide +kernel
theorem dX5_byRule_49 : decode cX5_byRule 49 = .ok (.ifCond .eq 17, 3) := by decide +kernel
theorem dX5_byRule_52 : decode cX5_byRule 52 = .ok (.aload_n 0, 1) := by decide +kernel
theorem dX5_byRule_53 : decode cX5_byRule 53 = .ok (.iload_n 1, 1) := by decide +kernel
theorem dX5_byRule_54 : decode cX5_byRule 54 = .ok (.iload_n 3, 1) := by decide +kernel
theorem dX5_byRule_55 : decode cX5_byRule 55 = .ok (.iconst 0, 1) := by decide +kernel
theorem dX5_byRule_56 : decode cX5_byRule 56 = .ok (.invokestatic 74, 3) := by decide +kernel
theorem dX5_byRule_59 : decode cX5_byRule 59 = .ok (.ifCond .ne 7, 3) := by decide +kernel
theorem dX5_byRule_62 : decode cX5_byRule 62 = .ok (.iload_n 3, 1) := by decide +kernel
theorem dX5_byRule_63 : decode cX5_byRule 63 = .ok (.goto 4, 3) := by decide +kernel
theorem dX5_byRule_66 : decode cX5_byRule 66 = .ok (.iload_n 2, 1) := by decide +kernel
theorem dX5_byRule_67 : decode cX5_byRule 67 = .ok (.istore_n 2, 1) := by decide +kernel
theorem dX5_byRule_68 : decode cX5_byRule 68 = .ok (.iinc 3 1, 3) := by decide +kernel
theorem dX5_byRule_71 : decode cX5_byRule 71 = .ok (.goto (-67), 3) := by decide +kernel
theorem dX5_byRule_74 : decode cX5_byRule 74 = .ok (.iload_n 2, 1) := by decide +kernel
theorem dX5_byRule_75 : decode cX5_byRule 75 = .ok (.ireturn, 1) := by decide +kernel
set_option maxRecDepth 20000 in
theorem ggX5_filler_X5_refused : GoodIn wsX5_filler wsX5_refused := goodIn_r _ [4, 5, 6, 3, 7, 8, 9, 10, 11, 12, 13, 14, 15, 16, 17, 18, 19, 20, 21, 22, 23, 24, 25, 26, 27, 28, 29, 30, 31] (by decide +kernel) (by decide +kernel)
set_option maxRecDepth 20000 in
theorem gX5_filler_X5_refused : GoodIn wsX5_filler (va_wsS RX5 74 yX5_refused wsX5_refused) := goodIn_app (goodIn_of _ (by decide +kernel)) ggX5_filler_X5_refused
theorem dX5_filler_0 : decode cX5_filler 0 = .ok (.aload_n 0, 1) := by decide +kernel
theorem dX5_filler_1 : decode cX5_filler 1 = .ok (.iconst 2, 1) := by decide +kernel
theorem dX5_filler_2 : decode cX5_filler 2 = .ok (.iaload, 1) := by decide +kernel
theorem dX5_filler_3 : decode cX5_filler 3 = .ok (.iconst 1, 1) := by decide +kernel
theorem dX5_filler_4 : decode cX5_filler 4 = .ok (.if_icmp .ne 8, 3) := by decide +kernel
theorem dX5_filler_7 : decode cX5_filler 7 = .ok (.bipush 6, 2) := by decide +kernel
theorem dX5_filler_9 : decode cX5_filler 9 = .ok (.goto 4, 3) := by decide +kernel
theorem dX5_filler_12 : decode cX5_filler 12 = .ok (.iconst 0, 1) := by decide +kernel
theorem dX5_filler_13 : decode cX5_filler 13 = .ok (.istore_n 2, 1) := by decide +kernel
theorem dX5_filler_14 : decode cX5_filler 14 = .ok (.iload_n 2, 1) := by decide +kernel
theorem dX5_filler_15 : decode cX5_filler 15 = .ok (.ifCond .le 19, 3) := by decide +kernel
theorem dX5_filler_18 : decode cX5_filler 18 = .ok (.aload_n 0, 1) := by decide +kernel
theorem dX5_filler_19 : decode cX5_filler 19 = .ok (.iload_n 1, 1) := by decide +kernel
theorem dX5_filler_20 : decode cX5_filler 20 = .ok (.iload_n 2, 1) := by decide +kernel
theorem dX5_filler_21 : decode cX5_filler 21 = .ok (.iconst 1, 1) := by decide +kernel
theorem dX5_filler_22 : decode cX5_filler 22 = .ok (.invokestatic 74, 3) := by decide +kernel
theorem dX5_filler_25 : decode cX5_filler 25 = .ok (.ifCond .eq 9, 3) := by decide +kernel
theorem dX5_filler_28 : decode cX5_filler 28 = .ok (.iinc 2 (-1), 3) := by decide +kernel
theorem dX5_filler_31 : decode cX5_filler 31 = .ok (.goto (-17), 3) := by decide +kernel
theorem dX5_filler_34 : decode cX5_filler 34 = .ok (.iload_n 2, 1) := by decide +kernel
theorem dX5_filler_35 : decode cX5_filler 35 = .ok (.ireturn, 1) := by decide +kernel
set_option maxRecDepth 20000 in
theorem ggX5_fills_X5_byRule : GoodIn wsX5_fills wsX5_byRule := goodIn_r _ [4, 5, 6, 3, 7, 8, 9, 10, 11, 12, 13, 14, 15, 16, 17, 18, 19, 20, 21, 22, 23, 24, 25, 26, 27, 28, 29, 30, 31, 32, 33, 34] (by decide +kernel) (by decide +kernel)
set_option maxRecDepth 20000 in
theorem gX5_fills_X5_byRule : GoodIn wsX5_fills (va_wsS RX5 78 yX5_byRule wsX5_byRule) := goodIn_app (goodIn_of _ (by decide +kernel)) ggX5_fills_X5_byRule
set_option maxRecDepth 20000 in
theorem ggX5_fills_X5_filler : GoodIn wsX5_fills wsX5_filler := goodIn_r _ [37, 5, 6, 3, 7, 8, 9, 10, 11, 12, 13, 14, 15, 16, 17, 18, 19, 20, 21, 22, 23, 24, 25, 26, 27, 28, 29, 30, 31, 32, 33, 34] (by decide +kernel) (by decide +kernel)
set_option maxRecDepth 20000 in
theorem gX5_fills_X5_filler : GoodIn wsX5_fills (va_wsS RX5 81 yX5_filler wsX5_filler) := goodIn_app (goodIn_of _ (by decide +kernel)) ggX5_fills_X5_filler
set_option maxRecDepth 20000 in
theorem ggX5_fills_X5_lays : GoodIn wsX5_fills wsX5_lays := goodIn_r _ [40, 23, 24, 3, 25, 11, 12, 13] (by decide +kernel) (by decide +kernel)
set_option maxRecDepth 20000 in
theorem gX5_fills_X5_lays : GoodIn wsX5_fills (va_wsS RX5 84 yX5_lays wsX5_lays) := goodIn_app (goodIn_of _ (by decide +kernel)) ggX5_fills_X5_lays
theorem dX5_fills_0 : decode cX5_fills 0 = .ok (.iconst 0, 1) := by decide +kernel
theorem dX5_fills_1 : decode cX5_fills 1 = .ok (.istore_n 2, 1) := by decide +kernel
theorem dX5_fills_2 : decode cX5_fills 2 = .ok (.iconst 1, 1) := by decide +kernel
theorem dX5_fills_3 : decode cX5_fills 3 = .ok (.istore_n 3, 1) := by decide +kernel
theorem dX5_fills_4 : decode cX5_fills 4 = .ok (.iload_n 3, 1) := by decide +kernel
theorem dX5_fills_5 : decode cX5_fills 5 = .ok (.ifCond .eq 71, 3) := by decide +kernel
theorem dX5_fills_8 : decode cX5_fills 8 = .ok (.aload_n 0, 1) := by decide +kernel
theorem dX5_fills_9 : decode cX5_fills 9 = .ok (.iload_n 1, 1) := by decide +kernel
theorem dX5_fills_10 : decode cX5_fills 10 = .ok (.invokestatic 78, 3) := by decide +kernel
theorem dX5_fills_13 : decode cX5_fills 13 = .ok (.istore 4, 2) := by decide +kernel
theorem dX5_fills_15 : decode cX5_fills 15 = .ok (.iload 4, 2) := by decide +kernel
theorem dX5_fills_17 : decode cX5_fills 17 = .ok (.ifCond .ne 11, 3) := by decide +kernel
theorem dX5_fills_20 : decode cX5_fills 20 = .ok (.aload_n 0, 1) := by decide +kernel
theorem dX5_fills_21 : decode cX5_fills 21 = .ok (.iload_n 1, 1) := by decide +kernel
theorem dX5_fills_22 : decode cX5_fills 22 = .ok (.invokestatic 81, 3) := by decide +kernel
theorem dX5_fills_25 : decode cX5_fills 25 = .ok (.goto 4, 3) := by decide +kernel
theorem dX5_fills_28 : decode cX5_fills 28 = .ok (.iconst 0, 1) := by decide +kernel
theorem dX5_fills_29 : decode cX5_fills 29 = .ok (.istore 5, 2) := by decide +kernel
theorem dX5_fills_31 : decode cX5_fills 31 = .ok (.iload 4, 2) := by decide +kernel
theorem dX5_fills_33 : decode cX5_fills 33 = .ok (.iload 5, 2) := by decide +kernel
theorem dX5_fills_35 : decode cX5_fills 35 = .ok (.iadd, 1) := by decide +kernel
theorem dX5_fills_36 : decode cX5_fills 36 = .ok (.ifCond .le 7, 3) := by decide +kernel
theorem dX5_fills_39 : decode cX5_fills 39 = .ok (.iconst 1, 1) := by decide +kernel
theorem dX5_fills_40 : decode cX5_fills 40 = .ok (.goto 4, 3) := by decide +kernel
theorem dX5_fills_43 : decode cX5_fills 43 = .ok (.iconst 0, 1) := by decide +kernel
theorem dX5_fills_44 : decode cX5_fills 44 = .ok (.istore_n 3, 1) := by decide +kernel
theorem dX5_fills_45 : decode cX5_fills 45 = .ok (.iload_n 3, 1) := by decide +kernel
theorem dX5_fills_46 : decode cX5_fills 46 = .ok (.ifCond .eq 27, 3) := by decide +kernel
theorem dX5_fills_49 : decode cX5_fills 49 = .ok (.aload_n 0, 1) := by decide +kernel
theorem dX5_fills_50 : decode cX5_fills 50 = .ok (.iload_n 1, 1) := by decide +kernel
theorem dX5_fills_51 : decode cX5_fills 51 = .ok (.iload 4, 2) := by decide +kernel
theorem dX5_fills_53 : decode cX5_fills 53 = .ok (.iload 5, 2) := by decide +kernel
theorem dX5_fills_55 : decode cX5_fills 55 = .ok (.iadd, 1) := by decide +kernel
theorem dX5_fills_56 : decode cX5_fills 56 = .ok (.iload 5, 2) := by decide +kernel
theorem dX5_fills_58 : decode cX5_fills 58 = .ok (.ifCond .le 7, 3) := by decide +kernel
theorem dX5_fills_61 : decode cX5_fills 61 = .ok (.iconst 1, 1) := by decide +kernel
theorem dX5_fills_62 : decode cX5_fills 62 = .ok (.goto 4, 3) := by decide +kernel
theorem dX5_fills_65 : decode cX5_fills 65 = .ok (.iconst 0, 1) := by decide +kernel
theorem dX5_fills_66 : decode cX5_fills 66 = .ok (.invokestatic 84, 3) := by decide +kernel
theorem dX5_fills_69 : decode cX5_fills 69 = .ok (.pop, 1) := by decide +kernel
theorem dX5_fills_70 : decode cX5_fills 70 = .ok (.iinc 2 1, 3) := by decide +kernel
theorem dX5_fills_73 : decode cX5_fills 73 = .ok (.goto (-69), 3) := by decide +kernel
theorem dX5_fills_76 : decode cX5_fills 76 = .ok (.iload_n 2, 1) := by decide +kernel
theorem dX5_fills_77 : decode cX5_fills 77 = .ok (.ireturn, 1) := by decide +kernel
set_option maxRecDepth 20000 in
theorem ggX5_closed_X5_isClosed : GoodIn wsX5_closed wsX5_isClosed := goodIn_r _ [4, 5, 6, 3, 7, 8, 9, 10, 11, 12, 13, 14, 15, 16] (by decide +kernel) (by decide +kernel)
set_option maxRecDepth 20000 in
theorem gX5_closed_X5_isClosed : GoodIn wsX5_closed (va_wsS RX5 64 yX5_isClosed wsX5_isClosed) := goodIn_app (goodIn_of _ (by decide +kernel)) ggX5_closed_X5_isClosed
theorem dX5_closed_0 : decode cX5_closed 0 = .ok (.iconst 0, 1) := by decide +kernel
theorem dX5_closed_1 : decode cX5_closed 1 = .ok (.istore_n 1, 1) := by decide +kernel
theorem dX5_closed_2 : decode cX5_closed 2 = .ok (.iconst 0, 1) := by decide +kernel
theorem dX5_closed_3 : decode cX5_closed 3 = .ok (.istore_n 2, 1) := by decide +kernel
theorem dX5_closed_4 : decode cX5_closed 4 = .ok (.iload_n 2, 1) := by decide +kernel
theorem dX5_closed_5 : decode cX5_closed 5 = .ok (.bipush 6, 2) := by decide +kernel
theorem dX5_closed_7 : decode cX5_closed 7 = .ok (.if_icmp .ge 25, 3) := by decide +kernel
theorem dX5_closed_10 : decode cX5_closed 10 = .ok (.iload_n 1, 1) := by decide +kernel
theorem dX5_closed_11 : decode cX5_closed 11 = .ok (.aload_n 0, 1) := by decide +kernel
theorem dX5_closed_12 : decode cX5_closed 12 = .ok (.iload_n 2, 1) := by decide +kernel
theorem dX5_closed_13 : decode cX5_closed 13 = .ok (.invokestatic 64, 3) := by decide +kernel
theorem dX5_closed_16 : decode cX5_closed 16 = .ok (.ifCond .eq 7, 3) := by decide +kernel
theorem dX5_closed_19 : decode cX5_closed 19 = .ok (.iconst 1, 1) := by decide +kernel
theorem dX5_closed_20 : decode cX5_closed 20 = .ok (.goto 4, 3) := by decide +kernel
theorem dX5_closed_23 : decode cX5_closed 23 = .ok (.iconst 0, 1) := by decide +kernel
theorem dX5_closed_24 : decode cX5_closed 24 = .ok (.iadd, 1) := by decide +kernel
theorem dX5_closed_25 : decode cX5_closed 25 = .ok (.istore_n 1, 1) := by decide +kernel
theorem dX5_closed_26 : decode cX5_closed 26 = .ok (.iinc 2 1, 3) := by decide +kernel
theorem dX5_closed_29 : decode cX5_closed 29 = .ok (.goto (-25), 3) := by decide +kernel
theorem dX5_closed_32 : decode cX5_closed 32 = .ok (.iload_n 1, 1) := by decide +kernel
theorem dX5_closed_33 : decode cX5_closed 33 = .ok (.ireturn, 1) := by decide +kernel
set_option maxRecDepth 20000 in
theorem ggX5_fillsAll_X5_fills : GoodIn wsX5_fillsAll wsX5_fills := goodIn_r _ [4, 5, 6, 3, 7, 8, 9, 10, 11, 12, 13, 14, 15, 16, 17, 18, 19, 20, 21, 22, 23, 24, 25, 26, 27, 28, 29, 30, 31, 32, 33, 34, 35, 36, 37, 38, 39, 40, 41, 42, 43] (by decide +kernel) (by decide +kernel)
set_option maxRecDepth 20000 in
theorem gX5_fillsAll_X5_fills : GoodIn wsX5_fillsAll (va_wsS RX5 87 yX5_fills wsX5_fills) := goodIn_app (goodIn_of _ (by decide +kernel)) ggX5_fillsAll_X5_fills
set_option maxRecDepth 20000 in
theorem ggX5_fillsAll_X5_closed : GoodIn wsX5_fillsAll wsX5_closed := goodIn_r _ [46, 20, 21, 3, 22, 11, 12, 13, 14, 15, 16, 17, 18, 19, 23, 24, 25] (by decide +kernel) (by decide +kernel)
set_option maxRecDepth 20000 in
theorem gX5_fillsAll_X5_closed : GoodIn wsX5_fillsAll (va_wsS RX5 90 yX5_closed wsX5_closed) := goodIn_app (goodIn_of _ (by decide +kernel)) ggX5_fillsAll_X5_closed
theorem dX5_fillsAll_0 : decode cX5_fillsAll 0 = .ok (.iconst 0, 1) := by decide +kernel
theorem dX5_fillsAll_1 : decode cX5_fillsAll 1 = .ok (.istore_n 1, 1) := by decide +kernel
theorem dX5_fillsAll_2 : decode cX5_fillsAll 2 = .ok (.iload_n 1, 1) := by decide +kernel
theorem dX5_fillsAll_3 : decode cX5_fillsAll 3 = .ok (.bipush 6, 2) := by decide +kernel
theorem dX5_fillsAll_5 : decode cX5_fillsAll 5 = .ok (.if_icmp .ge 15, 3) := by decide +kernel
theorem dX5_fillsAll_8 : decode cX5_fillsAll 8 = .ok (.aload_n 0, 1) := by decide +kernel
theorem dX5_fillsAll_9 : decode cX5_fillsAll 9 = .ok (.iload_n 1, 1) := by decide +kernel
theorem dX5_fillsAll_10 : decode cX5_fillsAll 10 = .ok (.invokestatic 87, 3) := by decide +kernel
theorem dX5_fillsAll_13 : decode cX5_fillsAll 13 = .ok (.pop, 1) := by decide +kernel
theorem dX5_fillsAll_14 : decode cX5_fillsAll 14 = .ok (.iinc 1 1, 3) := by decide +kernel
theorem dX5_fillsAll_17 : decode cX5_fillsAll 17 = .ok (.goto (-15), 3) := by decide +kernel
theorem dX5_fillsAll_20 : decode cX5_fillsAll 20 = .ok (.aload_n 0, 1) := by decide +kernel
theorem dX5_fillsAll_21 : decode cX5_fillsAll 21 = .ok (.invokestatic 90, 3) := by decide +kernel
theorem dX5_fillsAll_24 : decode cX5_fillsAll 24 = .ok (.ireturn, 1) := by decide +kernel
set_option maxRecDepth 20000 in
theorem ggX5_all_X5_pebbles : GoodIn wsX5_all wsX5_pebbles := goodIn_r _ [4] (by decide +kernel) (by decide +kernel)
set_option maxRecDepth 20000 in
theorem gX5_all_X5_pebbles : GoodIn wsX5_all (va_wsS RX5 43 yX5_pebbles wsX5_pebbles) := goodIn_app (goodIn_of _ (by decide +kernel)) ggX5_all_X5_pebbles
theorem dX5_all_0 : decode cX5_all 0 = .ok (.iconst 0, 1) := by decide +kernel
theorem dX5_all_1 : decode cX5_all 1 = .ok (.istore_n 1, 1) := by decide +kernel
theorem dX5_all_2 : decode cX5_all 2 = .ok (.iconst 0, 1) := by decide +kernel
theorem dX5_all_3 : decode cX5_all 3 = .ok (.istore_n 2, 1) := by decide +kernel
theorem dX5_all_4 : decode cX5_all 4 = .ok (.iload_n 2, 1) := by decide +kernel
theorem dX5_all_5 : decode cX5_all 5 = .ok (.bipush 6, 2) := by decide +kernel
theorem dX5_all_7 : decode cX5_all 7 = .ok (.if_icmp .ge 17, 3) := by decide +kernel
theorem dX5_all_10 : decode cX5_all 10 = .ok (.iload_n 1, 1) := by decide +kernel
theorem dX5_all_11 : decode cX5_all 11 = .ok (.aload_n 0, 1) := by decide +kernel
theorem dX5_all_12 : decode cX5_all 12 = .ok (.iload_n 2, 1) := by decide +kernel
theorem dX5_all_13 : decode cX5_all 13 = .ok (.invokestatic 43, 3) := by decide +kernel
theorem dX5_all_16 : decode cX5_all 16 = .ok (.iadd, 1) := by decide +kernel
theorem dX5_all_17 : decode cX5_all 17 = .ok (.istore_n 1, 1) := by decide +kernel
theorem dX5_all_18 : decode cX5_all 18 = .ok (.iinc 2 1, 3) := by decide +kernel
theorem dX5_all_21 : decode cX5_all 21 = .ok (.goto (-17), 3) := by decide +kernel
theorem dX5_all_24 : decode cX5_all 24 = .ok (.iload_n 1, 1) := by decide +kernel
theorem dX5_all_25 : decode cX5_all 25 = .ok (.ireturn, 1) := by decide +kernel
set_option maxRecDepth 20000 in
theorem ggX5_stock_X5_isSize : GoodIn wsX5_stock wsX5_isSize := goodIn_r _ [6, 7, 8, 5, 9] (by decide +kernel) (by decide +kernel)
set_option maxRecDepth 20000 in
theorem gX5_stock_X5_isSize : GoodIn wsX5_stock (va_wsS RX5 94 yX5_isSize wsX5_isSize) := goodIn_app (goodIn_of _ (by decide +kernel)) ggX5_stock_X5_isSize
set_option maxRecDepth 20000 in
theorem ggX5_stock_X5_in : GoodIn wsX5_stock wsX5_in := goodIn_r _ [9] (by decide +kernel) (by decide +kernel)
set_option maxRecDepth 20000 in
theorem gX5_stock_X5_in : GoodIn wsX5_stock (va_wsS RX5 32 yX5_in wsX5_in) := goodIn_app (goodIn_of _ (by decide +kernel)) ggX5_stock_X5_in
set_option maxRecDepth 20000 in
theorem ggX5_stock_X5_fails : GoodIn wsX5_stock wsX5_fails := goodIn_r _ [13, 1, 20, 21, 22, 23, 24, 25, 26, 27, 28, 29, 30, 31] (by decide +kernel) (by decide +kernel)
set_option maxRecDepth 20000 in
theorem gX5_stock_X5_fails : GoodIn wsX5_stock (wsV RX5 39 RX5 yX5_fails wsX5_fails) := goodIn_app (goodIn_of _ (by decide +kernel)) ggX5_stock_X5_fails
set_option maxRecDepth 20000 in
theorem ggX5_stock_X5_saves : GoodIn wsX5_stock wsX5_saves := goodIn_r _ [17, 18, 19, 2, 20, 21, 22, 23, 24, 25, 26, 27, 28, 29, 30, 31] (by decide +kernel) (by decide +kernel)
set_option maxRecDepth 20000 in
theorem gX5_stock_X5_saves : GoodIn wsX5_stock (wsV RX5 98 RX5 yX5_saves wsX5_saves) := goodIn_app (goodIn_of _ (by decide +kernel)) ggX5_stock_X5_saves
theorem dX5_stock_0 : decode cX5_stock 0 = .ok (.aload_n 0, 1) := by decide +kernel
theorem dX5_stock_1 : decode cX5_stock 1 = .ok (.iconst 0, 1) := by decide +kernel
theorem dX5_stock_2 : decode cX5_stock 2 = .ok (.putfield 28, 3) := by decide +kernel
theorem dX5_stock_5 : decode cX5_stock 5 = .ok (.iload_n 1, 1) := by decide +kernel
theorem dX5_stock_6 : decode cX5_stock 6 = .ok (.invokestatic 94, 3) := by decide +kernel
theorem dX5_stock_9 : decode cX5_stock 9 = .ok (.ifCond .eq 13, 3) := by decide +kernel
theorem dX5_stock_12 : decode cX5_stock 12 = .ok (.iload_n 2, 1) := by decide +kernel
theorem dX5_stock_13 : decode cX5_stock 13 = .ok (.iconst 0, 1) := by decide +kernel
theorem dX5_stock_14 : decode cX5_stock 14 = .ok (.bipush 99, 2) := by decide +kernel
theorem dX5_stock_16 : decode cX5_stock 16 = .ok (.invokestatic 32, 3) := by decide +kernel
theorem dX5_stock_19 : decode cX5_stock 19 = .ok (.ifCond .ne 9, 3) := by decide +kernel
theorem dX5_stock_22 : decode cX5_stock 22 = .ok (.aload_n 0, 1) := by decide +kernel
theorem dX5_stock_23 : decode cX5_stock 23 = .ok (.iconst 1, 1) := by decide +kernel
theorem dX5_stock_24 : decode cX5_stock 24 = .ok (.invokevirtual 39, 3) := by decide +kernel
theorem dX5_stock_27 : decode cX5_stock 27 = .ok (.ireturn, 1) := by decide +kernel
theorem dX5_stock_28 : decode cX5_stock 28 = .ok (.aload_n 0, 1) := by decide +kernel
theorem dX5_stock_29 : decode cX5_stock 29 = .ok (.invokevirtual 98, 3) := by decide +kernel
theorem dX5_stock_32 : decode cX5_stock 32 = .ok (.aload_n 0, 1) := by decide +kernel
theorem dX5_stock_33 : decode cX5_stock 33 = .ok (.getfield 7, 3) := by decide +kernel
theorem dX5_stock_36 : decode cX5_stock 36 = .ok (.iconst 3, 1) := by decide +kernel
theorem dX5_stock_37 : decode cX5_stock 37 = .ok (.iload_n 1, 1) := by decide +kernel
theorem dX5_stock_38 : decode cX5_stock 38 = .ok (.iadd, 1) := by decide +kernel
theorem dX5_stock_39 : decode cX5_stock 39 = .ok (.iaload, 1) := by decide +kernel
theorem dX5_stock_40 : decode cX5_stock 40 = .ok (.istore_n 3, 1) := by decide +kernel
theorem dX5_stock_41 : decode cX5_stock 41 = .ok (.aload_n 0, 1) := by decide +kernel
theorem dX5_stock_42 : decode cX5_stock 42 = .ok (.getfield 7, 3) := by decide +kernel
theorem dX5_stock_45 : decode cX5_stock 45 = .ok (.iconst 3, 1) := by decide +kernel
theorem dX5_stock_46 : decode cX5_stock 46 = .ok (.iload_n 1, 1) := by decide +kernel
theorem dX5_stock_47 : decode cX5_stock 47 = .ok (.iadd, 1) := by decide +kernel
theorem dX5_stock_48 : decode cX5_stock 48 = .ok (.iload_n 2, 1) := by decide +kernel
theorem dX5_stock_49 : decode cX5_stock 49 = .ok (.iastore, 1) := by decide +kernel
theorem dX5_stock_50 : decode cX5_stock 50 = .ok (.iload_n 3, 1) := by decide +kernel
theorem dX5_stock_51 : decode cX5_stock 51 = .ok (.ireturn, 1) := by decide +kernel
set_option maxRecDepth 20000 in
theorem ggX5_may_X5_isCourse : GoodIn wsX5_may wsX5_isCourse := goodIn_r _ [5, 6, 7, 4, 8] (by decide +kernel) (by decide +kernel)
set_option maxRecDepth 20000 in
theorem gX5_may_X5_isCourse : GoodIn wsX5_may (va_wsS RX5 101 yX5_isCourse wsX5_isCourse) := goodIn_app (goodIn_of _ (by decide +kernel)) ggX5_may_X5_isCourse
set_option maxRecDepth 20000 in
theorem ggX5_may_X5_isSize : GoodIn wsX5_may wsX5_isSize := goodIn_r _ [11, 6, 7, 4, 8] (by decide +kernel) (by decide +kernel)
set_option maxRecDepth 20000 in
theorem gX5_may_X5_isSize : GoodIn wsX5_may (va_wsS RX5 94 yX5_isSize wsX5_isSize) := goodIn_app (goodIn_of _ (by decide +kernel)) ggX5_may_X5_isSize
set_option maxRecDepth 20000 in
theorem ggX5_may_X5_refused : GoodIn wsX5_may wsX5_refused := goodIn_r _ [14, 15, 16, 4, 17, 18, 19, 20, 21, 22, 23, 24, 25, 26, 27, 28, 29, 30, 31, 32, 33, 34, 35, 36, 37, 38, 39, 40, 41] (by decide +kernel) (by decide +kernel)
set_option maxRecDepth 20000 in
theorem gX5_may_X5_refused : GoodIn wsX5_may (va_wsS RX5 74 yX5_refused wsX5_refused) := goodIn_app (goodIn_of _ (by decide +kernel)) ggX5_may_X5_refused
theorem dX5_may_0 : decode cX5_may 0 = .ok (.iload_n 1, 1) := by decide +kernel
theorem dX5_may_1 : decode cX5_may 1 = .ok (.invokestatic 101, 3) := by decide +kernel
theorem dX5_may_4 : decode cX5_may 4 = .ok (.ifCond .ne 7, 3) := by decide +kernel
theorem dX5_may_7 : decode cX5_may 7 = .ok (.iconst 1, 1) := by decide +kernel
theorem dX5_may_8 : decode cX5_may 8 = .ok (.goto 32, 3) := by decide +kernel
theorem dX5_may_11 : decode cX5_may 11 = .ok (.iload_n 2, 1) := by decide +kernel
theorem dX5_may_12 : decode cX5_may 12 = .ok (.invokestatic 94, 3) := by decide +kernel
theorem dX5_may_15 : decode cX5_may 15 = .ok (.ifCond .ne 7, 3) := by decide +kernel
theorem dX5_may_18 : decode cX5_may 18 = .ok (.iconst 2, 1) := by decide +kernel
theorem dX5_may_19 : decode cX5_may 19 = .ok (.goto 21, 3) := by decide +kernel
theorem dX5_may_22 : decode cX5_may 22 = .ok (.aload_n 0, 1) := by decide +kernel
theorem dX5_may_23 : decode cX5_may 23 = .ok (.getfield 7, 3) := by decide +kernel
theorem dX5_may_26 : decode cX5_may 26 = .ok (.iload_n 1, 1) := by decide +kernel
theorem dX5_may_27 : decode cX5_may 27 = .ok (.iload_n 2, 1) := by decide +kernel
theorem dX5_may_28 : decode cX5_may 28 = .ok (.iload_n 3, 1) := by decide +kernel
theorem dX5_may_29 : decode cX5_may 29 = .ok (.invokestatic 74, 3) := by decide +kernel
theorem dX5_may_32 : decode cX5_may 32 = .ok (.ifCond .ne 7, 3) := by decide +kernel
theorem dX5_may_35 : decode cX5_may 35 = .ok (.iconst 0, 1) := by decide +kernel
theorem dX5_may_36 : decode cX5_may 36 = .ok (.goto 4, 3) := by decide +kernel
theorem dX5_may_39 : decode cX5_may 39 = .ok (.iconst 3, 1) := by decide +kernel
theorem dX5_may_40 : decode cX5_may 40 = .ok (.ireturn, 1) := by decide +kernel
set_option maxRecDepth 20000 in
theorem ggX5_lay_X5_may : GoodIn wsX5_lay wsX5_may := goodIn_r _ [7, 2, 8, 9, 6, 10, 11, 12, 13, 14, 15, 16, 17, 18, 19, 20, 21, 22, 23, 24, 25, 26, 27, 28, 29, 30, 31, 32, 33, 34, 35, 36, 37, 38, 39, 40, 41, 42, 43, 44, 45, 46, 56, 57, 58, 59, 60, 61, 62, 63, 64, 65, 66, 67] (by decide +kernel) (by decide +kernel)
set_option maxRecDepth 20000 in
theorem gX5_lay_X5_may : GoodIn wsX5_lay (wsV RX5 104 RX5 yX5_may wsX5_may) := goodIn_app (goodIn_of _ (by decide +kernel)) ggX5_lay_X5_may
set_option maxRecDepth 20000 in
theorem ggX5_lay_X5_saves : GoodIn wsX5_lay wsX5_saves := goodIn_r _ [50, 51, 52, 2, 56, 57, 58, 59, 60, 61, 62, 63, 64, 65, 66, 67] (by decide +kernel) (by decide +kernel)
set_option maxRecDepth 20000 in
theorem gX5_lay_X5_saves : GoodIn wsX5_lay (wsV RX5 98 RX5 yX5_saves wsX5_saves) := goodIn_app (goodIn_of _ (by decide +kernel)) ggX5_lay_X5_saves
set_option maxRecDepth 20000 in
theorem ggX5_lay_X5_taken : GoodIn wsX5_lay wsX5_taken := goodIn_r _ [22, 23, 24, 6, 25, 26, 27, 28] (by decide +kernel) (by decide +kernel)
set_option maxRecDepth 20000 in
theorem gX5_lay_X5_taken : GoodIn wsX5_lay (va_wsS RX5 51 yX5_taken wsX5_taken) := goodIn_app (goodIn_of _ (by decide +kernel)) ggX5_lay_X5_taken
set_option maxRecDepth 20000 in
theorem ggX5_lay_X5_lays : GoodIn wsX5_lay wsX5_lays := goodIn_r _ [55, 35, 36, 6, 37, 23, 24, 25] (by decide +kernel) (by decide +kernel)
set_option maxRecDepth 20000 in
theorem gX5_lay_X5_lays : GoodIn wsX5_lay (va_wsS RX5 84 yX5_lays wsX5_lays) := goodIn_app (goodIn_of _ (by decide +kernel)) ggX5_lay_X5_lays
theorem dX5_lay_0 : decode cX5_lay 0 = .ok (.aload_n 0, 1) := by decide +kernel
theorem dX5_lay_1 : decode cX5_lay 1 = .ok (.aload_n 0, 1) := by decide +kernel
theorem dX5_lay_2 : decode cX5_lay 2 = .ok (.iload_n 1, 1) := by decide +kernel
theorem dX5_lay_3 : decode cX5_lay 3 = .ok (.iload_n 2, 1) := by decide +kernel
theorem dX5_lay_4 : decode cX5_lay 4 = .ok (.iconst 0, 1) := by decide +kernel
theorem dX5_lay_5 : decode cX5_lay 5 = .ok (.invokevirtual 104, 3) := by decide +kernel
theorem dX5_lay_8 : decode cX5_lay 8 = .ok (.putfield 28, 3) := by decide +kernel
theorem dX5_lay_11 : decode cX5_lay 11 = .ok (.aload_n 0, 1) := by decide +kernel
theorem dX5_lay_12 : decode cX5_lay 12 = .ok (.getfield 28, 3) := by decide +kernel
theorem dX5_lay_15 : decode cX5_lay 15 = .ok (.ifCond .eq 5, 3) := by decide +kernel
theorem dX5_lay_18 : decode cX5_lay 18 = .ok (.iconst 0, 1) := by decide +kernel
theorem dX5_lay_19 : decode cX5_lay 19 = .ok (.ireturn, 1) := by decide +kernel
theorem dX5_lay_20 : decode cX5_lay 20 = .ok (.aload_n 0, 1) := by decide +kernel
theorem dX5_lay_21 : decode cX5_lay 21 = .ok (.invokevirtual 98, 3) := by decide +kernel
theorem dX5_lay_24 : decode cX5_lay 24 = .ok (.aload_n 0, 1) := by decide +kernel
theorem dX5_lay_25 : decode cX5_lay 25 = .ok (.getfield 7, 3) := by decide +kernel
theorem dX5_lay_28 : decode cX5_lay 28 = .ok (.iload_n 1, 1) := by decide +kernel
theorem dX5_lay_29 : decode cX5_lay 29 = .ok (.invokestatic 51, 3) := by decide +kernel
theorem dX5_lay_32 : decode cX5_lay 32 = .ok (.istore_n 3, 1) := by decide +kernel
theorem dX5_lay_33 : decode cX5_lay 33 = .ok (.aload_n 0, 1) := by decide +kernel
theorem dX5_lay_34 : decode cX5_lay 34 = .ok (.getfield 7, 3) := by decide +kernel
theorem dX5_lay_37 : decode cX5_lay 37 = .ok (.iload_n 1, 1) := by decide +kernel
theorem dX5_lay_38 : decode cX5_lay 38 = .ok (.iload_n 2, 1) := by decide +kernel
theorem dX5_lay_39 : decode cX5_lay 39 = .ok (.iconst 0, 1) := by decide +kernel
theorem dX5_lay_40 : decode cX5_lay 40 = .ok (.invokestatic 84, 3) := by decide +kernel
theorem dX5_lay_43 : decode cX5_lay 43 = .ok (.pop, 1) := by decide +kernel
theorem dX5_lay_44 : decode cX5_lay 44 = .ok (.iload_n 3, 1) := by decide +kernel
theorem dX5_lay_45 : decode cX5_lay 45 = .ok (.ireturn, 1) := by decide +kernel
set_option maxRecDepth 20000 in
theorem ggX5_cut_X5_may : GoodIn wsX5_cut wsX5_may := goodIn_r _ [7, 2, 8, 9, 6, 10, 11, 12, 13, 14, 15, 16, 17, 18, 19, 20, 21, 22, 23, 24, 25, 26, 27, 28, 29, 30, 31, 32, 33, 34, 35, 36, 37, 38, 39, 40, 41, 42, 43, 44, 45, 46, 56, 57, 58, 59, 60, 61, 62, 63, 64, 65, 66, 67] (by decide +kernel) (by decide +kernel)
set_option maxRecDepth 20000 in
theorem gX5_cut_X5_may : GoodIn wsX5_cut (wsV RX5 104 RX5 yX5_may wsX5_may) := goodIn_app (goodIn_of _ (by decide +kernel)) ggX5_cut_X5_may
set_option maxRecDepth 20000 in
theorem ggX5_cut_X5_saves : GoodIn wsX5_cut wsX5_saves := goodIn_r _ [50, 51, 52, 2, 56, 57, 58, 59, 60, 61, 62, 63, 64, 65, 66, 67] (by decide +kernel) (by decide +kernel)
set_option maxRecDepth 20000 in
theorem gX5_cut_X5_saves : GoodIn wsX5_cut (wsV RX5 98 RX5 yX5_saves wsX5_saves) := goodIn_app (goodIn_of _ (by decide +kernel)) ggX5_cut_X5_saves
set_option maxRecDepth 20000 in
theorem ggX5_cut_X5_lays : GoodIn wsX5_cut wsX5_lays := goodIn_r _ [55, 35, 36, 6, 37, 23, 24, 25] (by decide +kernel) (by decide +kernel)
set_option maxRecDepth 20000 in
theorem gX5_cut_X5_lays : GoodIn wsX5_cut (va_wsS RX5 84 yX5_lays wsX5_lays) := goodIn_app (goodIn_of _ (by decide +kernel)) ggX5_cut_X5_lays
theorem dX5_cut_0 : decode cX5_cut 0 = .ok (.aload_n 0, 1) := by decide +kernel
theorem dX5_cut_1 : decode cX5_cut 1 = .ok (.aload_n 0, 1) := by decide +kernel
theorem dX5_cut_2 : decode cX5_cut 2 = .ok (.iload_n 1, 1) := by decide +kernel
theorem dX5_cut_3 : decode cX5_cut 3 = .ok (.iload_n 2, 1) := by decide +kernel
theorem dX5_cut_4 : decode cX5_cut 4 = .ok (.iconst 1, 1) := by decide +kernel
theorem dX5_cut_5 : decode cX5_cut 5 = .ok (.invokevirtual 104, 3) := by decide +kernel
theorem dX5_cut_8 : decode cX5_cut 8 = .ok (.putfield 28, 3) := by decide +kernel
theorem dX5_cut_11 : decode cX5_cut 11 = .ok (.aload_n 0, 1) := by decide +kernel
theorem dX5_cut_12 : decode cX5_cut 12 = .ok (.getfield 28, 3) := by decide +kernel
theorem dX5_cut_15 : decode cX5_cut 15 = .ok (.ifCond .eq 5, 3) := by decide +kernel
theorem dX5_cut_18 : decode cX5_cut 18 = .ok (.iconst 0, 1) := by decide +kernel
theorem dX5_cut_19 : decode cX5_cut 19 = .ok (.ireturn, 1) := by decide +kernel
theorem dX5_cut_20 : decode cX5_cut 20 = .ok (.aload_n 0, 1) := by decide +kernel
theorem dX5_cut_21 : decode cX5_cut 21 = .ok (.invokevirtual 98, 3) := by decide +kernel
theorem dX5_cut_24 : decode cX5_cut 24 = .ok (.aload_n 0, 1) := by decide +kernel
theorem dX5_cut_25 : decode cX5_cut 25 = .ok (.getfield 7, 3) := by decide +kernel
theorem dX5_cut_28 : decode cX5_cut 28 = .ok (.iload_n 1, 1) := by decide +kernel
theorem dX5_cut_29 : decode cX5_cut 29 = .ok (.iload_n 2, 1) := by decide +kernel
theorem dX5_cut_30 : decode cX5_cut 30 = .ok (.iconst 1, 1) := by decide +kernel
theorem dX5_cut_31 : decode cX5_cut 31 = .ok (.invokestatic 84, 3) := by decide +kernel
theorem dX5_cut_34 : decode cX5_cut 34 = .ok (.ireturn, 1) := by decide +kernel
set_option maxRecDepth 20000 in
theorem ggX5_takeUp_X5_isCourse : GoodIn wsX5_takeUp wsX5_isCourse := goodIn_r _ [6, 7, 8, 5, 9] (by decide +kernel) (by decide +kernel)
set_option maxRecDepth 20000 in
theorem gX5_takeUp_X5_isCourse : GoodIn wsX5_takeUp (va_wsS RX5 101 yX5_isCourse wsX5_isCourse) := goodIn_app (goodIn_of _ (by decide +kernel)) ggX5_takeUp_X5_isCourse
set_option maxRecDepth 20000 in
theorem ggX5_takeUp_X5_fails : GoodIn wsX5_takeUp wsX5_fails := goodIn_r _ [13, 1, 26, 27, 28, 29, 30, 31, 32, 33, 34, 35, 36, 37] (by decide +kernel) (by decide +kernel)
set_option maxRecDepth 20000 in
theorem gX5_takeUp_X5_fails : GoodIn wsX5_takeUp (wsV RX5 39 RX5 yX5_fails wsX5_fails) := goodIn_app (goodIn_of _ (by decide +kernel)) ggX5_takeUp_X5_fails
set_option maxRecDepth 20000 in
theorem ggX5_takeUp_X5_in : GoodIn wsX5_takeUp wsX5_in := goodIn_r _ [9] (by decide +kernel) (by decide +kernel)
set_option maxRecDepth 20000 in
theorem gX5_takeUp_X5_in : GoodIn wsX5_takeUp (va_wsS RX5 32 yX5_in wsX5_in) := goodIn_app (goodIn_of _ (by decide +kernel)) ggX5_takeUp_X5_in
set_option maxRecDepth 20000 in
theorem ggX5_takeUp_X5_saves : GoodIn wsX5_takeUp wsX5_saves := goodIn_r _ [17, 18, 19, 2, 26, 27, 28, 29, 30, 31, 32, 33, 34, 35, 36, 37] (by decide +kernel) (by decide +kernel)
set_option maxRecDepth 20000 in
theorem gX5_takeUp_X5_saves : GoodIn wsX5_takeUp (wsV RX5 98 RX5 yX5_saves wsX5_saves) := goodIn_app (goodIn_of _ (by decide +kernel)) ggX5_takeUp_X5_saves
set_option maxRecDepth 20000 in
theorem ggX5_takeUp_X5_pebbles : GoodIn wsX5_takeUp wsX5_pebbles := goodIn_r _ [22] (by decide +kernel) (by decide +kernel)
set_option maxRecDepth 20000 in
theorem gX5_takeUp_X5_pebbles : GoodIn wsX5_takeUp (va_wsS RX5 43 yX5_pebbles wsX5_pebbles) := goodIn_app (goodIn_of _ (by decide +kernel)) ggX5_takeUp_X5_pebbles
set_option maxRecDepth 20000 in
theorem ggX5_takeUp_X5_sizeOf : GoodIn wsX5_takeUp wsX5_sizeOf := goodIn_r _ [25] (by decide +kernel) (by decide +kernel)
set_option maxRecDepth 20000 in
theorem gX5_takeUp_X5_sizeOf : GoodIn wsX5_takeUp (va_wsS RX5 47 yX5_sizeOf wsX5_sizeOf) := goodIn_app (goodIn_of _ (by decide +kernel)) ggX5_takeUp_X5_sizeOf
theorem dX5_takeUp_0 : decode cX5_takeUp 0 = .ok (.aload_n 0, 1) := by decide +kernel
theorem dX5_takeUp_1 : decode cX5_takeUp 1 = .ok (.iconst 0, 1) := by decide +kernel
theorem dX5_takeUp_2 : decode cX5_takeUp 2 = .ok (.putfield 28, 3) := by decide +kernel
theorem dX5_takeUp_5 : decode cX5_takeUp 5 = .ok (.iload_n 1, 1) := by decide +kernel
theorem dX5_takeUp_6 : decode cX5_takeUp 6 = .ok (.invokestatic 101, 3) := by decide +kernel
theorem dX5_takeUp_9 : decode cX5_takeUp 9 = .ok (.ifCond .ne 9, 3) := by decide +kernel
theorem dX5_takeUp_12 : decode cX5_takeUp 12 = .ok (.aload_n 0, 1) := by decide +kernel
theorem dX5_takeUp_13 : decode cX5_takeUp 13 = .ok (.iconst 1, 1) := by decide +kernel
theorem dX5_takeUp_14 : decode cX5_takeUp 14 = .ok (.invokevirtual 39, 3) := by decide +kernel
theorem dX5_takeUp_17 : decode cX5_takeUp 17 = .ok (.ireturn, 1) := by decide +kernel
theorem dX5_takeUp_18 : decode cX5_takeUp 18 = .ok (.iload_n 2, 1) := by decide +kernel
theorem dX5_takeUp_19 : decode cX5_takeUp 19 = .ok (.iconst 1, 1) := by decide +kernel
theorem dX5_takeUp_20 : decode cX5_takeUp 20 = .ok (.bipush 60, 2) := by decide +kernel
theorem dX5_takeUp_22 : decode cX5_takeUp 22 = .ok (.invokestatic 32, 3) := by decide +kernel
theorem dX5_takeUp_25 : decode cX5_takeUp 25 = .ok (.ifCond .ne 9, 3) := by decide +kernel
theorem dX5_takeUp_28 : decode cX5_takeUp 28 = .ok (.aload_n 0, 1) := by decide +kernel
theorem dX5_takeUp_29 : decode cX5_takeUp 29 = .ok (.iconst 2, 1) := by decide +kernel
theorem dX5_takeUp_30 : decode cX5_takeUp 30 = .ok (.invokevirtual 39, 3) := by decide +kernel
theorem dX5_takeUp_33 : decode cX5_takeUp 33 = .ok (.ireturn, 1) := by decide +kernel
theorem dX5_takeUp_34 : decode cX5_takeUp 34 = .ok (.aload_n 0, 1) := by decide +kernel
theorem dX5_takeUp_35 : decode cX5_takeUp 35 = .ok (.invokevirtual 98, 3) := by decide +kernel
theorem dX5_takeUp_38 : decode cX5_takeUp 38 = .ok (.iload_n 2, 1) := by decide +kernel
theorem dX5_takeUp_39 : decode cX5_takeUp 39 = .ok (.aload_n 0, 1) := by decide +kernel
theorem dX5_takeUp_40 : decode cX5_takeUp 40 = .ok (.getfield 7, 3) := by decide +kernel
theorem dX5_takeUp_43 : decode cX5_takeUp 43 = .ok (.iload_n 1, 1) := by decide +kernel
theorem dX5_takeUp_44 : decode cX5_takeUp 44 = .ok (.invokestatic 43, 3) := by decide +kernel
theorem dX5_takeUp_47 : decode cX5_takeUp 47 = .ok (.if_icmp .ge 7, 3) := by decide +kernel
theorem dX5_takeUp_50 : decode cX5_takeUp 50 = .ok (.iload_n 2, 1) := by decide +kernel
theorem dX5_takeUp_51 : decode cX5_takeUp 51 = .ok (.goto 11, 3) := by decide +kernel
theorem dX5_takeUp_54 : decode cX5_takeUp 54 = .ok (.aload_n 0, 1) := by decide +kernel
theorem dX5_takeUp_55 : decode cX5_takeUp 55 = .ok (.getfield 7, 3) := by decide +kernel
theorem dX5_takeUp_58 : decode cX5_takeUp 58 = .ok (.iload_n 1, 1) := by decide +kernel
theorem dX5_takeUp_59 : decode cX5_takeUp 59 = .ok (.invokestatic 43, 3) := by decide +kernel
theorem dX5_takeUp_62 : decode cX5_takeUp 62 = .ok (.istore_n 3, 1) := by decide +kernel
theorem dX5_takeUp_63 : decode cX5_takeUp 63 = .ok (.iconst 0, 1) := by decide +kernel
theorem dX5_takeUp_64 : decode cX5_takeUp 64 = .ok (.istore 4, 2) := by decide +kernel
theorem dX5_takeUp_66 : decode cX5_takeUp 66 = .ok (.iload 4, 2) := by decide +kernel
theorem dX5_takeUp_68 : decode cX5_takeUp 68 = .ok (.iload_n 3, 1) := by decide +kernel
theorem dX5_takeUp_69 : decode cX5_takeUp 69 = .ok (.if_icmp .ge 86, 3) := by decide +kernel
theorem dX5_takeUp_72 : decode cX5_takeUp 72 = .ok (.aload_n 0, 1) := by decide +kernel
theorem dX5_takeUp_73 : decode cX5_takeUp 73 = .ok (.getfield 7, 3) := by decide +kernel
theorem dX5_takeUp_76 : decode cX5_takeUp 76 = .ok (.iload_n 1, 1) := by decide +kernel
theorem dX5_takeUp_77 : decode cX5_takeUp 77 = .ok (.aload_n 0, 1) := by decide +kernel
theorem dX5_takeUp_78 : decode cX5_takeUp 78 = .ok (.getfield 7, 3) := by decide +kernel
theorem dX5_takeUp_81 : decode cX5_takeUp 81 = .ok (.iload_n 1, 1) := by decide +kernel
theorem dX5_takeUp_82 : decode cX5_takeUp 82 = .ok (.invokestatic 43, 3) := by decide +kernel
theorem dX5_takeUp_85 : decode cX5_takeUp 85 = .ok (.iconst 1, 1) := by decide +kernel
theorem dX5_takeUp_86 : decode cX5_takeUp 86 = .ok (.isub, 1) := by decide +kernel
theorem dX5_takeUp_87 : decode cX5_takeUp 87 = .ok (.invokestatic 47, 3) := by decide +kernel
theorem dX5_takeUp_90 : decode cX5_takeUp 90 = .ok (.istore 5, 2) := by decide +kernel
theorem dX5_takeUp_92 : decode cX5_takeUp 92 = .ok (.aload_n 0, 1) := by decide +kernel
theorem dX5_takeUp_93 : decode cX5_takeUp 93 = .ok (.getfield 7, 3) := by decide +kernel
theorem dX5_takeUp_96 : decode cX5_takeUp 96 = .ok (.bipush 10, 2) := by decide +kernel
theorem dX5_takeUp_98 : decode cX5_takeUp 98 = .ok (.bipush 61, 2) := by decide +kernel
theorem dX5_takeUp_100 : decode cX5_takeUp 100 = .ok (.iload_n 1, 1) := by decide +kernel
theorem dX5_takeUp_101 : decode cX5_takeUp 101 = .ok (.imul, 1) := by decide +kernel
theorem dX5_takeUp_102 : decode cX5_takeUp 102 = .ok (.iadd, 1) := by decide +kernel
theorem dX5_takeUp_103 : decode cX5_takeUp 103 = .ok (.dup2, 1) := by decide +kernel
theorem dX5_takeUp_104 : decode cX5_takeUp 104 = .ok (.iaload, 1) := by decide +kernel
theorem dX5_takeUp_105 : decode cX5_takeUp 105 = .ok (.iconst 1, 1) := by decide +kernel
theorem dX5_takeUp_106 : decode cX5_takeUp 106 = .ok (.isub, 1) := by decide +kernel
theorem dX5_takeUp_107 : decode cX5_takeUp 107 = .ok (.iastore, 1) := by decide +kernel
theorem dX5_takeUp_108 : decode cX5_takeUp 108 = .ok (.aload_n 0, 1) := by decide +kernel
theorem dX5_takeUp_109 : decode cX5_takeUp 109 = .ok (.getfield 7, 3) := by decide +kernel
theorem dX5_takeUp_112 : decode cX5_takeUp 112 = .ok (.iconst 3, 1) := by decide +kernel
theorem dX5_takeUp_113 : decode cX5_takeUp 113 = .ok (.iload 5, 2) := by decide +kernel
theorem dX5_takeUp_115 : decode cX5_takeUp 115 = .ok (.iadd, 1) := by decide +kernel
theorem dX5_takeUp_116 : decode cX5_takeUp 116 = .ok (.iaload, 1) := by decide +kernel
theorem dX5_takeUp_117 : decode cX5_takeUp 117 = .ok (.bipush 99, 2) := by decide +kernel
theorem dX5_takeUp_119 : decode cX5_takeUp 119 = .ok (.if_icmp .ne 17, 3) := by decide +kernel
theorem dX5_takeUp_122 : decode cX5_takeUp 122 = .ok (.aload_n 0, 1) := by decide +kernel
theorem dX5_takeUp_123 : decode cX5_takeUp 123 = .ok (.getfield 7, 3) := by decide +kernel
theorem dX5_takeUp_126 : decode cX5_takeUp 126 = .ok (.iconst 3, 1) := by decide +kernel
theorem dX5_takeUp_127 : decode cX5_takeUp 127 = .ok (.dup2, 1) := by decide +kernel
theorem dX5_takeUp_128 : decode cX5_takeUp 128 = .ok (.iaload, 1) := by decide +kernel
theorem dX5_takeUp_129 : decode cX5_takeUp 129 = .ok (.iload 5, 2) := by decide +kernel
theorem dX5_takeUp_131 : decode cX5_takeUp 131 = .ok (.iadd, 1) := by decide +kernel
theorem dX5_takeUp_132 : decode cX5_takeUp 132 = .ok (.iastore, 1) := by decide +kernel
theorem dX5_takeUp_133 : decode cX5_takeUp 133 = .ok (.goto 16, 3) := by decide +kernel
theorem dX5_takeUp_136 : decode cX5_takeUp 136 = .ok (.aload_n 0, 1) := by decide +kernel
theorem dX5_takeUp_137 : decode cX5_takeUp 137 = .ok (.getfield 7, 3) := by decide +kernel
theorem dX5_takeUp_140 : decode cX5_takeUp 140 = .ok (.iconst 3, 1) := by decide +kernel
theorem dX5_takeUp_141 : decode cX5_takeUp 141 = .ok (.iload 5, 2) := by decide +kernel
theorem dX5_takeUp_143 : decode cX5_takeUp 143 = .ok (.iadd, 1) := by decide +kernel
theorem dX5_takeUp_144 : decode cX5_takeUp 144 = .ok (.dup2, 1) := by decide +kernel
theorem dX5_takeUp_145 : decode cX5_takeUp 145 = .ok (.iaload, 1) := by decide +kernel
theorem dX5_takeUp_146 : decode cX5_takeUp 146 = .ok (.iconst 1, 1) := by decide +kernel
theorem dX5_takeUp_147 : decode cX5_takeUp 147 = .ok (.iadd, 1) := by decide +kernel
theorem dX5_takeUp_148 : decode cX5_takeUp 148 = .ok (.iastore, 1) := by decide +kernel
theorem dX5_takeUp_149 : decode cX5_takeUp 149 = .ok (.iinc 4 1, 3) := by decide +kernel
theorem dX5_takeUp_152 : decode cX5_takeUp 152 = .ok (.goto (-86), 3) := by decide +kernel
theorem dX5_takeUp_155 : decode cX5_takeUp 155 = .ok (.iload_n 3, 1) := by decide +kernel
theorem dX5_takeUp_156 : decode cX5_takeUp 156 = .ok (.ireturn, 1) := by decide +kernel
set_option maxRecDepth 20000 in
theorem ggX5_fill_X5_isCourse : GoodIn wsX5_fill wsX5_isCourse := goodIn_r _ [6, 7, 8, 5, 9] (by decide +kernel) (by decide +kernel)
set_option maxRecDepth 20000 in
theorem gX5_fill_X5_isCourse : GoodIn wsX5_fill (va_wsS RX5 101 yX5_isCourse wsX5_isCourse) := goodIn_app (goodIn_of _ (by decide +kernel)) ggX5_fill_X5_isCourse
set_option maxRecDepth 20000 in
theorem ggX5_fill_X5_fails : GoodIn wsX5_fill wsX5_fails := goodIn_r _ [13, 1, 62, 63, 64, 65, 66, 67, 68, 69, 70, 71, 72, 73] (by decide +kernel) (by decide +kernel)
set_option maxRecDepth 20000 in
theorem gX5_fill_X5_fails : GoodIn wsX5_fill (wsV RX5 39 RX5 yX5_fails wsX5_fails) := goodIn_app (goodIn_of _ (by decide +kernel)) ggX5_fill_X5_fails
set_option maxRecDepth 20000 in
theorem ggX5_fill_X5_saves : GoodIn wsX5_fill wsX5_saves := goodIn_r _ [17, 18, 19, 2, 62, 63, 64, 65, 66, 67, 68, 69, 70, 71, 72, 73] (by decide +kernel) (by decide +kernel)
set_option maxRecDepth 20000 in
theorem gX5_fill_X5_saves : GoodIn wsX5_fill (wsV RX5 98 RX5 yX5_saves wsX5_saves) := goodIn_app (goodIn_of _ (by decide +kernel)) ggX5_fill_X5_saves
set_option maxRecDepth 20000 in
theorem ggX5_fill_X5_fills : GoodIn wsX5_fill wsX5_fills := goodIn_r _ [22, 23, 24, 5, 25, 26, 27, 28, 29, 30, 31, 32, 33, 34, 35, 36, 37, 38, 39, 40, 41, 42, 43, 44, 45, 46, 47, 48, 49, 50, 51, 52, 53, 54, 55, 56, 57, 58, 59, 60, 61] (by decide +kernel) (by decide +kernel)
set_option maxRecDepth 20000 in
theorem gX5_fill_X5_fills : GoodIn wsX5_fill (va_wsS RX5 87 yX5_fills wsX5_fills) := goodIn_app (goodIn_of _ (by decide +kernel)) ggX5_fill_X5_fills
theorem dX5_fill_0 : decode cX5_fill 0 = .ok (.aload_n 0, 1) := by decide +kernel
theorem dX5_fill_1 : decode cX5_fill 1 = .ok (.iconst 0, 1) := by decide +kernel
theorem dX5_fill_2 : decode cX5_fill 2 = .ok (.putfield 28, 3) := by decide +kernel
theorem dX5_fill_5 : decode cX5_fill 5 = .ok (.iload_n 1, 1) := by decide +kernel
theorem dX5_fill_6 : decode cX5_fill 6 = .ok (.invokestatic 101, 3) := by decide +kernel
theorem dX5_fill_9 : decode cX5_fill 9 = .ok (.ifCond .ne 9, 3) := by decide +kernel
theorem dX5_fill_12 : decode cX5_fill 12 = .ok (.aload_n 0, 1) := by decide +kernel
theorem dX5_fill_13 : decode cX5_fill 13 = .ok (.iconst 1, 1) := by decide +kernel
theorem dX5_fill_14 : decode cX5_fill 14 = .ok (.invokevirtual 39, 3) := by decide +kernel
theorem dX5_fill_17 : decode cX5_fill 17 = .ok (.ireturn, 1) := by decide +kernel
theorem dX5_fill_18 : decode cX5_fill 18 = .ok (.aload_n 0, 1) := by decide +kernel
theorem dX5_fill_19 : decode cX5_fill 19 = .ok (.invokevirtual 98, 3) := by decide +kernel
theorem dX5_fill_22 : decode cX5_fill 22 = .ok (.aload_n 0, 1) := by decide +kernel
theorem dX5_fill_23 : decode cX5_fill 23 = .ok (.getfield 7, 3) := by decide +kernel
theorem dX5_fill_26 : decode cX5_fill 26 = .ok (.iload_n 1, 1) := by decide +kernel
theorem dX5_fill_27 : decode cX5_fill 27 = .ok (.invokestatic 87, 3) := by decide +kernel
theorem dX5_fill_30 : decode cX5_fill 30 = .ok (.ireturn, 1) := by decide +kernel
set_option maxRecDepth 20000 in
theorem ggX5_fillAll_X5_saves : GoodIn wsX5_fillAll wsX5_saves := goodIn_r _ [7, 8, 9, 2, 58, 59, 60, 61, 62, 63, 64, 65, 66, 67, 68, 69] (by decide +kernel) (by decide +kernel)
set_option maxRecDepth 20000 in
theorem gX5_fillAll_X5_saves : GoodIn wsX5_fillAll (wsV RX5 98 RX5 yX5_saves wsX5_saves) := goodIn_app (goodIn_of _ (by decide +kernel)) ggX5_fillAll_X5_saves
set_option maxRecDepth 20000 in
theorem ggX5_fillAll_X5_fillsAll : GoodIn wsX5_fillAll wsX5_fillsAll := goodIn_r _ [12, 13, 14, 6, 15, 16, 17, 18, 19, 20, 21, 22, 23, 24, 25, 26, 27, 28, 29, 30, 31, 32, 33, 34, 35, 36, 37, 38, 39, 40, 41, 42, 43, 44, 45, 46, 47, 48, 49, 50, 51, 52, 53, 54, 55, 56, 57] (by decide +kernel) (by decide +kernel)
set_option maxRecDepth 20000 in
theorem gX5_fillAll_X5_fillsAll : GoodIn wsX5_fillAll (va_wsS RX5 108 yX5_fillsAll wsX5_fillsAll) := goodIn_app (goodIn_of _ (by decide +kernel)) ggX5_fillAll_X5_fillsAll
theorem dX5_fillAll_0 : decode cX5_fillAll 0 = .ok (.aload_n 0, 1) := by decide +kernel
theorem dX5_fillAll_1 : decode cX5_fillAll 1 = .ok (.iconst 0, 1) := by decide +kernel
theorem dX5_fillAll_2 : decode cX5_fillAll 2 = .ok (.putfield 28, 3) := by decide +kernel
theorem dX5_fillAll_5 : decode cX5_fillAll 5 = .ok (.aload_n 0, 1) := by decide +kernel
theorem dX5_fillAll_6 : decode cX5_fillAll 6 = .ok (.invokevirtual 98, 3) := by decide +kernel
theorem dX5_fillAll_9 : decode cX5_fillAll 9 = .ok (.aload_n 0, 1) := by decide +kernel
theorem dX5_fillAll_10 : decode cX5_fillAll 10 = .ok (.getfield 7, 3) := by decide +kernel
theorem dX5_fillAll_13 : decode cX5_fillAll 13 = .ok (.invokestatic 108, 3) := by decide +kernel
theorem dX5_fillAll_16 : decode cX5_fillAll 16 = .ok (.ireturn, 1) := by decide +kernel
set_option maxRecDepth 20000 in
theorem ggX5_set_X5_in : GoodIn wsX5_set wsX5_in := goodIn_r _ [6] (by decide +kernel) (by decide +kernel)
set_option maxRecDepth 20000 in
theorem gX5_set_X5_in : GoodIn wsX5_set (va_wsS RX5 32 yX5_in wsX5_in) := goodIn_app (goodIn_of _ (by decide +kernel)) ggX5_set_X5_in
set_option maxRecDepth 20000 in
theorem ggX5_set_X5_fails : GoodIn wsX5_set wsX5_fails := goodIn_r _ [10, 1, 23, 24, 25, 26, 27, 28, 29, 30, 31, 32, 33, 34] (by decide +kernel) (by decide +kernel)
set_option maxRecDepth 20000 in
theorem gX5_set_X5_fails : GoodIn wsX5_set (wsV RX5 39 RX5 yX5_fails wsX5_fails) := goodIn_app (goodIn_of _ (by decide +kernel)) ggX5_set_X5_fails
set_option maxRecDepth 20000 in
theorem ggX5_set_X5_all : GoodIn wsX5_set wsX5_all := goodIn_r _ [13, 14, 15, 5, 16] (by decide +kernel) (by decide +kernel)
set_option maxRecDepth 20000 in
theorem gX5_set_X5_all : GoodIn wsX5_set (va_wsS RX5 111 yX5_all wsX5_all) := goodIn_app (goodIn_of _ (by decide +kernel)) ggX5_set_X5_all
set_option maxRecDepth 20000 in
theorem ggX5_set_X5_saves : GoodIn wsX5_set wsX5_saves := goodIn_r _ [20, 21, 22, 2, 23, 24, 25, 26, 27, 28, 29, 30, 31, 32, 33, 34] (by decide +kernel) (by decide +kernel)
set_option maxRecDepth 20000 in
theorem gX5_set_X5_saves : GoodIn wsX5_set (wsV RX5 98 RX5 yX5_saves wsX5_saves) := goodIn_app (goodIn_of _ (by decide +kernel)) ggX5_set_X5_saves
theorem dX5_set_0 : decode cX5_set 0 = .ok (.aload_n 0, 1) := by decide +kernel
theorem dX5_set_1 : decode cX5_set 1 = .ok (.iconst 0, 1) := by decide +kernel
theorem dX5_set_2 : decode cX5_set 2 = .ok (.putfield 28, 3) := by decide +kernel
theorem dX5_set_5 : decode cX5_set 5 = .ok (.iload_n 1, 1) := by decide +kernel
theorem dX5_set_6 : decode cX5_set 6 = .ok (.iconst 0, 1) := by decide +kernel
theorem dX5_set_7 : decode cX5_set 7 = .ok (.iconst 2, 1) := by decide +kernel
theorem dX5_set_8 : decode cX5_set 8 = .ok (.invokestatic 32, 3) := by decide +kernel
theorem dX5_set_11 : decode cX5_set 11 = .ok (.ifCond .ne 9, 3) := by decide +kernel
theorem dX5_set_14 : decode cX5_set 14 = .ok (.aload_n 0, 1) := by decide +kernel
theorem dX5_set_15 : decode cX5_set 15 = .ok (.iconst 1, 1) := by decide +kernel
theorem dX5_set_16 : decode cX5_set 16 = .ok (.invokevirtual 39, 3) := by decide +kernel
theorem dX5_set_19 : decode cX5_set 19 = .ok (.ireturn, 1) := by decide +kernel
theorem dX5_set_20 : decode cX5_set 20 = .ok (.iload_n 1, 1) := by decide +kernel
theorem dX5_set_21 : decode cX5_set 21 = .ok (.ifCond .ne 17, 3) := by decide +kernel
theorem dX5_set_24 : decode cX5_set 24 = .ok (.iload_n 2, 1) := by decide +kernel
theorem dX5_set_25 : decode cX5_set 25 = .ok (.bipush 24, 2) := by decide +kernel
theorem dX5_set_27 : decode cX5_set 27 = .ok (.bipush 60, 2) := by decide +kernel
theorem dX5_set_29 : decode cX5_set 29 = .ok (.invokestatic 32, 3) := by decide +kernel
theorem dX5_set_32 : decode cX5_set 32 = .ok (.ifCond .eq 24, 3) := by decide +kernel
theorem dX5_set_35 : decode cX5_set 35 = .ok (.goto 27, 3) := by decide +kernel
theorem dX5_set_38 : decode cX5_set 38 = .ok (.iload_n 2, 1) := by decide +kernel
theorem dX5_set_39 : decode cX5_set 39 = .ok (.iconst 0, 1) := by decide +kernel
theorem dX5_set_40 : decode cX5_set 40 = .ok (.iload_n 1, 1) := by decide +kernel
theorem dX5_set_41 : decode cX5_set 41 = .ok (.iconst 1, 1) := by decide +kernel
theorem dX5_set_42 : decode cX5_set 42 = .ok (.if_icmp .ne 7, 3) := by decide +kernel
theorem dX5_set_45 : decode cX5_set 45 = .ok (.iconst 2, 1) := by decide +kernel
theorem dX5_set_46 : decode cX5_set 46 = .ok (.goto 4, 3) := by decide +kernel
theorem dX5_set_49 : decode cX5_set 49 = .ok (.iconst 1, 1) := by decide +kernel
theorem dX5_set_50 : decode cX5_set 50 = .ok (.invokestatic 32, 3) := by decide +kernel
theorem dX5_set_53 : decode cX5_set 53 = .ok (.ifCond .ne 9, 3) := by decide +kernel
theorem dX5_set_56 : decode cX5_set 56 = .ok (.aload_n 0, 1) := by decide +kernel
theorem dX5_set_57 : decode cX5_set 57 = .ok (.iconst 2, 1) := by decide +kernel
theorem dX5_set_58 : decode cX5_set 58 = .ok (.invokevirtual 39, 3) := by decide +kernel
theorem dX5_set_61 : decode cX5_set 61 = .ok (.ireturn, 1) := by decide +kernel
theorem dX5_set_62 : decode cX5_set 62 = .ok (.iload_n 1, 1) := by decide +kernel
theorem dX5_set_63 : decode cX5_set 63 = .ok (.ifCond .ne 19, 3) := by decide +kernel
theorem dX5_set_66 : decode cX5_set 66 = .ok (.aload_n 0, 1) := by decide +kernel
theorem dX5_set_67 : decode cX5_set 67 = .ok (.getfield 7, 3) := by decide +kernel
theorem dX5_set_70 : decode cX5_set 70 = .ok (.invokestatic 111, 3) := by decide +kernel
theorem dX5_set_73 : decode cX5_set 73 = .ok (.ifCond .le 9, 3) := by decide +kernel
theorem dX5_set_76 : decode cX5_set 76 = .ok (.aload_n 0, 1) := by decide +kernel
theorem dX5_set_77 : decode cX5_set 77 = .ok (.iconst 3, 1) := by decide +kernel
theorem dX5_set_78 : decode cX5_set 78 = .ok (.invokevirtual 39, 3) := by decide +kernel
theorem dX5_set_81 : decode cX5_set 81 = .ok (.ireturn, 1) := by decide +kernel
theorem dX5_set_82 : decode cX5_set 82 = .ok (.aload_n 0, 1) := by decide +kernel
theorem dX5_set_83 : decode cX5_set 83 = .ok (.invokevirtual 98, 3) := by decide +kernel
theorem dX5_set_86 : decode cX5_set 86 = .ok (.aload_n 0, 1) := by decide +kernel
theorem dX5_set_87 : decode cX5_set 87 = .ok (.getfield 7, 3) := by decide +kernel
theorem dX5_set_90 : decode cX5_set 90 = .ok (.iload_n 1, 1) := by decide +kernel
theorem dX5_set_91 : decode cX5_set 91 = .ok (.iaload, 1) := by decide +kernel
theorem dX5_set_92 : decode cX5_set 92 = .ok (.istore_n 3, 1) := by decide +kernel
theorem dX5_set_93 : decode cX5_set 93 = .ok (.aload_n 0, 1) := by decide +kernel
theorem dX5_set_94 : decode cX5_set 94 = .ok (.getfield 7, 3) := by decide +kernel
theorem dX5_set_97 : decode cX5_set 97 = .ok (.iload_n 1, 1) := by decide +kernel
theorem dX5_set_98 : decode cX5_set 98 = .ok (.iload_n 2, 1) := by decide +kernel
theorem dX5_set_99 : decode cX5_set 99 = .ok (.iastore, 1) := by decide +kernel
theorem dX5_set_100 : decode cX5_set 100 = .ok (.iload_n 3, 1) := by decide +kernel
theorem dX5_set_101 : decode cX5_set 101 = .ok (.ireturn, 1) := by decide +kernel
set_option maxRecDepth 20000 in
theorem ggX5_append_X5_in : GoodIn wsX5_append wsX5_in := goodIn_r _ [7] (by decide +kernel) (by decide +kernel)
set_option maxRecDepth 20000 in
theorem gX5_append_X5_in : GoodIn wsX5_append (va_wsS RX5 32 yX5_in wsX5_in) := goodIn_app (goodIn_of _ (by decide +kernel)) ggX5_append_X5_in
set_option maxRecDepth 20000 in
theorem ggX5_append_X5_fails : GoodIn wsX5_append wsX5_fails := goodIn_r _ [11, 1, 12, 13, 14, 15, 16, 17, 18, 19, 20, 21, 22, 23] (by decide +kernel) (by decide +kernel)
set_option maxRecDepth 20000 in
theorem gX5_append_X5_fails : GoodIn wsX5_append (wsV RX5 39 RX5 yX5_fails wsX5_fails) := goodIn_app (goodIn_of _ (by decide +kernel)) ggX5_append_X5_fails
theorem dX5_append_0 : decode cX5_append 0 = .ok (.aload_n 0, 1) := by decide +kernel
theorem dX5_append_1 : decode cX5_append 1 = .ok (.iconst 0, 1) := by decide +kernel
theorem dX5_append_2 : decode cX5_append 2 = .ok (.putfield 28, 3) := by decide +kernel
theorem dX5_append_5 : decode cX5_append 5 = .ok (.iload_n 1, 1) := by decide +kernel
theorem dX5_append_6 : decode cX5_append 6 = .ok (.bipush 33, 2) := by decide +kernel
theorem dX5_append_8 : decode cX5_append 8 = .ok (.bipush 126, 2) := by decide +kernel
theorem dX5_append_10 : decode cX5_append 10 = .ok (.invokestatic 32, 3) := by decide +kernel
theorem dX5_append_13 : decode cX5_append 13 = .ok (.ifCond .ne 9, 3) := by decide +kernel
theorem dX5_append_16 : decode cX5_append 16 = .ok (.aload_n 0, 1) := by decide +kernel
theorem dX5_append_17 : decode cX5_append 17 = .ok (.iconst 1, 1) := by decide +kernel
theorem dX5_append_18 : decode cX5_append 18 = .ok (.invokevirtual 39, 3) := by decide +kernel
theorem dX5_append_21 : decode cX5_append 21 = .ok (.ireturn, 1) := by decide +kernel
theorem dX5_append_22 : decode cX5_append 22 = .ok (.aload_n 0, 1) := by decide +kernel
theorem dX5_append_23 : decode cX5_append 23 = .ok (.getfield 114, 3) := by decide +kernel
theorem dX5_append_26 : decode cX5_append 26 = .ok (.bipush 60, 2) := by decide +kernel
theorem dX5_append_28 : decode cX5_append 28 = .ok (.if_icmp .ne 9, 3) := by decide +kernel
theorem dX5_append_31 : decode cX5_append 31 = .ok (.aload_n 0, 1) := by decide +kernel
theorem dX5_append_32 : decode cX5_append 32 = .ok (.iconst 2, 1) := by decide +kernel
theorem dX5_append_33 : decode cX5_append 33 = .ok (.invokevirtual 39, 3) := by decide +kernel
theorem dX5_append_36 : decode cX5_append 36 = .ok (.ireturn, 1) := by decide +kernel
theorem dX5_append_37 : decode cX5_append 37 = .ok (.aload_n 0, 1) := by decide +kernel
theorem dX5_append_38 : decode cX5_append 38 = .ok (.getfield 19, 3) := by decide +kernel
theorem dX5_append_41 : decode cX5_append 41 = .ok (.aload_n 0, 1) := by decide +kernel
theorem dX5_append_42 : decode cX5_append 42 = .ok (.getfield 114, 3) := by decide +kernel
theorem dX5_append_45 : decode cX5_append 45 = .ok (.iload_n 1, 1) := by decide +kernel
theorem dX5_append_46 : decode cX5_append 46 = .ok (.iastore, 1) := by decide +kernel
theorem dX5_append_47 : decode cX5_append 47 = .ok (.aload_n 0, 1) := by decide +kernel
theorem dX5_append_48 : decode cX5_append 48 = .ok (.dup, 1) := by decide +kernel
theorem dX5_append_49 : decode cX5_append 49 = .ok (.getfield 114, 3) := by decide +kernel
theorem dX5_append_52 : decode cX5_append 52 = .ok (.iconst 1, 1) := by decide +kernel
theorem dX5_append_53 : decode cX5_append 53 = .ok (.iadd, 1) := by decide +kernel
theorem dX5_append_54 : decode cX5_append 54 = .ok (.putfield 114, 3) := by decide +kernel
theorem dX5_append_57 : decode cX5_append 57 = .ok (.aload_n 0, 1) := by decide +kernel
theorem dX5_append_58 : decode cX5_append 58 = .ok (.getfield 114, 3) := by decide +kernel
theorem dX5_append_61 : decode cX5_append 61 = .ok (.ireturn, 1) := by decide +kernel
theorem dX5_clearBuffer_0 : decode cX5_clearBuffer 0 = .ok (.aload_n 0, 1) := by decide +kernel
theorem dX5_clearBuffer_1 : decode cX5_clearBuffer 1 = .ok (.iconst 0, 1) := by decide +kernel
theorem dX5_clearBuffer_2 : decode cX5_clearBuffer 2 = .ok (.putfield 28, 3) := by decide +kernel
theorem dX5_clearBuffer_5 : decode cX5_clearBuffer 5 = .ok (.aload_n 0, 1) := by decide +kernel
theorem dX5_clearBuffer_6 : decode cX5_clearBuffer 6 = .ok (.getfield 114, 3) := by decide +kernel
theorem dX5_clearBuffer_9 : decode cX5_clearBuffer 9 = .ok (.istore_n 1, 1) := by decide +kernel
theorem dX5_clearBuffer_10 : decode cX5_clearBuffer 10 = .ok (.aload_n 0, 1) := by decide +kernel
theorem dX5_clearBuffer_11 : decode cX5_clearBuffer 11 = .ok (.iconst 0, 1) := by decide +kernel
theorem dX5_clearBuffer_12 : decode cX5_clearBuffer 12 = .ok (.putfield 114, 3) := by decide +kernel
theorem dX5_clearBuffer_15 : decode cX5_clearBuffer 15 = .ok (.iload_n 1, 1) := by decide +kernel
theorem dX5_clearBuffer_16 : decode cX5_clearBuffer 16 = .ok (.ireturn, 1) := by decide +kernel
set_option maxRecDepth 20000 in
theorem ggX5_isAt_X5_in : GoodIn wsX5_isAt wsX5_in := goodIn_r _ [7] (by decide +kernel) (by decide +kernel)
set_option maxRecDepth 20000 in
theorem gX5_isAt_X5_in : GoodIn wsX5_isAt (va_wsS RX5 32 yX5_in wsX5_in) := goodIn_app (goodIn_of _ (by decide +kernel)) ggX5_isAt_X5_in
theorem dX5_isAt_0 : decode cX5_isAt 0 = .ok (.aload_n 0, 1) := by decide +kernel
theorem dX5_isAt_1 : decode cX5_isAt 1 = .ok (.getfield 117, 3) := by decide +kernel
theorem dX5_isAt_4 : decode cX5_isAt 4 = .ok (.aload_n 0, 1) := by decide +kernel
theorem dX5_isAt_5 : decode cX5_isAt 5 = .ok (.getfield 114, 3) := by decide +kernel
theorem dX5_isAt_8 : decode cX5_isAt 8 = .ok (.if_icmp .ge 24, 3) := by decide +kernel
theorem dX5_isAt_11 : decode cX5_isAt 11 = .ok (.aload_n 0, 1) := by decide +kernel
theorem dX5_isAt_12 : decode cX5_isAt 12 = .ok (.getfield 19, 3) := by decide +kernel
theorem dX5_isAt_15 : decode cX5_isAt 15 = .ok (.aload_n 0, 1) := by decide +kernel
theorem dX5_isAt_16 : decode cX5_isAt 16 = .ok (.getfield 117, 3) := by decide +kernel
theorem dX5_isAt_19 : decode cX5_isAt 19 = .ok (.iaload, 1) := by decide +kernel
theorem dX5_isAt_20 : decode cX5_isAt 20 = .ok (.iload_n 1, 1) := by decide +kernel
theorem dX5_isAt_21 : decode cX5_isAt 21 = .ok (.iload_n 2, 1) := by decide +kernel
theorem dX5_isAt_22 : decode cX5_isAt 22 = .ok (.invokestatic 32, 3) := by decide +kernel
theorem dX5_isAt_25 : decode cX5_isAt 25 = .ok (.ifCond .eq 7, 3) := by decide +kernel
theorem dX5_isAt_28 : decode cX5_isAt 28 = .ok (.iconst 1, 1) := by decide +kernel
theorem dX5_isAt_29 : decode cX5_isAt 29 = .ok (.goto 4, 3) := by decide +kernel
theorem dX5_isAt_32 : decode cX5_isAt 32 = .ok (.iconst 0, 1) := by decide +kernel
theorem dX5_isAt_33 : decode cX5_isAt 33 = .ok (.ireturn, 1) := by decide +kernel
theorem dX5_stops_0 : decode cX5_stops 0 = .ok (.aload_n 0, 1) := by decide +kernel
theorem dX5_stops_1 : decode cX5_stops 1 = .ok (.aload_n 0, 1) := by decide +kernel
theorem dX5_stops_2 : decode cX5_stops 2 = .ok (.getfield 117, 3) := by decide +kernel
theorem dX5_stops_5 : decode cX5_stops 5 = .ok (.aload_n 0, 1) := by decide +kernel
theorem dX5_stops_6 : decode cX5_stops 6 = .ok (.getfield 114, 3) := by decide +kernel
theorem dX5_stops_9 : decode cX5_stops 9 = .ok (.if_icmp .ge 7, 3) := by decide +kernel
theorem dX5_stops_12 : decode cX5_stops 12 = .ok (.iconst 1, 1) := by decide +kernel
theorem dX5_stops_13 : decode cX5_stops 13 = .ok (.goto 4, 3) := by decide +kernel
theorem dX5_stops_16 : decode cX5_stops 16 = .ok (.iconst 0, 1) := by decide +kernel
theorem dX5_stops_17 : decode cX5_stops 17 = .ok (.putfield 120, 3) := by decide +kernel
theorem dX5_stops_20 : decode cX5_stops 20 = .ok (.iconst 0, 1) := by decide +kernel
theorem dX5_stops_21 : decode cX5_stops 21 = .ok (.ireturn, 1) := by decide +kernel
set_option maxRecDepth 20000 in
theorem ggX5_isPart_X5_isAt : GoodIn wsX5_isPart wsX5_isAt := goodIn_r _ [9, 2, 10, 1, 11, 12, 8, 13, 19, 20, 21, 22, 23, 24, 25, 26, 27, 28, 29, 30] (by decide +kernel) (by decide +kernel)
set_option maxRecDepth 20000 in
theorem gX5_isPart_X5_isAt : GoodIn wsX5_isPart (wsV RX5 124 RX5 yX5_isAt wsX5_isAt) := goodIn_app (goodIn_of _ (by decide +kernel)) ggX5_isPart_X5_isAt
set_option maxRecDepth 20000 in
theorem ggX5_isPart_X5_stops : GoodIn wsX5_isPart wsX5_stops := goodIn_r _ [17, 2, 10, 18, 19, 20, 21, 22, 23, 24, 25, 26, 27, 28, 29, 30] (by decide +kernel) (by decide +kernel)
set_option maxRecDepth 20000 in
theorem gX5_isPart_X5_stops : GoodIn wsX5_isPart (wsV RX5 128 RX5 yX5_stops wsX5_stops) := goodIn_app (goodIn_of _ (by decide +kernel)) ggX5_isPart_X5_stops
theorem dX5_isPart_0 : decode cX5_isPart 0 = .ok (.aload_n 0, 1) := by decide +kernel
theorem dX5_isPart_1 : decode cX5_isPart 1 = .ok (.bipush 97, 2) := by decide +kernel
theorem dX5_isPart_3 : decode cX5_isPart 3 = .ok (.bipush 102, 2) := by decide +kernel
theorem dX5_isPart_5 : decode cX5_isPart 5 = .ok (.invokevirtual 124, 3) := by decide +kernel
theorem dX5_isPart_8 : decode cX5_isPart 8 = .ok (.ifCond .ne 8, 3) := by decide +kernel
theorem dX5_isPart_11 : decode cX5_isPart 11 = .ok (.aload_n 0, 1) := by decide +kernel
theorem dX5_isPart_12 : decode cX5_isPart 12 = .ok (.invokevirtual 128, 3) := by decide +kernel
theorem dX5_isPart_15 : decode cX5_isPart 15 = .ok (.ireturn, 1) := by decide +kernel
theorem dX5_isPart_16 : decode cX5_isPart 16 = .ok (.aload_n 0, 1) := by decide +kernel
theorem dX5_isPart_17 : decode cX5_isPart 17 = .ok (.getfield 19, 3) := by decide +kernel
theorem dX5_isPart_20 : decode cX5_isPart 20 = .ok (.aload_n 0, 1) := by decide +kernel
theorem dX5_isPart_21 : decode cX5_isPart 21 = .ok (.getfield 117, 3) := by decide +kernel
theorem dX5_isPart_24 : decode cX5_isPart 24 = .ok (.iaload, 1) := by decide +kernel
theorem dX5_isPart_25 : decode cX5_isPart 25 = .ok (.bipush 97, 2) := by decide +kernel
theorem dX5_isPart_27 : decode cX5_isPart 27 = .ok (.isub, 1) := by decide +kernel
theorem dX5_isPart_28 : decode cX5_isPart 28 = .ok (.istore_n 1, 1) := by decide +kernel
theorem dX5_isPart_29 : decode cX5_isPart 29 = .ok (.aload_n 0, 1) := by decide +kernel
theorem dX5_isPart_30 : decode cX5_isPart 30 = .ok (.dup, 1) := by decide +kernel
theorem dX5_isPart_31 : decode cX5_isPart 31 = .ok (.getfield 117, 3) := by decide +kernel
theorem dX5_isPart_34 : decode cX5_isPart 34 = .ok (.iconst 1, 1) := by decide +kernel
theorem dX5_isPart_35 : decode cX5_isPart 35 = .ok (.iadd, 1) := by decide +kernel
theorem dX5_isPart_36 : decode cX5_isPart 36 = .ok (.putfield 117, 3) := by decide +kernel
theorem dX5_isPart_39 : decode cX5_isPart 39 = .ok (.aload_n 0, 1) := by decide +kernel
theorem dX5_isPart_40 : decode cX5_isPart 40 = .ok (.bipush 49, 2) := by decide +kernel
theorem dX5_isPart_42 : decode cX5_isPart 42 = .ok (.bipush 54, 2) := by decide +kernel
theorem dX5_isPart_44 : decode cX5_isPart 44 = .ok (.invokevirtual 124, 3) := by decide +kernel
theorem dX5_isPart_47 : decode cX5_isPart 47 = .ok (.ifCond .ne 8, 3) := by decide +kernel
theorem dX5_isPart_50 : decode cX5_isPart 50 = .ok (.aload_n 0, 1) := by decide +kernel
theorem dX5_isPart_51 : decode cX5_isPart 51 = .ok (.invokevirtual 128, 3) := by decide +kernel
theorem dX5_isPart_54 : decode cX5_isPart 54 = .ok (.ireturn, 1) := by decide +kernel
theorem dX5_isPart_55 : decode cX5_isPart 55 = .ok (.aload_n 0, 1) := by decide +kernel
theorem dX5_isPart_56 : decode cX5_isPart 56 = .ok (.bipush 49, 2) := by decide +kernel
theorem dX5_isPart_58 : decode cX5_isPart 58 = .ok (.bipush 54, 2) := by decide +kernel
theorem dX5_isPart_60 : decode cX5_isPart 60 = .ok (.invokevirtual 124, 3) := by decide +kernel
theorem dX5_isPart_63 : decode cX5_isPart 63 = .ok (.ifCond .eq 114, 3) := by decide +kernel
theorem dX5_isPart_66 : decode cX5_isPart 66 = .ok (.aload_n 0, 1) := by decide +kernel
theorem dX5_isPart_67 : decode cX5_isPart 67 = .ok (.getfield 22, 3) := by decide +kernel
theorem dX5_isPart_70 : decode cX5_isPart 70 = .ok (.iconst 3, 1) := by decide +kernel
theorem dX5_isPart_71 : decode cX5_isPart 71 = .ok (.aload_n 0, 1) := by decide +kernel
theorem dX5_isPart_72 : decode cX5_isPart 72 = .ok (.getfield 132, 3) := by decide +kernel
theorem dX5_isPart_75 : decode cX5_isPart 75 = .ok (.imul, 1) := by decide +kernel
theorem dX5_isPart_76 : decode cX5_isPart 76 = .ok (.iload_n 1, 1) := by decide +kernel
theorem dX5_isPart_77 : decode cX5_isPart 77 = .ok (.iastore, 1) := by decide +kernel
theorem dX5_isPart_78 : decode cX5_isPart 78 = .ok (.aload_n 0, 1) := by decide +kernel
theorem dX5_isPart_79 : decode cX5_isPart 79 = .ok (.getfield 22, 3) := by decide +kernel
theorem dX5_isPart_82 : decode cX5_isPart 82 = .ok (.iconst 3, 1) := by decide +kernel
theorem dX5_isPart_83 : decode cX5_isPart 83 = .ok (.aload_n 0, 1) := by decide +kernel
theorem dX5_isPart_84 : decode cX5_isPart 84 = .ok (.getfield 132, 3) := by decide +kernel
theorem dX5_isPart_87 : decode cX5_isPart 87 = .ok (.imul, 1) := by decide +kernel
theorem dX5_isPart_88 : decode cX5_isPart 88 = .ok (.iconst 1, 1) := by decide +kernel
theorem dX5_isPart_89 : decode cX5_isPart 89 = .ok (.iadd, 1) := by decide +kernel
theorem dX5_isPart_90 : decode cX5_isPart 90 = .ok (.aload_n 0, 1) := by decide +kernel
theorem dX5_isPart_91 : decode cX5_isPart 91 = .ok (.getfield 19, 3) := by decide +kernel
theorem dX5_isPart_94 : decode cX5_isPart 94 = .ok (.aload_n 0, 1) := by decide +kernel
theorem dX5_isPart_95 : decode cX5_isPart 95 = .ok (.getfield 117, 3) := by decide +kernel
theorem dX5_isPart_98 : decode cX5_isPart 98 = .ok (.iaload, 1) := by decide +kernel
theorem dX5_isPart_99 : decode cX5_isPart 99 = .ok (.bipush 48, 2) := by decide +kernel
theorem dX5_isPart_101 : decode cX5_isPart 101 = .ok (.isub, 1) := by decide +kernel
theorem dX5_isPart_102 : decode cX5_isPart 102 = .ok (.iastore, 1) := by decide +kernel
theorem dX5_isPart_103 : decode cX5_isPart 103 = .ok (.aload_n 0, 1) := by decide +kernel
theorem dX5_isPart_104 : decode cX5_isPart 104 = .ok (.dup, 1) := by decide +kernel
theorem dX5_isPart_105 : decode cX5_isPart 105 = .ok (.getfield 117, 3) := by decide +kernel
theorem dX5_isPart_108 : decode cX5_isPart 108 = .ok (.iconst 1, 1) := by decide +kernel
theorem dX5_isPart_109 : decode cX5_isPart 109 = .ok (.iadd, 1) := by decide +kernel
theorem dX5_isPart_110 : decode cX5_isPart 110 = .ok (.putfield 117, 3) := by decide +kernel
theorem dX5_isPart_113 : decode cX5_isPart 113 = .ok (.aload_n 0, 1) := by decide +kernel
theorem dX5_isPart_114 : decode cX5_isPart 114 = .ok (.getfield 22, 3) := by decide +kernel
theorem dX5_isPart_117 : decode cX5_isPart 117 = .ok (.iconst 3, 1) := by decide +kernel
theorem dX5_isPart_118 : decode cX5_isPart 118 = .ok (.aload_n 0, 1) := by decide +kernel
theorem dX5_isPart_119 : decode cX5_isPart 119 = .ok (.getfield 132, 3) := by decide +kernel
theorem dX5_isPart_122 : decode cX5_isPart 122 = .ok (.imul, 1) := by decide +kernel
theorem dX5_isPart_123 : decode cX5_isPart 123 = .ok (.iconst 2, 1) := by decide +kernel
theorem dX5_isPart_124 : decode cX5_isPart 124 = .ok (.iadd, 1) := by decide +kernel
theorem dX5_isPart_125 : decode cX5_isPart 125 = .ok (.aload_n 0, 1) := by decide +kernel
theorem dX5_isPart_126 : decode cX5_isPart 126 = .ok (.bipush 33, 2) := by decide +kernel
theorem dX5_isPart_128 : decode cX5_isPart 128 = .ok (.bipush 33, 2) := by decide +kernel
theorem dX5_isPart_130 : decode cX5_isPart 130 = .ok (.invokevirtual 124, 3) := by decide +kernel
theorem dX5_isPart_133 : decode cX5_isPart 133 = .ok (.ifCond .eq 7, 3) := by decide +kernel
theorem dX5_isPart_136 : decode cX5_isPart 136 = .ok (.iconst 1, 1) := by decide +kernel
theorem dX5_isPart_137 : decode cX5_isPart 137 = .ok (.goto 4, 3) := by decide +kernel
theorem dX5_isPart_140 : decode cX5_isPart 140 = .ok (.iconst 0, 1) := by decide +kernel
theorem dX5_isPart_141 : decode cX5_isPart 141 = .ok (.iastore, 1) := by decide +kernel
theorem dX5_isPart_142 : decode cX5_isPart 142 = .ok (.aload_n 0, 1) := by decide +kernel
theorem dX5_isPart_143 : decode cX5_isPart 143 = .ok (.dup, 1) := by decide +kernel
theorem dX5_isPart_144 : decode cX5_isPart 144 = .ok (.getfield 117, 3) := by decide +kernel
theorem dX5_isPart_147 : decode cX5_isPart 147 = .ok (.aload_n 0, 1) := by decide +kernel
theorem dX5_isPart_148 : decode cX5_isPart 148 = .ok (.getfield 22, 3) := by decide +kernel
theorem dX5_isPart_151 : decode cX5_isPart 151 = .ok (.iconst 3, 1) := by decide +kernel
theorem dX5_isPart_152 : decode cX5_isPart 152 = .ok (.aload_n 0, 1) := by decide +kernel
theorem dX5_isPart_153 : decode cX5_isPart 153 = .ok (.getfield 132, 3) := by decide +kernel
theorem dX5_isPart_156 : decode cX5_isPart 156 = .ok (.imul, 1) := by decide +kernel
theorem dX5_isPart_157 : decode cX5_isPart 157 = .ok (.iconst 2, 1) := by decide +kernel
theorem dX5_isPart_158 : decode cX5_isPart 158 = .ok (.iadd, 1) := by decide +kernel
theorem dX5_isPart_159 : decode cX5_isPart 159 = .ok (.iaload, 1) := by decide +kernel
theorem dX5_isPart_160 : decode cX5_isPart 160 = .ok (.iadd, 1) := by decide +kernel
theorem dX5_isPart_161 : decode cX5_isPart 161 = .ok (.putfield 117, 3) := by decide +kernel
theorem dX5_isPart_164 : decode cX5_isPart 164 = .ok (.aload_n 0, 1) := by decide +kernel
theorem dX5_isPart_165 : decode cX5_isPart 165 = .ok (.dup, 1) := by decide +kernel
theorem dX5_isPart_166 : decode cX5_isPart 166 = .ok (.getfield 132, 3) := by decide +kernel
theorem dX5_isPart_169 : decode cX5_isPart 169 = .ok (.iconst 1, 1) := by decide +kernel
theorem dX5_isPart_170 : decode cX5_isPart 170 = .ok (.iadd, 1) := by decide +kernel
theorem dX5_isPart_171 : decode cX5_isPart 171 = .ok (.putfield 132, 3) := by decide +kernel
theorem dX5_isPart_174 : decode cX5_isPart 174 = .ok (.goto (-119), 3) := by decide +kernel
theorem dX5_isPart_177 : decode cX5_isPart 177 = .ok (.iconst 1, 1) := by decide +kernel
theorem dX5_isPart_178 : decode cX5_isPart 178 = .ok (.ireturn, 1) := by decide +kernel
set_option maxRecDepth 20000 in
theorem ggX5_isText_X5_isPart : GoodIn wsX5_isText wsX5_isPart := goodIn_r _ [9, 10, 1, 11, 2, 12, 13, 14, 8, 15, 4, 16, 17, 18, 19, 20, 21, 22, 3, 23, 24, 25, 26, 27, 28, 29, 30, 31, 32, 33, 34] (by decide +kernel) (by decide +kernel)
set_option maxRecDepth 20000 in
theorem gX5_isText_X5_isPart : GoodIn wsX5_isText (wsV RX5 135 RX5 yX5_isPart wsX5_isPart) := goodIn_app (goodIn_of _ (by decide +kernel)) ggX5_isText_X5_isPart
set_option maxRecDepth 20000 in
theorem ggX5_isText_X5_isAt : GoodIn wsX5_isText wsX5_isAt := goodIn_r _ [15, 1, 4, 10, 16, 17, 8, 18, 23, 24, 25, 26, 27, 28, 29, 30, 31, 32, 33, 34] (by decide +kernel) (by decide +kernel)
set_option maxRecDepth 20000 in
theorem gX5_isText_X5_isAt : GoodIn wsX5_isText (wsV RX5 124 RX5 yX5_isAt wsX5_isAt) := goodIn_app (goodIn_of _ (by decide +kernel)) ggX5_isText_X5_isAt
theorem dX5_isText_0 : decode cX5_isText 0 = .ok (.aload_n 0, 1) := by decide +kernel
theorem dX5_isText_1 : decode cX5_isText 1 = .ok (.iconst 0, 1) := by decide +kernel
theorem dX5_isText_2 : decode cX5_isText 2 = .ok (.putfield 117, 3) := by decide +kernel
theorem dX5_isText_5 : decode cX5_isText 5 = .ok (.aload_n 0, 1) := by decide +kernel
theorem dX5_isText_6 : decode cX5_isText 6 = .ok (.iconst 0, 1) := by decide +kernel
theorem dX5_isText_7 : decode cX5_isText 7 = .ok (.putfield 132, 3) := by decide +kernel
theorem dX5_isText_10 : decode cX5_isText 10 = .ok (.aload_n 0, 1) := by decide +kernel
theorem dX5_isText_11 : decode cX5_isText 11 = .ok (.iconst 0, 1) := by decide +kernel
theorem dX5_isText_12 : decode cX5_isText 12 = .ok (.putfield 120, 3) := by decide +kernel
theorem dX5_isText_15 : decode cX5_isText 15 = .ok (.iconst 1, 1) := by decide +kernel
theorem dX5_isText_16 : decode cX5_isText 16 = .ok (.istore_n 1, 1) := by decide +kernel
theorem dX5_isText_17 : decode cX5_isText 17 = .ok (.iload_n 1, 1) := by decide +kernel
theorem dX5_isText_18 : decode cX5_isText 18 = .ok (.ifCond .eq 42, 3) := by decide +kernel
theorem dX5_isText_21 : decode cX5_isText 21 = .ok (.aload_n 0, 1) := by decide +kernel
theorem dX5_isText_22 : decode cX5_isText 22 = .ok (.invokevirtual 135, 3) := by decide +kernel
theorem dX5_isText_25 : decode cX5_isText 25 = .ok (.ifCond .ne 5, 3) := by decide +kernel
theorem dX5_isText_28 : decode cX5_isText 28 = .ok (.iconst 0, 1) := by decide +kernel
theorem dX5_isText_29 : decode cX5_isText 29 = .ok (.ireturn, 1) := by decide +kernel
theorem dX5_isText_30 : decode cX5_isText 30 = .ok (.aload_n 0, 1) := by decide +kernel
theorem dX5_isText_31 : decode cX5_isText 31 = .ok (.bipush 59, 2) := by decide +kernel
theorem dX5_isText_33 : decode cX5_isText 33 = .ok (.bipush 59, 2) := by decide +kernel
theorem dX5_isText_35 : decode cX5_isText 35 = .ok (.invokevirtual 124, 3) := by decide +kernel
theorem dX5_isText_38 : decode cX5_isText 38 = .ok (.istore_n 1, 1) := by decide +kernel
theorem dX5_isText_39 : decode cX5_isText 39 = .ok (.aload_n 0, 1) := by decide +kernel
theorem dX5_isText_40 : decode cX5_isText 40 = .ok (.dup, 1) := by decide +kernel
theorem dX5_isText_41 : decode cX5_isText 41 = .ok (.getfield 117, 3) := by decide +kernel
theorem dX5_isText_44 : decode cX5_isText 44 = .ok (.iload_n 1, 1) := by decide +kernel
theorem dX5_isText_45 : decode cX5_isText 45 = .ok (.ifCond .eq 7, 3) := by decide +kernel
theorem dX5_isText_48 : decode cX5_isText 48 = .ok (.iconst 1, 1) := by decide +kernel
theorem dX5_isText_49 : decode cX5_isText 49 = .ok (.goto 4, 3) := by decide +kernel
theorem dX5_isText_52 : decode cX5_isText 52 = .ok (.iconst 0, 1) := by decide +kernel
theorem dX5_isText_53 : decode cX5_isText 53 = .ok (.iadd, 1) := by decide +kernel
theorem dX5_isText_54 : decode cX5_isText 54 = .ok (.putfield 117, 3) := by decide +kernel
theorem dX5_isText_57 : decode cX5_isText 57 = .ok (.goto (-40), 3) := by decide +kernel
theorem dX5_isText_60 : decode cX5_isText 60 = .ok (.aload_n 0, 1) := by decide +kernel
theorem dX5_isText_61 : decode cX5_isText 61 = .ok (.aload_n 0, 1) := by decide +kernel
theorem dX5_isText_62 : decode cX5_isText 62 = .ok (.getfield 117, 3) := by decide +kernel
theorem dX5_isText_65 : decode cX5_isText 65 = .ok (.aload_n 0, 1) := by decide +kernel
theorem dX5_isText_66 : decode cX5_isText 66 = .ok (.getfield 114, 3) := by decide +kernel
theorem dX5_isText_69 : decode cX5_isText 69 = .ok (.if_icmp .ge 7, 3) := by decide +kernel
theorem dX5_isText_72 : decode cX5_isText 72 = .ok (.iconst 1, 1) := by decide +kernel
theorem dX5_isText_73 : decode cX5_isText 73 = .ok (.goto 4, 3) := by decide +kernel
theorem dX5_isText_76 : decode cX5_isText 76 = .ok (.iconst 0, 1) := by decide +kernel
theorem dX5_isText_77 : decode cX5_isText 77 = .ok (.putfield 120, 3) := by decide +kernel
theorem dX5_isText_80 : decode cX5_isText 80 = .ok (.aload_n 0, 1) := by decide +kernel
theorem dX5_isText_81 : decode cX5_isText 81 = .ok (.getfield 117, 3) := by decide +kernel
theorem dX5_isText_84 : decode cX5_isText 84 = .ok (.aload_n 0, 1) := by decide +kernel
theorem dX5_isText_85 : decode cX5_isText 85 = .ok (.getfield 114, 3) := by decide +kernel
theorem dX5_isText_88 : decode cX5_isText 88 = .ok (.if_icmp .ne 7, 3) := by decide +kernel
theorem dX5_isText_91 : decode cX5_isText 91 = .ok (.iconst 1, 1) := by decide +kernel
theorem dX5_isText_92 : decode cX5_isText 92 = .ok (.goto 4, 3) := by decide +kernel
theorem dX5_isText_95 : decode cX5_isText 95 = .ok (.iconst 0, 1) := by decide +kernel
theorem dX5_isText_96 : decode cX5_isText 96 = .ok (.ireturn, 1) := by decide +kernel
set_option maxRecDepth 20000 in
theorem ggX5_firstError_X5_isText : GoodIn wsX5_firstError wsX5_isText := goodIn_r _ [9, 3, 10, 2, 4, 11, 12, 13, 8, 14, 15, 16, 17, 18, 19, 20, 21, 22, 23, 24, 25, 26, 27, 28, 29, 30, 31, 32, 33, 34, 35, 36, 37, 38, 39] (by decide +kernel) (by decide +kernel)
set_option maxRecDepth 20000 in
theorem gX5_firstError_X5_isText : GoodIn wsX5_firstError (wsV RX5 138 RX5 yX5_isText wsX5_isText) := goodIn_app (goodIn_of _ (by decide +kernel)) ggX5_firstError_X5_isText
theorem dX5_firstError_0 : decode cX5_firstError 0 = .ok (.aload_n 0, 1) := by decide +kernel
theorem dX5_firstError_1 : decode cX5_firstError 1 = .ok (.iconst 0, 1) := by decide +kernel
theorem dX5_firstError_2 : decode cX5_firstError 2 = .ok (.putfield 28, 3) := by decide +kernel
theorem dX5_firstError_5 : decode cX5_firstError 5 = .ok (.aload_n 0, 1) := by decide +kernel
theorem dX5_firstError_6 : decode cX5_firstError 6 = .ok (.invokevirtual 138, 3) := by decide +kernel
theorem dX5_firstError_9 : decode cX5_firstError 9 = .ok (.istore_n 1, 1) := by decide +kernel
theorem dX5_firstError_10 : decode cX5_firstError 10 = .ok (.iload_n 1, 1) := by decide +kernel
theorem dX5_firstError_11 : decode cX5_firstError 11 = .ok (.ifCond .ne 17, 3) := by decide +kernel
theorem dX5_firstError_14 : decode cX5_firstError 14 = .ok (.aload_n 0, 1) := by decide +kernel
theorem dX5_firstError_15 : decode cX5_firstError 15 = .ok (.getfield 120, 3) := by decide +kernel
theorem dX5_firstError_18 : decode cX5_firstError 18 = .ok (.ifCond .eq 10, 3) := by decide +kernel
theorem dX5_firstError_21 : decode cX5_firstError 21 = .ok (.aload_n 0, 1) := by decide +kernel
theorem dX5_firstError_22 : decode cX5_firstError 22 = .ok (.getfield 117, 3) := by decide +kernel
theorem dX5_firstError_25 : decode cX5_firstError 25 = .ok (.goto 7, 3) := by decide +kernel
theorem dX5_firstError_28 : decode cX5_firstError 28 = .ok (.aload_n 0, 1) := by decide +kernel
theorem dX5_firstError_29 : decode cX5_firstError 29 = .ok (.getfield 114, 3) := by decide +kernel
theorem dX5_firstError_32 : decode cX5_firstError 32 = .ok (.ireturn, 1) := by decide +kernel
set_option maxRecDepth 20000 in
theorem ggX5_layAll_X5_isText : GoodIn wsX5_layAll wsX5_isText := goodIn_r _ [10, 11, 3, 12, 2, 13, 14, 15, 9, 16, 17, 5, 18, 19, 20, 21, 22, 23, 24, 25, 26, 27, 28, 72, 73, 74, 75, 76, 77, 78, 79, 80, 81, 82, 83] (by decide +kernel) (by decide +kernel)
set_option maxRecDepth 20000 in
theorem gX5_layAll_X5_isText : GoodIn wsX5_layAll (wsV RX5 138 RX5 yX5_isText wsX5_isText) := goodIn_app (goodIn_of _ (by decide +kernel)) ggX5_layAll_X5_isText
set_option maxRecDepth 20000 in
theorem ggX5_layAll_X5_fails : GoodIn wsX5_layAll wsX5_fails := goodIn_r _ [32, 1, 72, 73, 74, 75, 76, 77, 78, 79, 80, 81, 82, 83] (by decide +kernel) (by decide +kernel)
set_option maxRecDepth 20000 in
theorem gX5_layAll_X5_fails : GoodIn wsX5_layAll (wsV RX5 39 RX5 yX5_fails wsX5_fails) := goodIn_app (goodIn_of _ (by decide +kernel)) ggX5_layAll_X5_fails
set_option maxRecDepth 20000 in
theorem ggX5_layAll_X5_saves : GoodIn wsX5_layAll wsX5_saves := goodIn_r _ [36, 37, 38, 4, 72, 73, 74, 75, 76, 77, 78, 79, 80, 81, 82, 83] (by decide +kernel) (by decide +kernel)
set_option maxRecDepth 20000 in
theorem gX5_layAll_X5_saves : GoodIn wsX5_layAll (wsV RX5 98 RX5 yX5_saves wsX5_saves) := goodIn_app (goodIn_of _ (by decide +kernel)) ggX5_layAll_X5_saves
set_option maxRecDepth 20000 in
theorem ggX5_layAll_X5_refused : GoodIn wsX5_layAll wsX5_refused := goodIn_r _ [41, 42, 43, 9, 44, 45, 46, 47, 48, 49, 50, 51, 52, 53, 54, 55, 56, 57, 58, 59, 60, 61, 62, 63, 64, 65, 66, 67, 68] (by decide +kernel) (by decide +kernel)
set_option maxRecDepth 20000 in
theorem gX5_layAll_X5_refused : GoodIn wsX5_layAll (va_wsS RX5 74 yX5_refused wsX5_refused) := goodIn_app (goodIn_of _ (by decide +kernel)) ggX5_layAll_X5_refused
set_option maxRecDepth 20000 in
theorem ggX5_layAll_X5_lays : GoodIn wsX5_layAll wsX5_lays := goodIn_r _ [71, 57, 58, 9, 59, 45, 46, 47] (by decide +kernel) (by decide +kernel)
set_option maxRecDepth 20000 in
theorem gX5_layAll_X5_lays : GoodIn wsX5_layAll (va_wsS RX5 84 yX5_lays wsX5_lays) := goodIn_app (goodIn_of _ (by decide +kernel)) ggX5_layAll_X5_lays
theorem dX5_layAll_0 : decode cX5_layAll 0 = .ok (.aload_n 0, 1) := by decide +kernel
theorem dX5_layAll_1 : decode cX5_layAll 1 = .ok (.iconst 0, 1) := by decide +kernel
theorem dX5_layAll_2 : decode cX5_layAll 2 = .ok (.putfield 28, 3) := by decide +kernel
theorem dX5_layAll_5 : decode cX5_layAll 5 = .ok (.aload_n 0, 1) := by decide +kernel
theorem dX5_layAll_6 : decode cX5_layAll 6 = .ok (.invokevirtual 138, 3) := by decide +kernel
theorem dX5_layAll_9 : decode cX5_layAll 9 = .ok (.ifCond .ne 9, 3) := by decide +kernel
theorem dX5_layAll_12 : decode cX5_layAll 12 = .ok (.aload_n 0, 1) := by decide +kernel
theorem dX5_layAll_13 : decode cX5_layAll 13 = .ok (.iconst 1, 1) := by decide +kernel
theorem dX5_layAll_14 : decode cX5_layAll 14 = .ok (.invokevirtual 39, 3) := by decide +kernel
theorem dX5_layAll_17 : decode cX5_layAll 17 = .ok (.ireturn, 1) := by decide +kernel
theorem dX5_layAll_18 : decode cX5_layAll 18 = .ok (.aload_n 0, 1) := by decide +kernel
theorem dX5_layAll_19 : decode cX5_layAll 19 = .ok (.invokevirtual 98, 3) := by decide +kernel
theorem dX5_layAll_22 : decode cX5_layAll 22 = .ok (.aload_n 0, 1) := by decide +kernel
theorem dX5_layAll_23 : decode cX5_layAll 23 = .ok (.iconst 0, 1) := by decide +kernel
theorem dX5_layAll_24 : decode cX5_layAll 24 = .ok (.putfield 114, 3) := by decide +kernel
theorem dX5_layAll_27 : decode cX5_layAll 27 = .ok (.iconst 0, 1) := by decide +kernel
theorem dX5_layAll_28 : decode cX5_layAll 28 = .ok (.istore_n 1, 1) := by decide +kernel
theorem dX5_layAll_29 : decode cX5_layAll 29 = .ok (.iload_n 1, 1) := by decide +kernel
theorem dX5_layAll_30 : decode cX5_layAll 30 = .ok (.aload_n 0, 1) := by decide +kernel
theorem dX5_layAll_31 : decode cX5_layAll 31 = .ok (.getfield 132, 3) := by decide +kernel
theorem dX5_layAll_34 : decode cX5_layAll 34 = .ok (.if_icmp .ge 101, 3) := by decide +kernel
theorem dX5_layAll_37 : decode cX5_layAll 37 = .ok (.aload_n 0, 1) := by decide +kernel
theorem dX5_layAll_38 : decode cX5_layAll 38 = .ok (.getfield 7, 3) := by decide +kernel
theorem dX5_layAll_41 : decode cX5_layAll 41 = .ok (.aload_n 0, 1) := by decide +kernel
theorem dX5_layAll_42 : decode cX5_layAll 42 = .ok (.getfield 22, 3) := by decide +kernel
theorem dX5_layAll_45 : decode cX5_layAll 45 = .ok (.iconst 3, 1) := by decide +kernel
theorem dX5_layAll_46 : decode cX5_layAll 46 = .ok (.iload_n 1, 1) := by decide +kernel
theorem dX5_layAll_47 : decode cX5_layAll 47 = .ok (.imul, 1) := by decide +kernel
theorem dX5_layAll_48 : decode cX5_layAll 48 = .ok (.iaload, 1) := by decide +kernel
theorem dX5_layAll_49 : decode cX5_layAll 49 = .ok (.aload_n 0, 1) := by decide +kernel
theorem dX5_layAll_50 : decode cX5_layAll 50 = .ok (.getfield 22, 3) := by decide +kernel
theorem dX5_layAll_53 : decode cX5_layAll 53 = .ok (.iconst 3, 1) := by decide +kernel
theorem dX5_layAll_54 : decode cX5_layAll 54 = .ok (.iload_n 1, 1) := by decide +kernel
theorem dX5_layAll_55 : decode cX5_layAll 55 = .ok (.imul, 1) := by decide +kernel
theorem dX5_layAll_56 : decode cX5_layAll 56 = .ok (.iconst 1, 1) := by decide +kernel
theorem dX5_layAll_57 : decode cX5_layAll 57 = .ok (.iadd, 1) := by decide +kernel
theorem dX5_layAll_58 : decode cX5_layAll 58 = .ok (.iaload, 1) := by decide +kernel
theorem dX5_layAll_59 : decode cX5_layAll 59 = .ok (.aload_n 0, 1) := by decide +kernel
theorem dX5_layAll_60 : decode cX5_layAll 60 = .ok (.getfield 22, 3) := by decide +kernel
theorem dX5_layAll_63 : decode cX5_layAll 63 = .ok (.iconst 3, 1) := by decide +kernel
theorem dX5_layAll_64 : decode cX5_layAll 64 = .ok (.iload_n 1, 1) := by decide +kernel
theorem dX5_layAll_65 : decode cX5_layAll 65 = .ok (.imul, 1) := by decide +kernel
theorem dX5_layAll_66 : decode cX5_layAll 66 = .ok (.iconst 2, 1) := by decide +kernel
theorem dX5_layAll_67 : decode cX5_layAll 67 = .ok (.iadd, 1) := by decide +kernel
theorem dX5_layAll_68 : decode cX5_layAll 68 = .ok (.iaload, 1) := by decide +kernel
theorem dX5_layAll_69 : decode cX5_layAll 69 = .ok (.iconst 1, 1) := by decide +kernel
theorem dX5_layAll_70 : decode cX5_layAll 70 = .ok (.if_icmp .ne 7, 3) := by decide +kernel
theorem dX5_layAll_73 : decode cX5_layAll 73 = .ok (.iconst 1, 1) := by decide +kernel
theorem dX5_layAll_74 : decode cX5_layAll 74 = .ok (.goto 4, 3) := by decide +kernel
theorem dX5_layAll_77 : decode cX5_layAll 77 = .ok (.iconst 0, 1) := by decide +kernel
theorem dX5_layAll_78 : decode cX5_layAll 78 = .ok (.invokestatic 74, 3) := by decide +kernel
theorem dX5_layAll_81 : decode cX5_layAll 81 = .ok (.ifCond .ne 54, 3) := by decide +kernel
theorem dX5_layAll_84 : decode cX5_layAll 84 = .ok (.aload_n 0, 1) := by decide +kernel
theorem dX5_layAll_85 : decode cX5_layAll 85 = .ok (.getfield 7, 3) := by decide +kernel
theorem dX5_layAll_88 : decode cX5_layAll 88 = .ok (.aload_n 0, 1) := by decide +kernel
theorem dX5_layAll_89 : decode cX5_layAll 89 = .ok (.getfield 22, 3) := by decide +kernel
theorem dX5_layAll_92 : decode cX5_layAll 92 = .ok (.iconst 3, 1) := by decide +kernel
theorem dX5_layAll_93 : decode cX5_layAll 93 = .ok (.iload_n 1, 1) := by decide +kernel
theorem dX5_layAll_94 : decode cX5_layAll 94 = .ok (.imul, 1) := by decide +kernel
theorem dX5_layAll_95 : decode cX5_layAll 95 = .ok (.iaload, 1) := by decide +kernel
theorem dX5_layAll_96 : decode cX5_layAll 96 = .ok (.aload_n 0, 1) := by decide +kernel
theorem dX5_layAll_97 : decode cX5_layAll 97 = .ok (.getfield 22, 3) := by decide +kernel
theorem dX5_layAll_100 : decode cX5_layAll 100 = .ok (.iconst 3, 1) := by decide +kernel
theorem dX5_layAll_101 : decode cX5_layAll 101 = .ok (.iload_n 1, 1) := by decide +kernel
theorem dX5_layAll_102 : decode cX5_layAll 102 = .ok (.imul, 1) := by decide +kernel
theorem dX5_layAll_103 : decode cX5_layAll 103 = .ok (.iconst 1, 1) := by decide +kernel
theorem dX5_layAll_104 : decode cX5_layAll 104 = .ok (.iadd, 1) := by decide +kernel
theorem dX5_layAll_105 : decode cX5_layAll 105 = .ok (.iaload, 1) := by decide +kernel
theorem dX5_layAll_106 : decode cX5_layAll 106 = .ok (.aload_n 0, 1) := by decide +kernel
theorem dX5_layAll_107 : decode cX5_layAll 107 = .ok (.getfield 22, 3) := by decide +kernel
theorem dX5_layAll_110 : decode cX5_layAll 110 = .ok (.iconst 3, 1) := by decide +kernel
theorem dX5_layAll_111 : decode cX5_layAll 111 = .ok (.iload_n 1, 1) := by decide +kernel
theorem dX5_layAll_112 : decode cX5_layAll 112 = .ok (.imul, 1) := by decide +kernel
theorem dX5_layAll_113 : decode cX5_layAll 113 = .ok (.iconst 2, 1) := by decide +kernel
theorem dX5_layAll_114 : decode cX5_layAll 114 = .ok (.iadd, 1) := by decide +kernel
theorem dX5_layAll_115 : decode cX5_layAll 115 = .ok (.iaload, 1) := by decide +kernel
theorem dX5_layAll_116 : decode cX5_layAll 116 = .ok (.iconst 1, 1) := by decide +kernel
theorem dX5_layAll_117 : decode cX5_layAll 117 = .ok (.if_icmp .ne 7, 3) := by decide +kernel
theorem dX5_layAll_120 : decode cX5_layAll 120 = .ok (.iconst 1, 1) := by decide +kernel
theorem dX5_layAll_121 : decode cX5_layAll 121 = .ok (.goto 4, 3) := by decide +kernel
theorem dX5_layAll_124 : decode cX5_layAll 124 = .ok (.iconst 0, 1) := by decide +kernel
theorem dX5_layAll_125 : decode cX5_layAll 125 = .ok (.invokestatic 84, 3) := by decide +kernel
theorem dX5_layAll_128 : decode cX5_layAll 128 = .ok (.pop, 1) := by decide +kernel
theorem dX5_layAll_129 : decode cX5_layAll 129 = .ok (.iinc 1 1, 3) := by decide +kernel
theorem dX5_layAll_132 : decode cX5_layAll 132 = .ok (.goto (-103), 3) := by decide +kernel
theorem dX5_layAll_135 : decode cX5_layAll 135 = .ok (.iload_n 1, 1) := by decide +kernel
theorem dX5_layAll_136 : decode cX5_layAll 136 = .ok (.ireturn, 1) := by decide +kernel
set_option maxRecDepth 20000 in
theorem ggX5_joints_X5_pebbles : GoodIn wsX5_joints wsX5_pebbles := goodIn_r _ [4] (by decide +kernel) (by decide +kernel)
set_option maxRecDepth 20000 in
theorem gX5_joints_X5_pebbles : GoodIn wsX5_joints (va_wsS RX5 43 yX5_pebbles wsX5_pebbles) := goodIn_app (goodIn_of _ (by decide +kernel)) ggX5_joints_X5_pebbles
set_option maxRecDepth 20000 in
theorem ggX5_joints_X5_isClosed : GoodIn wsX5_joints wsX5_isClosed := goodIn_r _ [7, 8, 9, 3, 10, 1, 2, 4, 11, 12, 13, 14, 15, 16] (by decide +kernel) (by decide +kernel)
set_option maxRecDepth 20000 in
theorem gX5_joints_X5_isClosed : GoodIn wsX5_joints (va_wsS RX5 64 yX5_isClosed wsX5_isClosed) := goodIn_app (goodIn_of _ (by decide +kernel)) ggX5_joints_X5_isClosed
theorem dX5_joints_0 : decode cX5_joints 0 = .ok (.aload_n 0, 1) := by decide +kernel
theorem dX5_joints_1 : decode cX5_joints 1 = .ok (.iload_n 1, 1) := by decide +kernel
theorem dX5_joints_2 : decode cX5_joints 2 = .ok (.invokestatic 43, 3) := by decide +kernel
theorem dX5_joints_5 : decode cX5_joints 5 = .ok (.istore_n 2, 1) := by decide +kernel
theorem dX5_joints_6 : decode cX5_joints 6 = .ok (.iload_n 2, 1) := by decide +kernel
theorem dX5_joints_7 : decode cX5_joints 7 = .ok (.ifCond .eq 11, 3) := by decide +kernel
theorem dX5_joints_10 : decode cX5_joints 10 = .ok (.aload_n 0, 1) := by decide +kernel
theorem dX5_joints_11 : decode cX5_joints 11 = .ok (.iload_n 1, 1) := by decide +kernel
theorem dX5_joints_12 : decode cX5_joints 12 = .ok (.invokestatic 64, 3) := by decide +kernel
theorem dX5_joints_15 : decode cX5_joints 15 = .ok (.ifCond .eq 7, 3) := by decide +kernel
theorem dX5_joints_18 : decode cX5_joints 18 = .ok (.iload_n 2, 1) := by decide +kernel
theorem dX5_joints_19 : decode cX5_joints 19 = .ok (.goto 6, 3) := by decide +kernel
theorem dX5_joints_22 : decode cX5_joints 22 = .ok (.iload_n 2, 1) := by decide +kernel
theorem dX5_joints_23 : decode cX5_joints 23 = .ok (.iconst 1, 1) := by decide +kernel
theorem dX5_joints_24 : decode cX5_joints 24 = .ok (.iadd, 1) := by decide +kernel
theorem dX5_joints_25 : decode cX5_joints 25 = .ok (.ireturn, 1) := by decide +kernel
set_option maxRecDepth 20000 in
theorem ggX5_meeting_X5_cells : GoodIn wsX5_meeting wsX5_cells := goodIn_r _ [4] (by decide +kernel) (by decide +kernel)
set_option maxRecDepth 20000 in
theorem gX5_meeting_X5_cells : GoodIn wsX5_meeting (va_wsS RX5 54 yX5_cells wsX5_cells) := goodIn_app (goodIn_of _ (by decide +kernel)) ggX5_meeting_X5_cells
set_option maxRecDepth 20000 in
theorem ggX5_meeting_X5_isJoint : GoodIn wsX5_meeting wsX5_isJoint := goodIn_r _ [7, 8, 9, 3, 10, 11, 12, 13, 1, 2, 4] (by decide +kernel) (by decide +kernel)
set_option maxRecDepth 20000 in
theorem gX5_meeting_X5_isJoint : GoodIn wsX5_meeting (va_wsS RX5 60 yX5_isJoint wsX5_isJoint) := goodIn_app (goodIn_of _ (by decide +kernel)) ggX5_meeting_X5_isJoint
set_option maxRecDepth 20000 in
theorem ggX5_meeting_X5_runs : GoodIn wsX5_meeting wsX5_runs := goodIn_r _ [16, 17, 18, 3, 19, 1, 2, 4, 5, 6, 7, 8, 9, 10, 11, 12, 13] (by decide +kernel) (by decide +kernel)
set_option maxRecDepth 20000 in
theorem gX5_meeting_X5_runs : GoodIn wsX5_meeting (va_wsS RX5 71 yX5_runs wsX5_runs) := goodIn_app (goodIn_of _ (by decide +kernel)) ggX5_meeting_X5_runs
set_option maxRecDepth 20000 in
theorem ggX5_meeting_X5_meets : GoodIn wsX5_meeting wsX5_meets := goodIn_r _ [19, 1, 2, 3, 4] (by decide +kernel) (by decide +kernel)
set_option maxRecDepth 20000 in
theorem gX5_meeting_X5_meets : GoodIn wsX5_meeting (va_wsS RX5 57 yX5_meets wsX5_meets) := goodIn_app (goodIn_of _ (by decide +kernel)) ggX5_meeting_X5_meets
theorem dX5_meeting_0 : decode cX5_meeting 0 = .ok (.iconst 0, 1) := by decide +kernel
theorem dX5_meeting_1 : decode cX5_meeting 1 = .ok (.istore_n 3, 1) := by decide +kernel
theorem dX5_meeting_2 : decode cX5_meeting 2 = .ok (.iconst 1, 1) := by decide +kernel
theorem dX5_meeting_3 : decode cX5_meeting 3 = .ok (.istore 4, 2) := by decide +kernel
theorem dX5_meeting_5 : decode cX5_meeting 5 = .ok (.iload 4, 2) := by decide +kernel
theorem dX5_meeting_7 : decode cX5_meeting 7 = .ok (.aload_n 0, 1) := by decide +kernel
theorem dX5_meeting_8 : decode cX5_meeting 8 = .ok (.iload_n 1, 1) := by decide +kernel
theorem dX5_meeting_9 : decode cX5_meeting 9 = .ok (.invokestatic 54, 3) := by decide +kernel
theorem dX5_meeting_12 : decode cX5_meeting 12 = .ok (.if_icmp .ge 65, 3) := by decide +kernel
theorem dX5_meeting_15 : decode cX5_meeting 15 = .ok (.iload_n 1, 1) := by decide +kernel
theorem dX5_meeting_16 : decode cX5_meeting 16 = .ok (.ifCond .le 61, 3) := by decide +kernel
theorem dX5_meeting_19 : decode cX5_meeting 19 = .ok (.aload_n 0, 1) := by decide +kernel
theorem dX5_meeting_20 : decode cX5_meeting 20 = .ok (.iload_n 1, 1) := by decide +kernel
theorem dX5_meeting_21 : decode cX5_meeting 21 = .ok (.iload 4, 2) := by decide +kernel
theorem dX5_meeting_23 : decode cX5_meeting 23 = .ok (.invokestatic 60, 3) := by decide +kernel
theorem dX5_meeting_26 : decode cX5_meeting 26 = .ok (.ifCond .eq 45, 3) := by decide +kernel
theorem dX5_meeting_29 : decode cX5_meeting 29 = .ok (.iload_n 3, 1) := by decide +kernel
theorem dX5_meeting_30 : decode cX5_meeting 30 = .ok (.iload_n 2, 1) := by decide +kernel
theorem dX5_meeting_31 : decode cX5_meeting 31 = .ok (.ifCond .eq 16, 3) := by decide +kernel
theorem dX5_meeting_34 : decode cX5_meeting 34 = .ok (.aload_n 0, 1) := by decide +kernel
theorem dX5_meeting_35 : decode cX5_meeting 35 = .ok (.iload_n 1, 1) := by decide +kernel
theorem dX5_meeting_36 : decode cX5_meeting 36 = .ok (.iload 4, 2) := by decide +kernel
theorem dX5_meeting_38 : decode cX5_meeting 38 = .ok (.invokestatic 71, 3) := by decide +kernel
theorem dX5_meeting_41 : decode cX5_meeting 41 = .ok (.ifCond .eq 27, 3) := by decide +kernel
theorem dX5_meeting_44 : decode cX5_meeting 44 = .ok (.goto 20, 3) := by decide +kernel
theorem dX5_meeting_47 : decode cX5_meeting 47 = .ok (.aload_n 0, 1) := by decide +kernel
theorem dX5_meeting_48 : decode cX5_meeting 48 = .ok (.iload_n 1, 1) := by decide +kernel
theorem dX5_meeting_49 : decode cX5_meeting 49 = .ok (.iconst 1, 1) := by decide +kernel
theorem dX5_meeting_50 : decode cX5_meeting 50 = .ok (.isub, 1) := by decide +kernel
theorem dX5_meeting_51 : decode cX5_meeting 51 = .ok (.aload_n 0, 1) := by decide +kernel
theorem dX5_meeting_52 : decode cX5_meeting 52 = .ok (.iload_n 1, 1) := by decide +kernel
theorem dX5_meeting_53 : decode cX5_meeting 53 = .ok (.iload 4, 2) := by decide +kernel
theorem dX5_meeting_55 : decode cX5_meeting 55 = .ok (.invokestatic 57, 3) := by decide +kernel
theorem dX5_meeting_58 : decode cX5_meeting 58 = .ok (.invokestatic 60, 3) := by decide +kernel
theorem dX5_meeting_61 : decode cX5_meeting 61 = .ok (.ifCond .eq 7, 3) := by decide +kernel
theorem dX5_meeting_64 : decode cX5_meeting 64 = .ok (.iconst 1, 1) := by decide +kernel
theorem dX5_meeting_65 : decode cX5_meeting 65 = .ok (.goto 4, 3) := by decide +kernel
theorem dX5_meeting_68 : decode cX5_meeting 68 = .ok (.iconst 0, 1) := by decide +kernel
theorem dX5_meeting_69 : decode cX5_meeting 69 = .ok (.iadd, 1) := by decide +kernel
theorem dX5_meeting_70 : decode cX5_meeting 70 = .ok (.istore_n 3, 1) := by decide +kernel
theorem dX5_meeting_71 : decode cX5_meeting 71 = .ok (.iinc 4 1, 3) := by decide +kernel
theorem dX5_meeting_74 : decode cX5_meeting 74 = .ok (.goto (-69), 3) := by decide +kernel
theorem dX5_meeting_77 : decode cX5_meeting 77 = .ok (.iload_n 3, 1) := by decide +kernel
theorem dX5_meeting_78 : decode cX5_meeting 78 = .ok (.ireturn, 1) := by decide +kernel
set_option maxRecDepth 20000 in
theorem ggX5_fillers_X5_pebbles : GoodIn wsX5_fillers wsX5_pebbles := goodIn_r _ [5] (by decide +kernel) (by decide +kernel)
set_option maxRecDepth 20000 in
theorem gX5_fillers_X5_pebbles : GoodIn wsX5_fillers (va_wsS RX5 43 yX5_pebbles wsX5_pebbles) := goodIn_app (goodIn_of _ (by decide +kernel)) ggX5_fillers_X5_pebbles
theorem dX5_fillers_0 : decode cX5_fillers 0 = .ok (.iconst 0, 1) := by decide +kernel
theorem dX5_fillers_1 : decode cX5_fillers 1 = .ok (.istore_n 2, 1) := by decide +kernel
theorem dX5_fillers_2 : decode cX5_fillers 2 = .ok (.iconst 0, 1) := by decide +kernel
theorem dX5_fillers_3 : decode cX5_fillers 3 = .ok (.istore_n 3, 1) := by decide +kernel
theorem dX5_fillers_4 : decode cX5_fillers 4 = .ok (.iload_n 3, 1) := by decide +kernel
theorem dX5_fillers_5 : decode cX5_fillers 5 = .ok (.aload_n 0, 1) := by decide +kernel
theorem dX5_fillers_6 : decode cX5_fillers 6 = .ok (.getfield 7, 3) := by decide +kernel
theorem dX5_fillers_9 : decode cX5_fillers 9 = .ok (.iload_n 1, 1) := by decide +kernel
theorem dX5_fillers_10 : decode cX5_fillers 10 = .ok (.invokestatic 43, 3) := by decide +kernel
theorem dX5_fillers_13 : decode cX5_fillers 13 = .ok (.if_icmp .ge 31, 3) := by decide +kernel
theorem dX5_fillers_16 : decode cX5_fillers 16 = .ok (.iload_n 2, 1) := by decide +kernel
theorem dX5_fillers_17 : decode cX5_fillers 17 = .ok (.aload_n 0, 1) := by decide +kernel
theorem dX5_fillers_18 : decode cX5_fillers 18 = .ok (.getfield 7, 3) := by decide +kernel
theorem dX5_fillers_21 : decode cX5_fillers 21 = .ok (.bipush 10, 2) := by decide +kernel
theorem dX5_fillers_23 : decode cX5_fillers 23 = .ok (.bipush 61, 2) := by decide +kernel
theorem dX5_fillers_25 : decode cX5_fillers 25 = .ok (.iload_n 1, 1) := by decide +kernel
theorem dX5_fillers_26 : decode cX5_fillers 26 = .ok (.imul, 1) := by decide +kernel
theorem dX5_fillers_27 : decode cX5_fillers 27 = .ok (.iadd, 1) := by decide +kernel
theorem dX5_fillers_28 : decode cX5_fillers 28 = .ok (.iconst 1, 1) := by decide +kernel
theorem dX5_fillers_29 : decode cX5_fillers 29 = .ok (.iadd, 1) := by decide +kernel
theorem dX5_fillers_30 : decode cX5_fillers 30 = .ok (.iload_n 3, 1) := by decide +kernel
theorem dX5_fillers_31 : decode cX5_fillers 31 = .ok (.iadd, 1) := by decide +kernel
theorem dX5_fillers_32 : decode cX5_fillers 32 = .ok (.iaload, 1) := by decide +kernel
theorem dX5_fillers_33 : decode cX5_fillers 33 = .ok (.bipush 10, 2) := by decide +kernel
theorem dX5_fillers_35 : decode cX5_fillers 35 = .ok (.idiv, 1) := by decide +kernel
theorem dX5_fillers_36 : decode cX5_fillers 36 = .ok (.iadd, 1) := by decide +kernel
theorem dX5_fillers_37 : decode cX5_fillers 37 = .ok (.istore_n 2, 1) := by decide +kernel
theorem dX5_fillers_38 : decode cX5_fillers 38 = .ok (.iinc 3 1, 3) := by decide +kernel
theorem dX5_fillers_41 : decode cX5_fillers 41 = .ok (.goto (-37), 3) := by decide +kernel
theorem dX5_fillers_44 : decode cX5_fillers 44 = .ok (.iload_n 2, 1) := by decide +kernel
theorem dX5_fillers_45 : decode cX5_fillers 45 = .ok (.ireturn, 1) := by decide +kernel
set_option maxRecDepth 20000 in
theorem ggX5_ofCourse_X5_cells : GoodIn wsX5_ofCourse wsX5_cells := goodIn_r _ [5] (by decide +kernel) (by decide +kernel)
set_option maxRecDepth 20000 in
theorem gX5_ofCourse_X5_cells : GoodIn wsX5_ofCourse (va_wsS RX5 54 yX5_cells wsX5_cells) := goodIn_app (goodIn_of _ (by decide +kernel)) ggX5_ofCourse_X5_cells
set_option maxRecDepth 20000 in
theorem ggX5_ofCourse_X5_pebbles : GoodIn wsX5_ofCourse wsX5_pebbles := goodIn_r _ [8] (by decide +kernel) (by decide +kernel)
set_option maxRecDepth 20000 in
theorem gX5_ofCourse_X5_pebbles : GoodIn wsX5_ofCourse (va_wsS RX5 43 yX5_pebbles wsX5_pebbles) := goodIn_app (goodIn_of _ (by decide +kernel)) ggX5_ofCourse_X5_pebbles
set_option maxRecDepth 20000 in
theorem ggX5_ofCourse_X5_taken : GoodIn wsX5_ofCourse wsX5_taken := goodIn_r _ [11, 6, 7, 4, 8, 12, 13, 14] (by decide +kernel) (by decide +kernel)
set_option maxRecDepth 20000 in
theorem gX5_ofCourse_X5_taken : GoodIn wsX5_ofCourse (va_wsS RX5 51 yX5_taken wsX5_taken) := goodIn_app (goodIn_of _ (by decide +kernel)) ggX5_ofCourse_X5_taken
set_option maxRecDepth 20000 in
theorem ggX5_ofCourse_X5_isClosed : GoodIn wsX5_ofCourse wsX5_isClosed := goodIn_r _ [17, 9, 10, 4, 11, 6, 7, 8, 12, 13, 14, 2, 3, 5] (by decide +kernel) (by decide +kernel)
set_option maxRecDepth 20000 in
theorem gX5_ofCourse_X5_isClosed : GoodIn wsX5_ofCourse (va_wsS RX5 64 yX5_isClosed wsX5_isClosed) := goodIn_app (goodIn_of _ (by decide +kernel)) ggX5_ofCourse_X5_isClosed
set_option maxRecDepth 20000 in
theorem ggX5_ofCourse_X5_joints : GoodIn wsX5_ofCourse wsX5_joints := goodIn_r _ [20, 6, 7, 4, 8, 15, 16, 17, 9, 10, 11, 12, 13, 14, 2, 3, 5] (by decide +kernel) (by decide +kernel)
set_option maxRecDepth 20000 in
theorem gX5_ofCourse_X5_joints : GoodIn wsX5_ofCourse (va_wsS RX5 141 yX5_joints wsX5_joints) := goodIn_app (goodIn_of _ (by decide +kernel)) ggX5_ofCourse_X5_joints
set_option maxRecDepth 20000 in
theorem ggX5_ofCourse_X5_meeting : GoodIn wsX5_ofCourse wsX5_meeting := goodIn_r _ [23, 2, 3, 4, 5, 24, 25, 26, 6, 7, 8, 12, 13, 14, 27, 28, 29, 30, 31, 32] (by decide +kernel) (by decide +kernel)
set_option maxRecDepth 20000 in
theorem gX5_ofCourse_X5_meeting : GoodIn wsX5_ofCourse (va_wsS RX5 144 yX5_meeting wsX5_meeting) := goodIn_app (goodIn_of _ (by decide +kernel)) ggX5_ofCourse_X5_meeting
set_option maxRecDepth 20000 in
theorem ggX5_ofCourse_X5_fillers : GoodIn wsX5_ofCourse wsX5_fillers := goodIn_r _ [36, 1, 6, 7, 4, 8, 37, 38, 39, 40, 41, 42, 43, 44, 45, 46, 47, 48] (by decide +kernel) (by decide +kernel)
set_option maxRecDepth 20000 in
theorem gX5_ofCourse_X5_fillers : GoodIn wsX5_ofCourse (wsV RX5 148 RX5 yX5_fillers wsX5_fillers) := goodIn_app (goodIn_of _ (by decide +kernel)) ggX5_ofCourse_X5_fillers
theorem dX5_ofCourse_0 : decode cX5_ofCourse 0 = .ok (.iload_n 2, 1) := by decide +kernel
theorem dX5_ofCourse_1 : decode cX5_ofCourse 1 = .ok (.iconst 4, 1) := by decide +kernel
theorem dX5_ofCourse_2 : decode cX5_ofCourse 2 = .ok (.if_icmp .ge 76, 3) := by decide +kernel
theorem dX5_ofCourse_5 : decode cX5_ofCourse 5 = .ok (.iload_n 2, 1) := by decide +kernel
theorem dX5_ofCourse_6 : decode cX5_ofCourse 6 = .ok (.ifCond .ne 14, 3) := by decide +kernel
theorem dX5_ofCourse_9 : decode cX5_ofCourse 9 = .ok (.aload_n 0, 1) := by decide +kernel
theorem dX5_ofCourse_10 : decode cX5_ofCourse 10 = .ok (.getfield 7, 3) := by decide +kernel
theorem dX5_ofCourse_13 : decode cX5_ofCourse 13 = .ok (.iload_n 1, 1) := by decide +kernel
theorem dX5_ofCourse_14 : decode cX5_ofCourse 14 = .ok (.invokestatic 54, 3) := by decide +kernel
theorem dX5_ofCourse_17 : decode cX5_ofCourse 17 = .ok (.goto 60, 3) := by decide +kernel
theorem dX5_ofCourse_20 : decode cX5_ofCourse 20 = .ok (.iload_n 2, 1) := by decide +kernel
theorem dX5_ofCourse_21 : decode cX5_ofCourse 21 = .ok (.iconst 1, 1) := by decide +kernel
theorem dX5_ofCourse_22 : decode cX5_ofCourse 22 = .ok (.if_icmp .ne 14, 3) := by decide +kernel
theorem dX5_ofCourse_25 : decode cX5_ofCourse 25 = .ok (.aload_n 0, 1) := by decide +kernel
theorem dX5_ofCourse_26 : decode cX5_ofCourse 26 = .ok (.getfield 7, 3) := by decide +kernel
theorem dX5_ofCourse_29 : decode cX5_ofCourse 29 = .ok (.iload_n 1, 1) := by decide +kernel
theorem dX5_ofCourse_30 : decode cX5_ofCourse 30 = .ok (.invokestatic 43, 3) := by decide +kernel
theorem dX5_ofCourse_33 : decode cX5_ofCourse 33 = .ok (.goto 44, 3) := by decide +kernel
theorem dX5_ofCourse_36 : decode cX5_ofCourse 36 = .ok (.iload_n 2, 1) := by decide +kernel
theorem dX5_ofCourse_37 : decode cX5_ofCourse 37 = .ok (.iconst 2, 1) := by decide +kernel
theorem dX5_ofCourse_38 : decode cX5_ofCourse 38 = .ok (.if_icmp .ne 23, 3) := by decide +kernel
theorem dX5_ofCourse_41 : decode cX5_ofCourse 41 = .ok (.aload_n 0, 1) := by decide +kernel
theorem dX5_ofCourse_42 : decode cX5_ofCourse 42 = .ok (.getfield 7, 3) := by decide +kernel
theorem dX5_ofCourse_45 : decode cX5_ofCourse 45 = .ok (.iload_n 1, 1) := by decide +kernel
theorem dX5_ofCourse_46 : decode cX5_ofCourse 46 = .ok (.invokestatic 54, 3) := by decide +kernel
theorem dX5_ofCourse_49 : decode cX5_ofCourse 49 = .ok (.aload_n 0, 1) := by decide +kernel
theorem dX5_ofCourse_50 : decode cX5_ofCourse 50 = .ok (.getfield 7, 3) := by decide +kernel
theorem dX5_ofCourse_53 : decode cX5_ofCourse 53 = .ok (.iload_n 1, 1) := by decide +kernel
theorem dX5_ofCourse_54 : decode cX5_ofCourse 54 = .ok (.invokestatic 51, 3) := by decide +kernel
theorem dX5_ofCourse_57 : decode cX5_ofCourse 57 = .ok (.isub, 1) := by decide +kernel
theorem dX5_ofCourse_58 : decode cX5_ofCourse 58 = .ok (.goto 19, 3) := by decide +kernel
theorem dX5_ofCourse_61 : decode cX5_ofCourse 61 = .ok (.aload_n 0, 1) := by decide +kernel
theorem dX5_ofCourse_62 : decode cX5_ofCourse 62 = .ok (.getfield 7, 3) := by decide +kernel
theorem dX5_ofCourse_65 : decode cX5_ofCourse 65 = .ok (.iload_n 1, 1) := by decide +kernel
theorem dX5_ofCourse_66 : decode cX5_ofCourse 66 = .ok (.invokestatic 64, 3) := by decide +kernel
theorem dX5_ofCourse_69 : decode cX5_ofCourse 69 = .ok (.ifCond .eq 7, 3) := by decide +kernel
theorem dX5_ofCourse_72 : decode cX5_ofCourse 72 = .ok (.iconst 1, 1) := by decide +kernel
theorem dX5_ofCourse_73 : decode cX5_ofCourse 73 = .ok (.goto 4, 3) := by decide +kernel
theorem dX5_ofCourse_76 : decode cX5_ofCourse 76 = .ok (.iconst 0, 1) := by decide +kernel
theorem dX5_ofCourse_77 : decode cX5_ofCourse 77 = .ok (.ireturn, 1) := by decide +kernel
theorem dX5_ofCourse_78 : decode cX5_ofCourse 78 = .ok (.iload_n 2, 1) := by decide +kernel
theorem dX5_ofCourse_79 : decode cX5_ofCourse 79 = .ok (.iconst 4, 1) := by decide +kernel
theorem dX5_ofCourse_80 : decode cX5_ofCourse 80 = .ok (.if_icmp .ne 14, 3) := by decide +kernel
theorem dX5_ofCourse_83 : decode cX5_ofCourse 83 = .ok (.aload_n 0, 1) := by decide +kernel
theorem dX5_ofCourse_84 : decode cX5_ofCourse 84 = .ok (.getfield 7, 3) := by decide +kernel
theorem dX5_ofCourse_87 : decode cX5_ofCourse 87 = .ok (.iload_n 1, 1) := by decide +kernel
theorem dX5_ofCourse_88 : decode cX5_ofCourse 88 = .ok (.invokestatic 141, 3) := by decide +kernel
theorem dX5_ofCourse_91 : decode cX5_ofCourse 91 = .ok (.goto 25, 3) := by decide +kernel
theorem dX5_ofCourse_94 : decode cX5_ofCourse 94 = .ok (.iload_n 2, 1) := by decide +kernel
theorem dX5_ofCourse_95 : decode cX5_ofCourse 95 = .ok (.iconst 5, 1) := by decide +kernel
theorem dX5_ofCourse_96 : decode cX5_ofCourse 96 = .ok (.if_icmp .ne 15, 3) := by decide +kernel
theorem dX5_ofCourse_99 : decode cX5_ofCourse 99 = .ok (.aload_n 0, 1) := by decide +kernel
theorem dX5_ofCourse_100 : decode cX5_ofCourse 100 = .ok (.getfield 7, 3) := by decide +kernel
theorem dX5_ofCourse_103 : decode cX5_ofCourse 103 = .ok (.iload_n 1, 1) := by decide +kernel
theorem dX5_ofCourse_104 : decode cX5_ofCourse 104 = .ok (.iconst 0, 1) := by decide +kernel
theorem dX5_ofCourse_105 : decode cX5_ofCourse 105 = .ok (.invokestatic 144, 3) := by decide +kernel
theorem dX5_ofCourse_108 : decode cX5_ofCourse 108 = .ok (.goto 8, 3) := by decide +kernel
theorem dX5_ofCourse_111 : decode cX5_ofCourse 111 = .ok (.aload_n 0, 1) := by decide +kernel
theorem dX5_ofCourse_112 : decode cX5_ofCourse 112 = .ok (.iload_n 1, 1) := by decide +kernel
theorem dX5_ofCourse_113 : decode cX5_ofCourse 113 = .ok (.invokevirtual 148, 3) := by decide +kernel
theorem dX5_ofCourse_116 : decode cX5_ofCourse 116 = .ok (.ireturn, 1) := by decide +kernel
set_option maxRecDepth 20000 in
theorem ggX5_course_X5_isCourse : GoodIn wsX5_course wsX5_isCourse := goodIn_r _ [5, 6, 7, 4, 8] (by decide +kernel) (by decide +kernel)
set_option maxRecDepth 20000 in
theorem gX5_course_X5_isCourse : GoodIn wsX5_course (va_wsS RX5 101 yX5_isCourse wsX5_isCourse) := goodIn_app (goodIn_of _ (by decide +kernel)) ggX5_course_X5_isCourse
set_option maxRecDepth 20000 in
theorem ggX5_course_X5_fails : GoodIn wsX5_course wsX5_fails := goodIn_r _ [12, 1, 52, 53, 54, 55, 56, 57, 58, 59, 60, 61, 62, 63] (by decide +kernel) (by decide +kernel)
set_option maxRecDepth 20000 in
theorem gX5_course_X5_fails : GoodIn wsX5_course (wsV RX5 39 RX5 yX5_fails wsX5_fails) := goodIn_app (goodIn_of _ (by decide +kernel)) ggX5_course_X5_fails
set_option maxRecDepth 20000 in
theorem ggX5_course_X5_in : GoodIn wsX5_course wsX5_in := goodIn_r _ [8] (by decide +kernel) (by decide +kernel)
set_option maxRecDepth 20000 in
theorem gX5_course_X5_in : GoodIn wsX5_course (va_wsS RX5 32 yX5_in wsX5_in) := goodIn_app (goodIn_of _ (by decide +kernel)) ggX5_course_X5_in
set_option maxRecDepth 20000 in
theorem ggX5_course_X5_ofCourse : GoodIn wsX5_course wsX5_ofCourse := goodIn_r _ [16, 17, 18, 19, 4, 20, 21, 22, 23, 24, 25, 26, 27, 28, 29, 30, 31, 32, 33, 34, 35, 36, 37, 38, 39, 40, 41, 42, 43, 44, 45, 46, 47, 48, 49, 50, 51, 52, 53, 54, 55, 56, 57, 58, 59, 60, 61, 62, 63] (by decide +kernel) (by decide +kernel)
set_option maxRecDepth 20000 in
theorem gX5_course_X5_ofCourse : GoodIn wsX5_course (wsV RX5 151 RX5 yX5_ofCourse wsX5_ofCourse) := goodIn_app (goodIn_of _ (by decide +kernel)) ggX5_course_X5_ofCourse
theorem dX5_course_0 : decode cX5_course 0 = .ok (.aload_n 0, 1) := by decide +kernel
theorem dX5_course_1 : decode cX5_course 1 = .ok (.iconst 0, 1) := by decide +kernel
theorem dX5_course_2 : decode cX5_course 2 = .ok (.putfield 28, 3) := by decide +kernel
theorem dX5_course_5 : decode cX5_course 5 = .ok (.iload_n 1, 1) := by decide +kernel
theorem dX5_course_6 : decode cX5_course 6 = .ok (.invokestatic 101, 3) := by decide +kernel
theorem dX5_course_9 : decode cX5_course 9 = .ok (.ifCond .ne 9, 3) := by decide +kernel
theorem dX5_course_12 : decode cX5_course 12 = .ok (.aload_n 0, 1) := by decide +kernel
theorem dX5_course_13 : decode cX5_course 13 = .ok (.iconst 1, 1) := by decide +kernel
theorem dX5_course_14 : decode cX5_course 14 = .ok (.invokevirtual 39, 3) := by decide +kernel
theorem dX5_course_17 : decode cX5_course 17 = .ok (.ireturn, 1) := by decide +kernel
theorem dX5_course_18 : decode cX5_course 18 = .ok (.iload_n 2, 1) := by decide +kernel
theorem dX5_course_19 : decode cX5_course 19 = .ok (.iconst 0, 1) := by decide +kernel
theorem dX5_course_20 : decode cX5_course 20 = .ok (.bipush 6, 2) := by decide +kernel
theorem dX5_course_22 : decode cX5_course 22 = .ok (.invokestatic 32, 3) := by decide +kernel
theorem dX5_course_25 : decode cX5_course 25 = .ok (.ifCond .eq 12, 3) := by decide +kernel
theorem dX5_course_28 : decode cX5_course 28 = .ok (.aload_n 0, 1) := by decide +kernel
theorem dX5_course_29 : decode cX5_course 29 = .ok (.iload_n 1, 1) := by decide +kernel
theorem dX5_course_30 : decode cX5_course 30 = .ok (.iload_n 2, 1) := by decide +kernel
theorem dX5_course_31 : decode cX5_course 31 = .ok (.invokevirtual 151, 3) := by decide +kernel
theorem dX5_course_34 : decode cX5_course 34 = .ok (.goto 8, 3) := by decide +kernel
theorem dX5_course_37 : decode cX5_course 37 = .ok (.aload_n 0, 1) := by decide +kernel
theorem dX5_course_38 : decode cX5_course 38 = .ok (.iconst 2, 1) := by decide +kernel
theorem dX5_course_39 : decode cX5_course 39 = .ok (.invokevirtual 39, 3) := by decide +kernel
theorem dX5_course_42 : decode cX5_course 42 = .ok (.ireturn, 1) := by decide +kernel
set_option maxRecDepth 20000 in
theorem ggX5_pebbleAt_X5_pebbles : GoodIn wsX5_pebbleAt wsX5_pebbles := goodIn_r _ [5] (by decide +kernel) (by decide +kernel)
set_option maxRecDepth 20000 in
theorem gX5_pebbleAt_X5_pebbles : GoodIn wsX5_pebbleAt (va_wsS RX5 43 yX5_pebbles wsX5_pebbles) := goodIn_app (goodIn_of _ (by decide +kernel)) ggX5_pebbleAt_X5_pebbles
set_option maxRecDepth 20000 in
theorem ggX5_pebbleAt_X5_sizeOf : GoodIn wsX5_pebbleAt wsX5_sizeOf := goodIn_r _ [8] (by decide +kernel) (by decide +kernel)
set_option maxRecDepth 20000 in
theorem gX5_pebbleAt_X5_sizeOf : GoodIn wsX5_pebbleAt (va_wsS RX5 47 yX5_sizeOf wsX5_sizeOf) := goodIn_app (goodIn_of _ (by decide +kernel)) ggX5_pebbleAt_X5_sizeOf
theorem dX5_pebbleAt_0 : decode cX5_pebbleAt 0 = .ok (.iconst 0, 1) := by decide +kernel
theorem dX5_pebbleAt_1 : decode cX5_pebbleAt 1 = .ok (.istore_n 3, 1) := by decide +kernel
theorem dX5_pebbleAt_2 : decode cX5_pebbleAt 2 = .ok (.iconst 0, 1) := by decide +kernel
theorem dX5_pebbleAt_3 : decode cX5_pebbleAt 3 = .ok (.istore 4, 2) := by decide +kernel
theorem dX5_pebbleAt_5 : decode cX5_pebbleAt 5 = .ok (.iload 4, 2) := by decide +kernel
theorem dX5_pebbleAt_7 : decode cX5_pebbleAt 7 = .ok (.aload_n 0, 1) := by decide +kernel
theorem dX5_pebbleAt_8 : decode cX5_pebbleAt 8 = .ok (.getfield 7, 3) := by decide +kernel
theorem dX5_pebbleAt_11 : decode cX5_pebbleAt 11 = .ok (.iload_n 1, 1) := by decide +kernel
theorem dX5_pebbleAt_12 : decode cX5_pebbleAt 12 = .ok (.invokestatic 43, 3) := by decide +kernel
theorem dX5_pebbleAt_15 : decode cX5_pebbleAt 15 = .ok (.if_icmp .ge 38, 3) := by decide +kernel
theorem dX5_pebbleAt_18 : decode cX5_pebbleAt 18 = .ok (.iload_n 3, 1) := by decide +kernel
theorem dX5_pebbleAt_19 : decode cX5_pebbleAt 19 = .ok (.aload_n 0, 1) := by decide +kernel
theorem dX5_pebbleAt_20 : decode cX5_pebbleAt 20 = .ok (.getfield 7, 3) := by decide +kernel
theorem dX5_pebbleAt_23 : decode cX5_pebbleAt 23 = .ok (.iload_n 1, 1) := by decide +kernel
theorem dX5_pebbleAt_24 : decode cX5_pebbleAt 24 = .ok (.iload 4, 2) := by decide +kernel
theorem dX5_pebbleAt_26 : decode cX5_pebbleAt 26 = .ok (.invokestatic 47, 3) := by decide +kernel
theorem dX5_pebbleAt_29 : decode cX5_pebbleAt 29 = .ok (.iadd, 1) := by decide +kernel
theorem dX5_pebbleAt_30 : decode cX5_pebbleAt 30 = .ok (.istore_n 3, 1) := by decide +kernel
theorem dX5_pebbleAt_31 : decode cX5_pebbleAt 31 = .ok (.iload_n 2, 1) := by decide +kernel
theorem dX5_pebbleAt_32 : decode cX5_pebbleAt 32 = .ok (.iload_n 3, 1) := by decide +kernel
theorem dX5_pebbleAt_33 : decode cX5_pebbleAt 33 = .ok (.if_icmp .ge 14, 3) := by decide +kernel
theorem dX5_pebbleAt_36 : decode cX5_pebbleAt 36 = .ok (.aload_n 0, 1) := by decide +kernel
theorem dX5_pebbleAt_37 : decode cX5_pebbleAt 37 = .ok (.getfield 7, 3) := by decide +kernel
theorem dX5_pebbleAt_40 : decode cX5_pebbleAt 40 = .ok (.iload_n 1, 1) := by decide +kernel
theorem dX5_pebbleAt_41 : decode cX5_pebbleAt 41 = .ok (.iload 4, 2) := by decide +kernel
theorem dX5_pebbleAt_43 : decode cX5_pebbleAt 43 = .ok (.invokestatic 47, 3) := by decide +kernel
theorem dX5_pebbleAt_46 : decode cX5_pebbleAt 46 = .ok (.ireturn, 1) := by decide +kernel
theorem dX5_pebbleAt_47 : decode cX5_pebbleAt 47 = .ok (.iinc 4 1, 3) := by decide +kernel
theorem dX5_pebbleAt_50 : decode cX5_pebbleAt 50 = .ok (.goto (-45), 3) := by decide +kernel
theorem dX5_pebbleAt_53 : decode cX5_pebbleAt 53 = .ok (.iconst (-1), 1) := by decide +kernel
theorem dX5_pebbleAt_54 : decode cX5_pebbleAt 54 = .ok (.ireturn, 1) := by decide +kernel
set_option maxRecDepth 20000 in
theorem ggX5_ofCell_X5_pebbleAt : GoodIn wsX5_ofCell wsX5_pebbleAt := goodIn_r _ [6, 1, 7, 8, 5, 9, 10, 11, 12, 25, 26, 27, 28, 29, 30, 31, 32, 33, 34, 35, 36] (by decide +kernel) (by decide +kernel)
set_option maxRecDepth 20000 in
theorem gX5_ofCell_X5_pebbleAt : GoodIn wsX5_ofCell (wsV RX5 155 RX5 yX5_pebbleAt wsX5_pebbleAt) := goodIn_app (goodIn_of _ (by decide +kernel)) ggX5_ofCell_X5_pebbleAt
set_option maxRecDepth 20000 in
theorem ggX5_ofCell_X5_isJoint : GoodIn wsX5_ofCell wsX5_isJoint := goodIn_r _ [15, 7, 8, 5, 9, 10, 11, 12, 16, 17, 18] (by decide +kernel) (by decide +kernel)
set_option maxRecDepth 20000 in
theorem gX5_ofCell_X5_isJoint : GoodIn wsX5_ofCell (va_wsS RX5 60 yX5_isJoint wsX5_isJoint) := goodIn_app (goodIn_of _ (by decide +kernel)) ggX5_ofCell_X5_isJoint
set_option maxRecDepth 20000 in
theorem ggX5_ofCell_X5_meets : GoodIn wsX5_ofCell wsX5_meets := goodIn_r _ [21, 16, 17, 5, 18] (by decide +kernel) (by decide +kernel)
set_option maxRecDepth 20000 in
theorem gX5_ofCell_X5_meets : GoodIn wsX5_ofCell (va_wsS RX5 57 yX5_meets wsX5_meets) := goodIn_app (goodIn_of _ (by decide +kernel)) ggX5_ofCell_X5_meets
set_option maxRecDepth 20000 in
theorem ggX5_ofCell_X5_runs : GoodIn wsX5_ofCell wsX5_runs := goodIn_r _ [24, 19, 20, 5, 21, 16, 17, 18, 13, 14, 15, 7, 8, 9, 10, 11, 12] (by decide +kernel) (by decide +kernel)
set_option maxRecDepth 20000 in
theorem gX5_ofCell_X5_runs : GoodIn wsX5_ofCell (va_wsS RX5 71 yX5_runs wsX5_runs) := goodIn_app (goodIn_of _ (by decide +kernel)) ggX5_ofCell_X5_runs
theorem dX5_ofCell_0 : decode cX5_ofCell 0 = .ok (.iload_n 3, 1) := by decide +kernel
theorem dX5_ofCell_1 : decode cX5_ofCell 1 = .ok (.tableswitch 70 0 2 #[27, 34, 52], 27) := by decide +kernel
theorem dX5_ofCell_28 : decode cX5_ofCell 28 = .ok (.aload_n 0, 1) := by decide +kernel
theorem dX5_ofCell_29 : decode cX5_ofCell 29 = .ok (.iload_n 1, 1) := by decide +kernel
theorem dX5_ofCell_30 : decode cX5_ofCell 30 = .ok (.iload_n 2, 1) := by decide +kernel
theorem dX5_ofCell_31 : decode cX5_ofCell 31 = .ok (.invokevirtual 155, 3) := by decide +kernel
theorem dX5_ofCell_34 : decode cX5_ofCell 34 = .ok (.ireturn, 1) := by decide +kernel
theorem dX5_ofCell_35 : decode cX5_ofCell 35 = .ok (.aload_n 0, 1) := by decide +kernel
theorem dX5_ofCell_36 : decode cX5_ofCell 36 = .ok (.getfield 7, 3) := by decide +kernel
theorem dX5_ofCell_39 : decode cX5_ofCell 39 = .ok (.iload_n 1, 1) := by decide +kernel
theorem dX5_ofCell_40 : decode cX5_ofCell 40 = .ok (.iload_n 2, 1) := by decide +kernel
theorem dX5_ofCell_41 : decode cX5_ofCell 41 = .ok (.invokestatic 60, 3) := by decide +kernel
theorem dX5_ofCell_44 : decode cX5_ofCell 44 = .ok (.ifCond .eq 7, 3) := by decide +kernel
theorem dX5_ofCell_47 : decode cX5_ofCell 47 = .ok (.iconst 1, 1) := by decide +kernel
theorem dX5_ofCell_48 : decode cX5_ofCell 48 = .ok (.goto 4, 3) := by decide +kernel
theorem dX5_ofCell_51 : decode cX5_ofCell 51 = .ok (.iconst 0, 1) := by decide +kernel
theorem dX5_ofCell_52 : decode cX5_ofCell 52 = .ok (.ireturn, 1) := by decide +kernel
theorem dX5_ofCell_53 : decode cX5_ofCell 53 = .ok (.iload_n 1, 1) := by decide +kernel
theorem dX5_ofCell_54 : decode cX5_ofCell 54 = .ok (.ifCond .ne 7, 3) := by decide +kernel
theorem dX5_ofCell_57 : decode cX5_ofCell 57 = .ok (.iconst (-1), 1) := by decide +kernel
theorem dX5_ofCell_58 : decode cX5_ofCell 58 = .ok (.goto 12, 3) := by decide +kernel
theorem dX5_ofCell_61 : decode cX5_ofCell 61 = .ok (.aload_n 0, 1) := by decide +kernel
theorem dX5_ofCell_62 : decode cX5_ofCell 62 = .ok (.getfield 7, 3) := by decide +kernel
theorem dX5_ofCell_65 : decode cX5_ofCell 65 = .ok (.iload_n 1, 1) := by decide +kernel
theorem dX5_ofCell_66 : decode cX5_ofCell 66 = .ok (.iload_n 2, 1) := by decide +kernel
theorem dX5_ofCell_67 : decode cX5_ofCell 67 = .ok (.invokestatic 57, 3) := by decide +kernel
theorem dX5_ofCell_70 : decode cX5_ofCell 70 = .ok (.ireturn, 1) := by decide +kernel
theorem dX5_ofCell_71 : decode cX5_ofCell 71 = .ok (.aload_n 0, 1) := by decide +kernel
theorem dX5_ofCell_72 : decode cX5_ofCell 72 = .ok (.getfield 7, 3) := by decide +kernel
theorem dX5_ofCell_75 : decode cX5_ofCell 75 = .ok (.iload_n 1, 1) := by decide +kernel
theorem dX5_ofCell_76 : decode cX5_ofCell 76 = .ok (.iload_n 2, 1) := by decide +kernel
theorem dX5_ofCell_77 : decode cX5_ofCell 77 = .ok (.invokestatic 71, 3) := by decide +kernel
theorem dX5_ofCell_80 : decode cX5_ofCell 80 = .ok (.ifCond .eq 7, 3) := by decide +kernel
theorem dX5_ofCell_83 : decode cX5_ofCell 83 = .ok (.iconst 1, 1) := by decide +kernel
theorem dX5_ofCell_84 : decode cX5_ofCell 84 = .ok (.goto 4, 3) := by decide +kernel
theorem dX5_ofCell_87 : decode cX5_ofCell 87 = .ok (.iconst 0, 1) := by decide +kernel
theorem dX5_ofCell_88 : decode cX5_ofCell 88 = .ok (.ireturn, 1) := by decide +kernel
set_option maxRecDepth 20000 in
theorem ggX5_cell_X5_isCourse : GoodIn wsX5_cell wsX5_isCourse := goodIn_r _ [6, 7, 8, 5, 9] (by decide +kernel) (by decide +kernel)
set_option maxRecDepth 20000 in
theorem gX5_cell_X5_isCourse : GoodIn wsX5_cell (va_wsS RX5 101 yX5_isCourse wsX5_isCourse) := goodIn_app (goodIn_of _ (by decide +kernel)) ggX5_cell_X5_isCourse
set_option maxRecDepth 20000 in
theorem ggX5_cell_X5_cells : GoodIn wsX5_cell wsX5_cells := goodIn_r _ [12] (by decide +kernel) (by decide +kernel)
set_option maxRecDepth 20000 in
theorem gX5_cell_X5_cells : GoodIn wsX5_cell (va_wsS RX5 54 yX5_cells wsX5_cells) := goodIn_app (goodIn_of _ (by decide +kernel)) ggX5_cell_X5_cells
set_option maxRecDepth 20000 in
theorem ggX5_cell_X5_in : GoodIn wsX5_cell wsX5_in := goodIn_r _ [9] (by decide +kernel) (by decide +kernel)
set_option maxRecDepth 20000 in
theorem gX5_cell_X5_in : GoodIn wsX5_cell (va_wsS RX5 32 yX5_in wsX5_in) := goodIn_app (goodIn_of _ (by decide +kernel)) ggX5_cell_X5_in
set_option maxRecDepth 20000 in
theorem ggX5_cell_X5_fails : GoodIn wsX5_cell wsX5_fails := goodIn_r _ [16, 1, 40, 41, 42, 43, 44, 45, 46, 47, 48, 49, 50, 51] (by decide +kernel) (by decide +kernel)
set_option maxRecDepth 20000 in
theorem gX5_cell_X5_fails : GoodIn wsX5_cell (wsV RX5 39 RX5 yX5_fails wsX5_fails) := goodIn_app (goodIn_of _ (by decide +kernel)) ggX5_cell_X5_fails
set_option maxRecDepth 20000 in
theorem ggX5_cell_X5_ofCell : GoodIn wsX5_cell wsX5_ofCell := goodIn_r _ [20, 2, 21, 22, 23, 5, 24, 25, 26, 27, 28, 29, 30, 31, 32, 33, 10, 11, 12, 34, 35, 36, 37, 38, 39, 40, 41, 42, 43, 44, 45, 46, 47, 48, 49, 50, 51] (by decide +kernel) (by decide +kernel)
set_option maxRecDepth 20000 in
theorem gX5_cell_X5_ofCell : GoodIn wsX5_cell (wsV RX5 158 RX5 yX5_ofCell wsX5_ofCell) := goodIn_app (goodIn_of _ (by decide +kernel)) ggX5_cell_X5_ofCell
theorem dX5_cell_0 : decode cX5_cell 0 = .ok (.aload_n 0, 1) := by decide +kernel
theorem dX5_cell_1 : decode cX5_cell 1 = .ok (.iconst 0, 1) := by decide +kernel
theorem dX5_cell_2 : decode cX5_cell 2 = .ok (.putfield 28, 3) := by decide +kernel
theorem dX5_cell_5 : decode cX5_cell 5 = .ok (.iload_n 1, 1) := by decide +kernel
theorem dX5_cell_6 : decode cX5_cell 6 = .ok (.invokestatic 101, 3) := by decide +kernel
theorem dX5_cell_9 : decode cX5_cell 9 = .ok (.ifCond .eq 21, 3) := by decide +kernel
theorem dX5_cell_12 : decode cX5_cell 12 = .ok (.iload_n 2, 1) := by decide +kernel
theorem dX5_cell_13 : decode cX5_cell 13 = .ok (.iconst 0, 1) := by decide +kernel
theorem dX5_cell_14 : decode cX5_cell 14 = .ok (.aload_n 0, 1) := by decide +kernel
theorem dX5_cell_15 : decode cX5_cell 15 = .ok (.getfield 7, 3) := by decide +kernel
theorem dX5_cell_18 : decode cX5_cell 18 = .ok (.iload_n 1, 1) := by decide +kernel
theorem dX5_cell_19 : decode cX5_cell 19 = .ok (.invokestatic 54, 3) := by decide +kernel
theorem dX5_cell_22 : decode cX5_cell 22 = .ok (.iconst 1, 1) := by decide +kernel
theorem dX5_cell_23 : decode cX5_cell 23 = .ok (.isub, 1) := by decide +kernel
theorem dX5_cell_24 : decode cX5_cell 24 = .ok (.invokestatic 32, 3) := by decide +kernel
theorem dX5_cell_27 : decode cX5_cell 27 = .ok (.ifCond .ne 9, 3) := by decide +kernel
theorem dX5_cell_30 : decode cX5_cell 30 = .ok (.aload_n 0, 1) := by decide +kernel
theorem dX5_cell_31 : decode cX5_cell 31 = .ok (.iconst 1, 1) := by decide +kernel
theorem dX5_cell_32 : decode cX5_cell 32 = .ok (.invokevirtual 39, 3) := by decide +kernel
theorem dX5_cell_35 : decode cX5_cell 35 = .ok (.ireturn, 1) := by decide +kernel
theorem dX5_cell_36 : decode cX5_cell 36 = .ok (.iload_n 3, 1) := by decide +kernel
theorem dX5_cell_37 : decode cX5_cell 37 = .ok (.iconst 0, 1) := by decide +kernel
theorem dX5_cell_38 : decode cX5_cell 38 = .ok (.iconst 3, 1) := by decide +kernel
theorem dX5_cell_39 : decode cX5_cell 39 = .ok (.invokestatic 32, 3) := by decide +kernel
theorem dX5_cell_42 : decode cX5_cell 42 = .ok (.ifCond .eq 13, 3) := by decide +kernel
theorem dX5_cell_45 : decode cX5_cell 45 = .ok (.aload_n 0, 1) := by decide +kernel
theorem dX5_cell_46 : decode cX5_cell 46 = .ok (.iload_n 1, 1) := by decide +kernel
theorem dX5_cell_47 : decode cX5_cell 47 = .ok (.iload_n 2, 1) := by decide +kernel
theorem dX5_cell_48 : decode cX5_cell 48 = .ok (.iload_n 3, 1) := by decide +kernel
theorem dX5_cell_49 : decode cX5_cell 49 = .ok (.invokevirtual 158, 3) := by decide +kernel
theorem dX5_cell_52 : decode cX5_cell 52 = .ok (.goto 8, 3) := by decide +kernel
theorem dX5_cell_55 : decode cX5_cell 55 = .ok (.aload_n 0, 1) := by decide +kernel
theorem dX5_cell_56 : decode cX5_cell 56 = .ok (.iconst 2, 1) := by decide +kernel
theorem dX5_cell_57 : decode cX5_cell 57 = .ok (.invokevirtual 39, 3) := by decide +kernel
theorem dX5_cell_60 : decode cX5_cell 60 = .ok (.ireturn, 1) := by decide +kernel
set_option maxRecDepth 20000 in
theorem ggX5_refusal_X5_isCourse : GoodIn wsX5_refusal wsX5_isCourse := goodIn_r _ [6, 7, 8, 5, 9] (by decide +kernel) (by decide +kernel)
set_option maxRecDepth 20000 in
theorem gX5_refusal_X5_isCourse : GoodIn wsX5_refusal (va_wsS RX5 101 yX5_isCourse wsX5_isCourse) := goodIn_app (goodIn_of _ (by decide +kernel)) ggX5_refusal_X5_isCourse
set_option maxRecDepth 20000 in
theorem ggX5_refusal_X5_fails : GoodIn wsX5_refusal wsX5_fails := goodIn_r _ [13, 1, 47, 48, 49, 50, 51, 52, 53, 54, 55, 56, 57, 58] (by decide +kernel) (by decide +kernel)
set_option maxRecDepth 20000 in
theorem gX5_refusal_X5_fails : GoodIn wsX5_refusal (wsV RX5 39 RX5 yX5_fails wsX5_fails) := goodIn_app (goodIn_of _ (by decide +kernel)) ggX5_refusal_X5_fails
set_option maxRecDepth 20000 in
theorem ggX5_refusal_X5_isSize : GoodIn wsX5_refusal wsX5_isSize := goodIn_r _ [16, 7, 8, 5, 9] (by decide +kernel) (by decide +kernel)
set_option maxRecDepth 20000 in
theorem gX5_refusal_X5_isSize : GoodIn wsX5_refusal (va_wsS RX5 94 yX5_isSize wsX5_isSize) := goodIn_app (goodIn_of _ (by decide +kernel)) ggX5_refusal_X5_isSize
set_option maxRecDepth 20000 in
theorem ggX5_refusal_X5_refused : GoodIn wsX5_refusal wsX5_refused := goodIn_r _ [19, 20, 21, 5, 22, 23, 24, 25, 26, 27, 28, 29, 30, 31, 32, 33, 34, 35, 36, 37, 38, 39, 40, 41, 42, 43, 44, 45, 46] (by decide +kernel) (by decide +kernel)
set_option maxRecDepth 20000 in
theorem gX5_refusal_X5_refused : GoodIn wsX5_refusal (va_wsS RX5 74 yX5_refused wsX5_refused) := goodIn_app (goodIn_of _ (by decide +kernel)) ggX5_refusal_X5_refused
theorem dX5_refusal_0 : decode cX5_refusal 0 = .ok (.aload_n 0, 1) := by decide +kernel
theorem dX5_refusal_1 : decode cX5_refusal 1 = .ok (.iconst 0, 1) := by decide +kernel
theorem dX5_refusal_2 : decode cX5_refusal 2 = .ok (.putfield 28, 3) := by decide +kernel
theorem dX5_refusal_5 : decode cX5_refusal 5 = .ok (.iload_n 1, 1) := by decide +kernel
theorem dX5_refusal_6 : decode cX5_refusal 6 = .ok (.invokestatic 101, 3) := by decide +kernel
theorem dX5_refusal_9 : decode cX5_refusal 9 = .ok (.ifCond .ne 9, 3) := by decide +kernel
theorem dX5_refusal_12 : decode cX5_refusal 12 = .ok (.aload_n 0, 1) := by decide +kernel
theorem dX5_refusal_13 : decode cX5_refusal 13 = .ok (.iconst 1, 1) := by decide +kernel
theorem dX5_refusal_14 : decode cX5_refusal 14 = .ok (.invokevirtual 39, 3) := by decide +kernel
theorem dX5_refusal_17 : decode cX5_refusal 17 = .ok (.ireturn, 1) := by decide +kernel
theorem dX5_refusal_18 : decode cX5_refusal 18 = .ok (.iload_n 2, 1) := by decide +kernel
theorem dX5_refusal_19 : decode cX5_refusal 19 = .ok (.invokestatic 94, 3) := by decide +kernel
theorem dX5_refusal_22 : decode cX5_refusal 22 = .ok (.ifCond .eq 16, 3) := by decide +kernel
theorem dX5_refusal_25 : decode cX5_refusal 25 = .ok (.aload_n 0, 1) := by decide +kernel
theorem dX5_refusal_26 : decode cX5_refusal 26 = .ok (.getfield 7, 3) := by decide +kernel
theorem dX5_refusal_29 : decode cX5_refusal 29 = .ok (.iload_n 1, 1) := by decide +kernel
theorem dX5_refusal_30 : decode cX5_refusal 30 = .ok (.iload_n 2, 1) := by decide +kernel
theorem dX5_refusal_31 : decode cX5_refusal 31 = .ok (.iload_n 3, 1) := by decide +kernel
theorem dX5_refusal_32 : decode cX5_refusal 32 = .ok (.invokestatic 74, 3) := by decide +kernel
theorem dX5_refusal_35 : decode cX5_refusal 35 = .ok (.goto 8, 3) := by decide +kernel
theorem dX5_refusal_38 : decode cX5_refusal 38 = .ok (.aload_n 0, 1) := by decide +kernel
theorem dX5_refusal_39 : decode cX5_refusal 39 = .ok (.iconst 2, 1) := by decide +kernel
theorem dX5_refusal_40 : decode cX5_refusal 40 = .ok (.invokevirtual 39, 3) := by decide +kernel
theorem dX5_refusal_43 : decode cX5_refusal 43 = .ok (.ireturn, 1) := by decide +kernel
set_option maxRecDepth 20000 in
theorem ggX5_stockOf_X5_isSize : GoodIn wsX5_stockOf wsX5_isSize := goodIn_r _ [6, 7, 8, 5, 9] (by decide +kernel) (by decide +kernel)
set_option maxRecDepth 20000 in
theorem gX5_stockOf_X5_isSize : GoodIn wsX5_stockOf (va_wsS RX5 94 yX5_isSize wsX5_isSize) := goodIn_app (goodIn_of _ (by decide +kernel)) ggX5_stockOf_X5_isSize
set_option maxRecDepth 20000 in
theorem ggX5_stockOf_X5_fails : GoodIn wsX5_stockOf wsX5_fails := goodIn_r _ [13, 1, 14, 15, 16, 17, 18, 19, 20, 21, 22, 23, 24, 25] (by decide +kernel) (by decide +kernel)
set_option maxRecDepth 20000 in
theorem gX5_stockOf_X5_fails : GoodIn wsX5_stockOf (wsV RX5 39 RX5 yX5_fails wsX5_fails) := goodIn_app (goodIn_of _ (by decide +kernel)) ggX5_stockOf_X5_fails
theorem dX5_stockOf_0 : decode cX5_stockOf 0 = .ok (.aload_n 0, 1) := by decide +kernel
theorem dX5_stockOf_1 : decode cX5_stockOf 1 = .ok (.iconst 0, 1) := by decide +kernel
theorem dX5_stockOf_2 : decode cX5_stockOf 2 = .ok (.putfield 28, 3) := by decide +kernel
theorem dX5_stockOf_5 : decode cX5_stockOf 5 = .ok (.iload_n 1, 1) := by decide +kernel
theorem dX5_stockOf_6 : decode cX5_stockOf 6 = .ok (.invokestatic 94, 3) := by decide +kernel
theorem dX5_stockOf_9 : decode cX5_stockOf 9 = .ok (.ifCond .eq 14, 3) := by decide +kernel
theorem dX5_stockOf_12 : decode cX5_stockOf 12 = .ok (.aload_n 0, 1) := by decide +kernel
theorem dX5_stockOf_13 : decode cX5_stockOf 13 = .ok (.getfield 7, 3) := by decide +kernel
theorem dX5_stockOf_16 : decode cX5_stockOf 16 = .ok (.iconst 3, 1) := by decide +kernel
theorem dX5_stockOf_17 : decode cX5_stockOf 17 = .ok (.iload_n 1, 1) := by decide +kernel
theorem dX5_stockOf_18 : decode cX5_stockOf 18 = .ok (.iadd, 1) := by decide +kernel
theorem dX5_stockOf_19 : decode cX5_stockOf 19 = .ok (.iaload, 1) := by decide +kernel
theorem dX5_stockOf_20 : decode cX5_stockOf 20 = .ok (.goto 8, 3) := by decide +kernel
theorem dX5_stockOf_23 : decode cX5_stockOf 23 = .ok (.aload_n 0, 1) := by decide +kernel
theorem dX5_stockOf_24 : decode cX5_stockOf 24 = .ok (.iconst 1, 1) := by decide +kernel
theorem dX5_stockOf_25 : decode cX5_stockOf 25 = .ok (.invokevirtual 39, 3) := by decide +kernel
theorem dX5_stockOf_28 : decode cX5_stockOf 28 = .ok (.ireturn, 1) := by decide +kernel
set_option maxRecDepth 20000 in
theorem ggX5_counted_X5_all : GoodIn wsX5_counted wsX5_all := goodIn_r _ [6, 7, 8, 5, 9] (by decide +kernel) (by decide +kernel)
set_option maxRecDepth 20000 in
theorem gX5_counted_X5_all : GoodIn wsX5_counted (va_wsS RX5 111 yX5_all wsX5_all) := goodIn_app (goodIn_of _ (by decide +kernel)) ggX5_counted_X5_all
set_option maxRecDepth 20000 in
theorem ggX5_counted_X5_closed : GoodIn wsX5_counted wsX5_closed := goodIn_r _ [12, 13, 14, 5, 15, 16, 17, 18, 7, 8, 9, 19, 20, 21, 22, 23, 24] (by decide +kernel) (by decide +kernel)
set_option maxRecDepth 20000 in
theorem gX5_counted_X5_closed : GoodIn wsX5_counted (va_wsS RX5 90 yX5_closed wsX5_closed) := goodIn_app (goodIn_of _ (by decide +kernel)) ggX5_counted_X5_closed
set_option maxRecDepth 20000 in
theorem ggX5_counted_X5_joints : GoodIn wsX5_counted wsX5_joints := goodIn_r _ [27, 7, 8, 5, 9, 13, 14, 15, 16, 17, 18, 19, 20, 21, 22, 23, 24] (by decide +kernel) (by decide +kernel)
set_option maxRecDepth 20000 in
theorem gX5_counted_X5_joints : GoodIn wsX5_counted (va_wsS RX5 141 yX5_joints wsX5_joints) := goodIn_app (goodIn_of _ (by decide +kernel)) ggX5_counted_X5_joints
set_option maxRecDepth 20000 in
theorem ggX5_counted_X5_meeting : GoodIn wsX5_counted wsX5_meeting := goodIn_r _ [30, 22, 23, 5, 24, 31, 32, 33, 7, 8, 9, 19, 20, 21, 34, 35, 36, 37, 38, 39] (by decide +kernel) (by decide +kernel)
set_option maxRecDepth 20000 in
theorem gX5_counted_X5_meeting : GoodIn wsX5_counted (va_wsS RX5 144 yX5_meeting wsX5_meeting) := goodIn_app (goodIn_of _ (by decide +kernel)) ggX5_counted_X5_meeting
set_option maxRecDepth 20000 in
theorem ggX5_counted_X5_fillers : GoodIn wsX5_counted wsX5_fillers := goodIn_r _ [43, 1, 7, 8, 5, 9, 44, 45, 46, 47, 48, 49, 50, 51, 52, 53, 54, 55] (by decide +kernel) (by decide +kernel)
set_option maxRecDepth 20000 in
theorem gX5_counted_X5_fillers : GoodIn wsX5_counted (wsV RX5 148 RX5 yX5_fillers wsX5_fillers) := goodIn_app (goodIn_of _ (by decide +kernel)) ggX5_counted_X5_fillers
theorem dX5_counted_0 : decode cX5_counted 0 = .ok (.iload_n 1, 1) := by decide +kernel
theorem dX5_counted_1 : decode cX5_counted 1 = .ok (.ifCond .eq 8, 3) := by decide +kernel
theorem dX5_counted_4 : decode cX5_counted 4 = .ok (.iload_n 1, 1) := by decide +kernel
theorem dX5_counted_5 : decode cX5_counted 5 = .ok (.iconst 1, 1) := by decide +kernel
theorem dX5_counted_6 : decode cX5_counted 6 = .ok (.if_icmp .ne 25, 3) := by decide +kernel
theorem dX5_counted_9 : decode cX5_counted 9 = .ok (.iload_n 1, 1) := by decide +kernel
theorem dX5_counted_10 : decode cX5_counted 10 = .ok (.ifCond .ne 13, 3) := by decide +kernel
theorem dX5_counted_13 : decode cX5_counted 13 = .ok (.aload_n 0, 1) := by decide +kernel
theorem dX5_counted_14 : decode cX5_counted 14 = .ok (.getfield 7, 3) := by decide +kernel
theorem dX5_counted_17 : decode cX5_counted 17 = .ok (.invokestatic 111, 3) := by decide +kernel
theorem dX5_counted_20 : decode cX5_counted 20 = .ok (.goto 10, 3) := by decide +kernel
theorem dX5_counted_23 : decode cX5_counted 23 = .ok (.aload_n 0, 1) := by decide +kernel
theorem dX5_counted_24 : decode cX5_counted 24 = .ok (.getfield 7, 3) := by decide +kernel
theorem dX5_counted_27 : decode cX5_counted 27 = .ok (.invokestatic 90, 3) := by decide +kernel
theorem dX5_counted_30 : decode cX5_counted 30 = .ok (.ireturn, 1) := by decide +kernel
theorem dX5_counted_31 : decode cX5_counted 31 = .ok (.iload_n 1, 1) := by decide +kernel
theorem dX5_counted_32 : decode cX5_counted 32 = .ok (.iconst 5, 1) := by decide +kernel
theorem dX5_counted_33 : decode cX5_counted 33 = .ok (.if_icmp .eq 9, 3) := by decide +kernel
theorem dX5_counted_36 : decode cX5_counted 36 = .ok (.iload_n 1, 1) := by decide +kernel
theorem dX5_counted_37 : decode cX5_counted 37 = .ok (.bipush 7, 2) := by decide +kernel
theorem dX5_counted_39 : decode cX5_counted 39 = .ok (.if_icmp .ne 22, 3) := by decide +kernel
theorem dX5_counted_42 : decode cX5_counted 42 = .ok (.iload_n 1, 1) := by decide +kernel
theorem dX5_counted_43 : decode cX5_counted 43 = .ok (.iconst 5, 1) := by decide +kernel
theorem dX5_counted_44 : decode cX5_counted 44 = .ok (.if_icmp .ne 12, 3) := by decide +kernel
theorem dX5_counted_47 : decode cX5_counted 47 = .ok (.aload_n 0, 1) := by decide +kernel
theorem dX5_counted_48 : decode cX5_counted 48 = .ok (.getfield 7, 3) := by decide +kernel
theorem dX5_counted_51 : decode cX5_counted 51 = .ok (.iconst 3, 1) := by decide +kernel
theorem dX5_counted_52 : decode cX5_counted 52 = .ok (.iaload, 1) := by decide +kernel
theorem dX5_counted_53 : decode cX5_counted 53 = .ok (.goto 7, 3) := by decide +kernel
theorem dX5_counted_56 : decode cX5_counted 56 = .ok (.aload_n 0, 1) := by decide +kernel
theorem dX5_counted_57 : decode cX5_counted 57 = .ok (.getfield 36, 3) := by decide +kernel
theorem dX5_counted_60 : decode cX5_counted 60 = .ok (.ireturn, 1) := by decide +kernel
theorem dX5_counted_61 : decode cX5_counted 61 = .ok (.iconst 0, 1) := by decide +kernel
theorem dX5_counted_62 : decode cX5_counted 62 = .ok (.istore_n 2, 1) := by decide +kernel
theorem dX5_counted_63 : decode cX5_counted 63 = .ok (.iconst 0, 1) := by decide +kernel
theorem dX5_counted_64 : decode cX5_counted 64 = .ok (.istore_n 3, 1) := by decide +kernel
theorem dX5_counted_65 : decode cX5_counted 65 = .ok (.iload_n 3, 1) := by decide +kernel
theorem dX5_counted_66 : decode cX5_counted 66 = .ok (.bipush 6, 2) := by decide +kernel
theorem dX5_counted_68 : decode cX5_counted 68 = .ok (.if_icmp .ge 70, 3) := by decide +kernel
theorem dX5_counted_71 : decode cX5_counted 71 = .ok (.iload_n 2, 1) := by decide +kernel
theorem dX5_counted_72 : decode cX5_counted 72 = .ok (.iload_n 1, 1) := by decide +kernel
theorem dX5_counted_73 : decode cX5_counted 73 = .ok (.iconst 2, 1) := by decide +kernel
theorem dX5_counted_74 : decode cX5_counted 74 = .ok (.if_icmp .ne 14, 3) := by decide +kernel
theorem dX5_counted_77 : decode cX5_counted 77 = .ok (.aload_n 0, 1) := by decide +kernel
theorem dX5_counted_78 : decode cX5_counted 78 = .ok (.getfield 7, 3) := by decide +kernel
theorem dX5_counted_81 : decode cX5_counted 81 = .ok (.iload_n 3, 1) := by decide +kernel
theorem dX5_counted_82 : decode cX5_counted 82 = .ok (.invokestatic 141, 3) := by decide +kernel
theorem dX5_counted_85 : decode cX5_counted 85 = .ok (.goto 45, 3) := by decide +kernel
theorem dX5_counted_88 : decode cX5_counted 88 = .ok (.iload_n 1, 1) := by decide +kernel
theorem dX5_counted_89 : decode cX5_counted 89 = .ok (.iconst 3, 1) := by decide +kernel
theorem dX5_counted_90 : decode cX5_counted 90 = .ok (.if_icmp .ne 15, 3) := by decide +kernel
theorem dX5_counted_93 : decode cX5_counted 93 = .ok (.aload_n 0, 1) := by decide +kernel
theorem dX5_counted_94 : decode cX5_counted 94 = .ok (.getfield 7, 3) := by decide +kernel
theorem dX5_counted_97 : decode cX5_counted 97 = .ok (.iload_n 3, 1) := by decide +kernel
theorem dX5_counted_98 : decode cX5_counted 98 = .ok (.iconst 1, 1) := by decide +kernel
theorem dX5_counted_99 : decode cX5_counted 99 = .ok (.invokestatic 144, 3) := by decide +kernel
theorem dX5_counted_102 : decode cX5_counted 102 = .ok (.goto 28, 3) := by decide +kernel
theorem dX5_counted_105 : decode cX5_counted 105 = .ok (.iload_n 1, 1) := by decide +kernel
theorem dX5_counted_106 : decode cX5_counted 106 = .ok (.iconst 4, 1) := by decide +kernel
theorem dX5_counted_107 : decode cX5_counted 107 = .ok (.if_icmp .ne 11, 3) := by decide +kernel
theorem dX5_counted_110 : decode cX5_counted 110 = .ok (.aload_n 0, 1) := by decide +kernel
theorem dX5_counted_111 : decode cX5_counted 111 = .ok (.iload_n 3, 1) := by decide +kernel
theorem dX5_counted_112 : decode cX5_counted 112 = .ok (.invokevirtual 148, 3) := by decide +kernel
theorem dX5_counted_115 : decode cX5_counted 115 = .ok (.goto 15, 3) := by decide +kernel
theorem dX5_counted_118 : decode cX5_counted 118 = .ok (.iload_n 3, 1) := by decide +kernel
theorem dX5_counted_119 : decode cX5_counted 119 = .ok (.iconst 1, 1) := by decide +kernel
theorem dX5_counted_120 : decode cX5_counted 120 = .ok (.iadd, 1) := by decide +kernel
theorem dX5_counted_121 : decode cX5_counted 121 = .ok (.aload_n 0, 1) := by decide +kernel
theorem dX5_counted_122 : decode cX5_counted 122 = .ok (.getfield 7, 3) := by decide +kernel
theorem dX5_counted_125 : decode cX5_counted 125 = .ok (.iconst 4, 1) := by decide +kernel
theorem dX5_counted_126 : decode cX5_counted 126 = .ok (.iload_n 3, 1) := by decide +kernel
theorem dX5_counted_127 : decode cX5_counted 127 = .ok (.iadd, 1) := by decide +kernel
theorem dX5_counted_128 : decode cX5_counted 128 = .ok (.iaload, 1) := by decide +kernel
theorem dX5_counted_129 : decode cX5_counted 129 = .ok (.imul, 1) := by decide +kernel
theorem dX5_counted_130 : decode cX5_counted 130 = .ok (.iadd, 1) := by decide +kernel
theorem dX5_counted_131 : decode cX5_counted 131 = .ok (.istore_n 2, 1) := by decide +kernel
theorem dX5_counted_132 : decode cX5_counted 132 = .ok (.iinc 3 1, 3) := by decide +kernel
theorem dX5_counted_135 : decode cX5_counted 135 = .ok (.goto (-70), 3) := by decide +kernel
theorem dX5_counted_138 : decode cX5_counted 138 = .ok (.iload_n 2, 1) := by decide +kernel
theorem dX5_counted_139 : decode cX5_counted 139 = .ok (.ireturn, 1) := by decide +kernel
set_option maxRecDepth 20000 in
theorem ggX5_count_X5_in : GoodIn wsX5_count wsX5_in := goodIn_r _ [5] (by decide +kernel) (by decide +kernel)
set_option maxRecDepth 20000 in
theorem gX5_count_X5_in : GoodIn wsX5_count (va_wsS RX5 32 yX5_in wsX5_in) := goodIn_app (goodIn_of _ (by decide +kernel)) ggX5_count_X5_in
set_option maxRecDepth 20000 in
theorem ggX5_count_X5_counted : GoodIn wsX5_count wsX5_counted := goodIn_r _ [9, 10, 11, 12, 13, 4, 14, 15, 16, 17, 18, 19, 20, 21, 22, 23, 24, 25, 26, 27, 28, 29, 30, 31, 32, 33, 34, 35, 36, 37, 38, 39, 40, 41, 42, 43, 44, 45, 46, 47, 48, 49, 50, 51, 56, 57, 58, 59, 60, 61, 62, 63, 64, 65, 66, 67] (by decide +kernel) (by decide +kernel)
set_option maxRecDepth 20000 in
theorem gX5_count_X5_counted : GoodIn wsX5_count (wsV RX5 162 RX5 yX5_counted wsX5_counted) := goodIn_app (goodIn_of _ (by decide +kernel)) ggX5_count_X5_counted
set_option maxRecDepth 20000 in
theorem ggX5_count_X5_fails : GoodIn wsX5_count wsX5_fails := goodIn_r _ [55, 1, 56, 57, 58, 59, 60, 61, 62, 63, 64, 65, 66, 67] (by decide +kernel) (by decide +kernel)
set_option maxRecDepth 20000 in
theorem gX5_count_X5_fails : GoodIn wsX5_count (wsV RX5 39 RX5 yX5_fails wsX5_fails) := goodIn_app (goodIn_of _ (by decide +kernel)) ggX5_count_X5_fails
theorem dX5_count_0 : decode cX5_count 0 = .ok (.aload_n 0, 1) := by decide +kernel
theorem dX5_count_1 : decode cX5_count 1 = .ok (.iconst 0, 1) := by decide +kernel
theorem dX5_count_2 : decode cX5_count 2 = .ok (.putfield 28, 3) := by decide +kernel
theorem dX5_count_5 : decode cX5_count 5 = .ok (.iload_n 1, 1) := by decide +kernel
theorem dX5_count_6 : decode cX5_count 6 = .ok (.iconst 0, 1) := by decide +kernel
theorem dX5_count_7 : decode cX5_count 7 = .ok (.bipush 7, 2) := by decide +kernel
theorem dX5_count_9 : decode cX5_count 9 = .ok (.invokestatic 32, 3) := by decide +kernel
theorem dX5_count_12 : decode cX5_count 12 = .ok (.ifCond .eq 11, 3) := by decide +kernel
theorem dX5_count_15 : decode cX5_count 15 = .ok (.aload_n 0, 1) := by decide +kernel
theorem dX5_count_16 : decode cX5_count 16 = .ok (.iload_n 1, 1) := by decide +kernel
theorem dX5_count_17 : decode cX5_count 17 = .ok (.invokevirtual 162, 3) := by decide +kernel
theorem dX5_count_20 : decode cX5_count 20 = .ok (.goto 8, 3) := by decide +kernel
theorem dX5_count_23 : decode cX5_count 23 = .ok (.aload_n 0, 1) := by decide +kernel
theorem dX5_count_24 : decode cX5_count 24 = .ok (.iconst 1, 1) := by decide +kernel
theorem dX5_count_25 : decode cX5_count 25 = .ok (.invokevirtual 39, 3) := by decide +kernel
theorem dX5_count_28 : decode cX5_count 28 = .ok (.ireturn, 1) := by decide +kernel
set_option maxRecDepth 20000 in
theorem ggX5_setting_X5_in : GoodIn wsX5_setting wsX5_in := goodIn_r _ [6] (by decide +kernel) (by decide +kernel)
set_option maxRecDepth 20000 in
theorem gX5_setting_X5_in : GoodIn wsX5_setting (va_wsS RX5 32 yX5_in wsX5_in) := goodIn_app (goodIn_of _ (by decide +kernel)) ggX5_setting_X5_in
set_option maxRecDepth 20000 in
theorem ggX5_setting_X5_fails : GoodIn wsX5_setting wsX5_fails := goodIn_r _ [10, 1, 11, 12, 13, 14, 15, 16, 17, 18, 19, 20, 21, 22] (by decide +kernel) (by decide +kernel)
set_option maxRecDepth 20000 in
theorem gX5_setting_X5_fails : GoodIn wsX5_setting (wsV RX5 39 RX5 yX5_fails wsX5_fails) := goodIn_app (goodIn_of _ (by decide +kernel)) ggX5_setting_X5_fails
theorem dX5_setting_0 : decode cX5_setting 0 = .ok (.aload_n 0, 1) := by decide +kernel
theorem dX5_setting_1 : decode cX5_setting 1 = .ok (.iconst 0, 1) := by decide +kernel
theorem dX5_setting_2 : decode cX5_setting 2 = .ok (.putfield 28, 3) := by decide +kernel
theorem dX5_setting_5 : decode cX5_setting 5 = .ok (.iload_n 1, 1) := by decide +kernel
theorem dX5_setting_6 : decode cX5_setting 6 = .ok (.iconst 0, 1) := by decide +kernel
theorem dX5_setting_7 : decode cX5_setting 7 = .ok (.iconst 2, 1) := by decide +kernel
theorem dX5_setting_8 : decode cX5_setting 8 = .ok (.invokestatic 32, 3) := by decide +kernel
theorem dX5_setting_11 : decode cX5_setting 11 = .ok (.ifCond .eq 12, 3) := by decide +kernel
theorem dX5_setting_14 : decode cX5_setting 14 = .ok (.aload_n 0, 1) := by decide +kernel
theorem dX5_setting_15 : decode cX5_setting 15 = .ok (.getfield 7, 3) := by decide +kernel
theorem dX5_setting_18 : decode cX5_setting 18 = .ok (.iload_n 1, 1) := by decide +kernel
theorem dX5_setting_19 : decode cX5_setting 19 = .ok (.iaload, 1) := by decide +kernel
theorem dX5_setting_20 : decode cX5_setting 20 = .ok (.goto 8, 3) := by decide +kernel
theorem dX5_setting_23 : decode cX5_setting 23 = .ok (.aload_n 0, 1) := by decide +kernel
theorem dX5_setting_24 : decode cX5_setting 24 = .ok (.iconst 1, 1) := by decide +kernel
theorem dX5_setting_25 : decode cX5_setting 25 = .ok (.invokevirtual 39, 3) := by decide +kernel
theorem dX5_setting_28 : decode cX5_setting 28 = .ok (.ireturn, 1) := by decide +kernel
set_option maxRecDepth 20000 in
theorem ggX5_closes_X5_cells : GoodIn wsX5_closes wsX5_cells := goodIn_r _ [6] (by decide +kernel) (by decide +kernel)
set_option maxRecDepth 20000 in
theorem gX5_closes_X5_cells : GoodIn wsX5_closes (va_wsS RX5 54 yX5_cells wsX5_cells) := goodIn_app (goodIn_of _ (by decide +kernel)) ggX5_closes_X5_cells
set_option maxRecDepth 20000 in
theorem ggX5_closes_X5_taken : GoodIn wsX5_closes wsX5_taken := goodIn_r _ [9, 10, 11, 5, 12, 13, 14, 15] (by decide +kernel) (by decide +kernel)
set_option maxRecDepth 20000 in
theorem gX5_closes_X5_taken : GoodIn wsX5_closes (va_wsS RX5 51 yX5_taken wsX5_taken) := goodIn_app (goodIn_of _ (by decide +kernel)) ggX5_closes_X5_taken
set_option maxRecDepth 20000 in
theorem ggX5_closes_X5_runs : GoodIn wsX5_closes wsX5_runs := goodIn_r _ [18, 19, 20, 5, 21, 3, 4, 6, 22, 23, 24, 10, 11, 12, 13, 14, 15] (by decide +kernel) (by decide +kernel)
set_option maxRecDepth 20000 in
theorem gX5_closes_X5_runs : GoodIn wsX5_closes (va_wsS RX5 71 yX5_runs wsX5_runs) := goodIn_app (goodIn_of _ (by decide +kernel)) ggX5_closes_X5_runs
theorem dX5_closes_0 : decode cX5_closes 0 = .ok (.aload_n 0, 1) := by decide +kernel
theorem dX5_closes_1 : decode cX5_closes 1 = .ok (.getfield 7, 3) := by decide +kernel
theorem dX5_closes_4 : decode cX5_closes 4 = .ok (.iload_n 1, 1) := by decide +kernel
theorem dX5_closes_5 : decode cX5_closes 5 = .ok (.invokestatic 54, 3) := by decide +kernel
theorem dX5_closes_8 : decode cX5_closes 8 = .ok (.istore_n 3, 1) := by decide +kernel
theorem dX5_closes_9 : decode cX5_closes 9 = .ok (.aload_n 0, 1) := by decide +kernel
theorem dX5_closes_10 : decode cX5_closes 10 = .ok (.getfield 7, 3) := by decide +kernel
theorem dX5_closes_13 : decode cX5_closes 13 = .ok (.iload_n 1, 1) := by decide +kernel
theorem dX5_closes_14 : decode cX5_closes 14 = .ok (.invokestatic 51, 3) := by decide +kernel
theorem dX5_closes_17 : decode cX5_closes 17 = .ok (.istore 4, 2) := by decide +kernel
theorem dX5_closes_19 : decode cX5_closes 19 = .ok (.iconst (-1), 1) := by decide +kernel
theorem dX5_closes_20 : decode cX5_closes 20 = .ok (.istore 5, 2) := by decide +kernel
theorem dX5_closes_22 : decode cX5_closes 22 = .ok (.aload_n 0, 1) := by decide +kernel
theorem dX5_closes_23 : decode cX5_closes 23 = .ok (.getfield 25, 3) := by decide +kernel
theorem dX5_closes_26 : decode cX5_closes 26 = .ok (.iload_n 3, 1) := by decide +kernel
theorem dX5_closes_27 : decode cX5_closes 27 = .ok (.iconst 0, 1) := by decide +kernel
theorem dX5_closes_28 : decode cX5_closes 28 = .ok (.iastore, 1) := by decide +kernel
theorem dX5_closes_29 : decode cX5_closes 29 = .ok (.iload_n 3, 1) := by decide +kernel
theorem dX5_closes_30 : decode cX5_closes 30 = .ok (.iconst 1, 1) := by decide +kernel
theorem dX5_closes_31 : decode cX5_closes 31 = .ok (.isub, 1) := by decide +kernel
theorem dX5_closes_32 : decode cX5_closes 32 = .ok (.istore 6, 2) := by decide +kernel
theorem dX5_closes_34 : decode cX5_closes 34 = .ok (.iload 6, 2) := by decide +kernel
theorem dX5_closes_36 : decode cX5_closes 36 = .ok (.iload 4, 2) := by decide +kernel
theorem dX5_closes_38 : decode cX5_closes 38 = .ok (.if_icmp .lt 152, 3) := by decide +kernel
theorem dX5_closes_41 : decode cX5_closes 41 = .ok (.aload_n 0, 1) := by decide +kernel
theorem dX5_closes_42 : decode cX5_closes 42 = .ok (.getfield 25, 3) := by decide +kernel
theorem dX5_closes_45 : decode cX5_closes 45 = .ok (.iload 6, 2) := by decide +kernel
theorem dX5_closes_47 : decode cX5_closes 47 = .ok (.iconst (-1), 1) := by decide +kernel
theorem dX5_closes_48 : decode cX5_closes 48 = .ok (.iastore, 1) := by decide +kernel
theorem dX5_closes_49 : decode cX5_closes 49 = .ok (.iconst (-1), 1) := by decide +kernel
theorem dX5_closes_50 : decode cX5_closes 50 = .ok (.istore 5, 2) := by decide +kernel
theorem dX5_closes_52 : decode cX5_closes 52 = .ok (.iconst 1, 1) := by decide +kernel
theorem dX5_closes_53 : decode cX5_closes 53 = .ok (.istore 7, 2) := by decide +kernel
theorem dX5_closes_55 : decode cX5_closes 55 = .ok (.iload 7, 2) := by decide +kernel
theorem dX5_closes_57 : decode cX5_closes 57 = .ok (.bipush 6, 2) := by decide +kernel
theorem dX5_closes_59 : decode cX5_closes 59 = .ok (.if_icmp .gt 125, 3) := by decide +kernel
theorem dX5_closes_62 : decode cX5_closes 62 = .ok (.iload 6, 2) := by decide +kernel
theorem dX5_closes_64 : decode cX5_closes 64 = .ok (.iload 7, 2) := by decide +kernel
theorem dX5_closes_66 : decode cX5_closes 66 = .ok (.iadd, 1) := by decide +kernel
theorem dX5_closes_67 : decode cX5_closes 67 = .ok (.iload_n 3, 1) := by decide +kernel
theorem dX5_closes_68 : decode cX5_closes 68 = .ok (.if_icmp .gt 116, 3) := by decide +kernel
theorem dX5_closes_71 : decode cX5_closes 71 = .ok (.aload_n 0, 1) := by decide +kernel
theorem dX5_closes_72 : decode cX5_closes 72 = .ok (.getfield 25, 3) := by decide +kernel
theorem dX5_closes_75 : decode cX5_closes 75 = .ok (.iload 6, 2) := by decide +kernel
theorem dX5_closes_77 : decode cX5_closes 77 = .ok (.iload 7, 2) := by decide +kernel
theorem dX5_closes_79 : decode cX5_closes 79 = .ok (.iadd, 1) := by decide +kernel
theorem dX5_closes_80 : decode cX5_closes 80 = .ok (.iaload, 1) := by decide +kernel
theorem dX5_closes_81 : decode cX5_closes 81 = .ok (.iconst (-1), 1) := by decide +kernel
theorem dX5_closes_82 : decode cX5_closes 82 = .ok (.if_icmp .eq 32, 3) := by decide +kernel
theorem dX5_closes_85 : decode cX5_closes 85 = .ok (.iload 6, 2) := by decide +kernel
theorem dX5_closes_87 : decode cX5_closes 87 = .ok (.iload 7, 2) := by decide +kernel
theorem dX5_closes_89 : decode cX5_closes 89 = .ok (.iadd, 1) := by decide +kernel
theorem dX5_closes_90 : decode cX5_closes 90 = .ok (.iload_n 3, 1) := by decide +kernel
theorem dX5_closes_91 : decode cX5_closes 91 = .ok (.if_icmp .eq 19, 3) := by decide +kernel
theorem dX5_closes_94 : decode cX5_closes 94 = .ok (.aload_n 0, 1) := by decide +kernel
theorem dX5_closes_95 : decode cX5_closes 95 = .ok (.getfield 7, 3) := by decide +kernel
theorem dX5_closes_98 : decode cX5_closes 98 = .ok (.iload_n 1, 1) := by decide +kernel
theorem dX5_closes_99 : decode cX5_closes 99 = .ok (.iload 6, 2) := by decide +kernel
theorem dX5_closes_101 : decode cX5_closes 101 = .ok (.iload 7, 2) := by decide +kernel
theorem dX5_closes_103 : decode cX5_closes 103 = .ok (.iadd, 1) := by decide +kernel
theorem dX5_closes_104 : decode cX5_closes 104 = .ok (.invokestatic 71, 3) := by decide +kernel
theorem dX5_closes_107 : decode cX5_closes 107 = .ok (.ifCond .ne 7, 3) := by decide +kernel
theorem dX5_closes_110 : decode cX5_closes 110 = .ok (.iconst 1, 1) := by decide +kernel
theorem dX5_closes_111 : decode cX5_closes 111 = .ok (.goto 4, 3) := by decide +kernel
theorem dX5_closes_114 : decode cX5_closes 114 = .ok (.iconst 0, 1) := by decide +kernel
theorem dX5_closes_115 : decode cX5_closes 115 = .ok (.istore 8, 2) := by decide +kernel
theorem dX5_closes_117 : decode cX5_closes 117 = .ok (.iload 8, 2) := by decide +kernel
theorem dX5_closes_119 : decode cX5_closes 119 = .ok (.ifCond .eq 59, 3) := by decide +kernel
theorem dX5_closes_122 : decode cX5_closes 122 = .ok (.aload_n 0, 1) := by decide +kernel
theorem dX5_closes_123 : decode cX5_closes 123 = .ok (.getfield 25, 3) := by decide +kernel
theorem dX5_closes_126 : decode cX5_closes 126 = .ok (.iload 6, 2) := by decide +kernel
theorem dX5_closes_128 : decode cX5_closes 128 = .ok (.iaload, 1) := by decide +kernel
theorem dX5_closes_129 : decode cX5_closes 129 = .ok (.iconst (-1), 1) := by decide +kernel
theorem dX5_closes_130 : decode cX5_closes 130 = .ok (.if_icmp .eq 25, 3) := by decide +kernel
theorem dX5_closes_133 : decode cX5_closes 133 = .ok (.aload_n 0, 1) := by decide +kernel
theorem dX5_closes_134 : decode cX5_closes 134 = .ok (.getfield 25, 3) := by decide +kernel
theorem dX5_closes_137 : decode cX5_closes 137 = .ok (.iload 6, 2) := by decide +kernel
theorem dX5_closes_139 : decode cX5_closes 139 = .ok (.iload 7, 2) := by decide +kernel
theorem dX5_closes_141 : decode cX5_closes 141 = .ok (.iadd, 1) := by decide +kernel
theorem dX5_closes_142 : decode cX5_closes 142 = .ok (.iaload, 1) := by decide +kernel
theorem dX5_closes_143 : decode cX5_closes 143 = .ok (.iconst 1, 1) := by decide +kernel
theorem dX5_closes_144 : decode cX5_closes 144 = .ok (.iadd, 1) := by decide +kernel
theorem dX5_closes_145 : decode cX5_closes 145 = .ok (.aload_n 0, 1) := by decide +kernel
theorem dX5_closes_146 : decode cX5_closes 146 = .ok (.getfield 25, 3) := by decide +kernel
theorem dX5_closes_149 : decode cX5_closes 149 = .ok (.iload 6, 2) := by decide +kernel
theorem dX5_closes_151 : decode cX5_closes 151 = .ok (.iaload, 1) := by decide +kernel
theorem dX5_closes_152 : decode cX5_closes 152 = .ok (.if_icmp .gt 26, 3) := by decide +kernel
theorem dX5_closes_155 : decode cX5_closes 155 = .ok (.aload_n 0, 1) := by decide +kernel
theorem dX5_closes_156 : decode cX5_closes 156 = .ok (.getfield 25, 3) := by decide +kernel
theorem dX5_closes_159 : decode cX5_closes 159 = .ok (.iload 6, 2) := by decide +kernel
theorem dX5_closes_161 : decode cX5_closes 161 = .ok (.aload_n 0, 1) := by decide +kernel
theorem dX5_closes_162 : decode cX5_closes 162 = .ok (.getfield 25, 3) := by decide +kernel
theorem dX5_closes_165 : decode cX5_closes 165 = .ok (.iload 6, 2) := by decide +kernel
theorem dX5_closes_167 : decode cX5_closes 167 = .ok (.iload 7, 2) := by decide +kernel
theorem dX5_closes_169 : decode cX5_closes 169 = .ok (.iadd, 1) := by decide +kernel
theorem dX5_closes_170 : decode cX5_closes 170 = .ok (.iaload, 1) := by decide +kernel
theorem dX5_closes_171 : decode cX5_closes 171 = .ok (.iconst 1, 1) := by decide +kernel
theorem dX5_closes_172 : decode cX5_closes 172 = .ok (.iadd, 1) := by decide +kernel
theorem dX5_closes_173 : decode cX5_closes 173 = .ok (.iastore, 1) := by decide +kernel
theorem dX5_closes_174 : decode cX5_closes 174 = .ok (.iload 7, 2) := by decide +kernel
theorem dX5_closes_176 : decode cX5_closes 176 = .ok (.istore 5, 2) := by decide +kernel
theorem dX5_closes_178 : decode cX5_closes 178 = .ok (.iinc 7 1, 3) := by decide +kernel
theorem dX5_closes_181 : decode cX5_closes 181 = .ok (.goto (-126), 3) := by decide +kernel
theorem dX5_closes_184 : decode cX5_closes 184 = .ok (.iinc 6 (-1), 3) := by decide +kernel
theorem dX5_closes_187 : decode cX5_closes 187 = .ok (.goto (-153), 3) := by decide +kernel
theorem dX5_closes_190 : decode cX5_closes 190 = .ok (.iload_n 2, 1) := by decide +kernel
theorem dX5_closes_191 : decode cX5_closes 191 = .ok (.ifCond .eq 8, 3) := by decide +kernel
theorem dX5_closes_194 : decode cX5_closes 194 = .ok (.iload 5, 2) := by decide +kernel
theorem dX5_closes_196 : decode cX5_closes 196 = .ok (.goto 10, 3) := by decide +kernel
theorem dX5_closes_199 : decode cX5_closes 199 = .ok (.aload_n 0, 1) := by decide +kernel
theorem dX5_closes_200 : decode cX5_closes 200 = .ok (.getfield 25, 3) := by decide +kernel
theorem dX5_closes_203 : decode cX5_closes 203 = .ok (.iload 4, 2) := by decide +kernel
theorem dX5_closes_205 : decode cX5_closes 205 = .ok (.iaload, 1) := by decide +kernel
theorem dX5_closes_206 : decode cX5_closes 206 = .ok (.ireturn, 1) := by decide +kernel
set_option maxRecDepth 20000 in
theorem ggX5_fewest_X5_isCourse : GoodIn wsX5_fewest wsX5_isCourse := goodIn_r _ [5, 6, 7, 4, 8] (by decide +kernel) (by decide +kernel)
set_option maxRecDepth 20000 in
theorem gX5_fewest_X5_isCourse : GoodIn wsX5_fewest (va_wsS RX5 101 yX5_isCourse wsX5_isCourse) := goodIn_app (goodIn_of _ (by decide +kernel)) ggX5_fewest_X5_isCourse
set_option maxRecDepth 20000 in
theorem ggX5_fewest_X5_closes : GoodIn wsX5_fewest wsX5_closes := goodIn_r _ [12, 13, 14, 15, 16, 4, 17, 18, 19, 20, 21, 22, 23, 24, 25, 26, 27, 28, 29, 30, 31, 32, 33, 34, 35, 40, 41, 42, 43, 44, 45, 46, 47, 48, 49, 50, 51] (by decide +kernel) (by decide +kernel)
set_option maxRecDepth 20000 in
theorem gX5_fewest_X5_closes : GoodIn wsX5_fewest (wsV RX5 165 RX5 yX5_closes wsX5_closes) := goodIn_app (goodIn_of _ (by decide +kernel)) ggX5_fewest_X5_closes
set_option maxRecDepth 20000 in
theorem ggX5_fewest_X5_fails : GoodIn wsX5_fewest wsX5_fails := goodIn_r _ [39, 1, 40, 41, 42, 43, 44, 45, 46, 47, 48, 49, 50, 51] (by decide +kernel) (by decide +kernel)
set_option maxRecDepth 20000 in
theorem gX5_fewest_X5_fails : GoodIn wsX5_fewest (wsV RX5 39 RX5 yX5_fails wsX5_fails) := goodIn_app (goodIn_of _ (by decide +kernel)) ggX5_fewest_X5_fails
theorem dX5_fewest_0 : decode cX5_fewest 0 = .ok (.aload_n 0, 1) := by decide +kernel
theorem dX5_fewest_1 : decode cX5_fewest 1 = .ok (.iconst 0, 1) := by decide +kernel
theorem dX5_fewest_2 : decode cX5_fewest 2 = .ok (.putfield 28, 3) := by decide +kernel
theorem dX5_fewest_5 : decode cX5_fewest 5 = .ok (.iload_n 1, 1) := by decide +kernel
theorem dX5_fewest_6 : decode cX5_fewest 6 = .ok (.invokestatic 101, 3) := by decide +kernel
theorem dX5_fewest_9 : decode cX5_fewest 9 = .ok (.ifCond .eq 12, 3) := by decide +kernel
theorem dX5_fewest_12 : decode cX5_fewest 12 = .ok (.aload_n 0, 1) := by decide +kernel
theorem dX5_fewest_13 : decode cX5_fewest 13 = .ok (.iload_n 1, 1) := by decide +kernel
theorem dX5_fewest_14 : decode cX5_fewest 14 = .ok (.iconst 0, 1) := by decide +kernel
theorem dX5_fewest_15 : decode cX5_fewest 15 = .ok (.invokevirtual 165, 3) := by decide +kernel
theorem dX5_fewest_18 : decode cX5_fewest 18 = .ok (.goto 8, 3) := by decide +kernel
theorem dX5_fewest_21 : decode cX5_fewest 21 = .ok (.aload_n 0, 1) := by decide +kernel
theorem dX5_fewest_22 : decode cX5_fewest 22 = .ok (.iconst 1, 1) := by decide +kernel
theorem dX5_fewest_23 : decode cX5_fewest 23 = .ok (.invokevirtual 39, 3) := by decide +kernel
theorem dX5_fewest_26 : decode cX5_fewest 26 = .ok (.ireturn, 1) := by decide +kernel
set_option maxRecDepth 20000 in
theorem ggX5_nextSize_X5_isCourse : GoodIn wsX5_nextSize wsX5_isCourse := goodIn_r _ [5, 6, 7, 4, 8] (by decide +kernel) (by decide +kernel)
set_option maxRecDepth 20000 in
theorem gX5_nextSize_X5_isCourse : GoodIn wsX5_nextSize (va_wsS RX5 101 yX5_isCourse wsX5_isCourse) := goodIn_app (goodIn_of _ (by decide +kernel)) ggX5_nextSize_X5_isCourse
set_option maxRecDepth 20000 in
theorem ggX5_nextSize_X5_closes : GoodIn wsX5_nextSize wsX5_closes := goodIn_r _ [12, 13, 14, 15, 16, 4, 17, 18, 19, 20, 21, 22, 23, 24, 25, 26, 27, 28, 29, 30, 31, 32, 33, 34, 35, 40, 41, 42, 43, 44, 45, 46, 47, 48, 49, 50, 51] (by decide +kernel) (by decide +kernel)
set_option maxRecDepth 20000 in
theorem gX5_nextSize_X5_closes : GoodIn wsX5_nextSize (wsV RX5 165 RX5 yX5_closes wsX5_closes) := goodIn_app (goodIn_of _ (by decide +kernel)) ggX5_nextSize_X5_closes
set_option maxRecDepth 20000 in
theorem ggX5_nextSize_X5_fails : GoodIn wsX5_nextSize wsX5_fails := goodIn_r _ [39, 1, 40, 41, 42, 43, 44, 45, 46, 47, 48, 49, 50, 51] (by decide +kernel) (by decide +kernel)
set_option maxRecDepth 20000 in
theorem gX5_nextSize_X5_fails : GoodIn wsX5_nextSize (wsV RX5 39 RX5 yX5_fails wsX5_fails) := goodIn_app (goodIn_of _ (by decide +kernel)) ggX5_nextSize_X5_fails
theorem dX5_nextSize_0 : decode cX5_nextSize 0 = .ok (.aload_n 0, 1) := by decide +kernel
theorem dX5_nextSize_1 : decode cX5_nextSize 1 = .ok (.iconst 0, 1) := by decide +kernel
theorem dX5_nextSize_2 : decode cX5_nextSize 2 = .ok (.putfield 28, 3) := by decide +kernel
theorem dX5_nextSize_5 : decode cX5_nextSize 5 = .ok (.iload_n 1, 1) := by decide +kernel
theorem dX5_nextSize_6 : decode cX5_nextSize 6 = .ok (.invokestatic 101, 3) := by decide +kernel
theorem dX5_nextSize_9 : decode cX5_nextSize 9 = .ok (.ifCond .eq 12, 3) := by decide +kernel
theorem dX5_nextSize_12 : decode cX5_nextSize 12 = .ok (.aload_n 0, 1) := by decide +kernel
theorem dX5_nextSize_13 : decode cX5_nextSize 13 = .ok (.iload_n 1, 1) := by decide +kernel
theorem dX5_nextSize_14 : decode cX5_nextSize 14 = .ok (.iconst 1, 1) := by decide +kernel
theorem dX5_nextSize_15 : decode cX5_nextSize 15 = .ok (.invokevirtual 165, 3) := by decide +kernel
theorem dX5_nextSize_18 : decode cX5_nextSize 18 = .ok (.goto 8, 3) := by decide +kernel
theorem dX5_nextSize_21 : decode cX5_nextSize 21 = .ok (.aload_n 0, 1) := by decide +kernel
theorem dX5_nextSize_22 : decode cX5_nextSize 22 = .ok (.iconst 1, 1) := by decide +kernel
theorem dX5_nextSize_23 : decode cX5_nextSize 23 = .ok (.invokevirtual 39, 3) := by decide +kernel
theorem dX5_nextSize_26 : decode cX5_nextSize 26 = .ok (.ireturn, 1) := by decide +kernel
set_option maxRecDepth 20000 in
theorem ggX5_byFilling_X5_tries : GoodIn wsX5_byFilling wsX5_tries := goodIn_r _ [6, 1, 7, 53, 54, 55, 56, 57, 58, 59, 60, 61, 62, 63, 64] (by decide +kernel) (by decide +kernel)
set_option maxRecDepth 20000 in
theorem gX5_byFilling_X5_tries : GoodIn wsX5_byFilling (wsV RX5 169 RX5 yX5_tries wsX5_tries) := goodIn_app (goodIn_of _ (by decide +kernel)) ggX5_byFilling_X5_tries
set_option maxRecDepth 20000 in
theorem ggX5_byFilling_X5_fills : GoodIn wsX5_byFilling wsX5_fills := goodIn_r _ [10, 11, 12, 5, 13, 14, 15, 16, 17, 18, 19, 20, 21, 22, 23, 24, 25, 26, 27, 28, 29, 30, 31, 32, 33, 34, 35, 36, 37, 38, 39, 40, 41, 42, 43, 44, 45, 46, 47, 48, 49] (by decide +kernel) (by decide +kernel)
set_option maxRecDepth 20000 in
theorem gX5_byFilling_X5_fills : GoodIn wsX5_byFilling (va_wsS RX5 87 yX5_fills wsX5_fills) := goodIn_app (goodIn_of _ (by decide +kernel)) ggX5_byFilling_X5_fills
set_option maxRecDepth 20000 in
theorem ggX5_byFilling_X5_cells : GoodIn wsX5_byFilling wsX5_cells := goodIn_r _ [31] (by decide +kernel) (by decide +kernel)
set_option maxRecDepth 20000 in
theorem gX5_byFilling_X5_cells : GoodIn wsX5_byFilling (va_wsS RX5 54 yX5_cells wsX5_cells) := goodIn_app (goodIn_of _ (by decide +kernel)) ggX5_byFilling_X5_cells
set_option maxRecDepth 20000 in
theorem ggX5_byFilling_X5_taken : GoodIn wsX5_byFilling wsX5_taken := goodIn_r _ [19, 20, 21, 5, 22, 23, 24, 25] (by decide +kernel) (by decide +kernel)
set_option maxRecDepth 20000 in
theorem gX5_byFilling_X5_taken : GoodIn wsX5_byFilling (va_wsS RX5 51 yX5_taken wsX5_taken) := goodIn_app (goodIn_of _ (by decide +kernel)) ggX5_byFilling_X5_taken
set_option maxRecDepth 20000 in
theorem ggX5_byFilling_X5_meeting : GoodIn wsX5_byFilling wsX5_meeting := goodIn_r _ [52, 29, 30, 5, 31, 41, 42, 43, 20, 21, 22, 23, 24, 25, 35, 36, 37, 38, 39, 40] (by decide +kernel) (by decide +kernel)
set_option maxRecDepth 20000 in
theorem gX5_byFilling_X5_meeting : GoodIn wsX5_byFilling (va_wsS RX5 144 yX5_meeting wsX5_meeting) := goodIn_app (goodIn_of _ (by decide +kernel)) ggX5_byFilling_X5_meeting
theorem dX5_byFilling_0 : decode cX5_byFilling 0 = .ok (.aload_n 0, 1) := by decide +kernel
theorem dX5_byFilling_1 : decode cX5_byFilling 1 = .ok (.invokevirtual 169, 3) := by decide +kernel
theorem dX5_byFilling_4 : decode cX5_byFilling 4 = .ok (.aload_n 0, 1) := by decide +kernel
theorem dX5_byFilling_5 : decode cX5_byFilling 5 = .ok (.getfield 13, 3) := by decide +kernel
theorem dX5_byFilling_8 : decode cX5_byFilling 8 = .ok (.iconst 1, 1) := by decide +kernel
theorem dX5_byFilling_9 : decode cX5_byFilling 9 = .ok (.iload_n 2, 1) := by decide +kernel
theorem dX5_byFilling_10 : decode cX5_byFilling 10 = .ok (.iastore, 1) := by decide +kernel
theorem dX5_byFilling_11 : decode cX5_byFilling 11 = .ok (.aload_n 0, 1) := by decide +kernel
theorem dX5_byFilling_12 : decode cX5_byFilling 12 = .ok (.getfield 13, 3) := by decide +kernel
theorem dX5_byFilling_15 : decode cX5_byFilling 15 = .ok (.iload_n 1, 1) := by decide +kernel
theorem dX5_byFilling_16 : decode cX5_byFilling 16 = .ok (.invokestatic 87, 3) := by decide +kernel
theorem dX5_byFilling_19 : decode cX5_byFilling 19 = .ok (.istore 4, 2) := by decide +kernel
theorem dX5_byFilling_21 : decode cX5_byFilling 21 = .ok (.iload_n 3, 1) := by decide +kernel
theorem dX5_byFilling_22 : decode cX5_byFilling 22 = .ok (.ifCond .ne 23, 3) := by decide +kernel
theorem dX5_byFilling_25 : decode cX5_byFilling 25 = .ok (.aload_n 0, 1) := by decide +kernel
theorem dX5_byFilling_26 : decode cX5_byFilling 26 = .ok (.getfield 13, 3) := by decide +kernel
theorem dX5_byFilling_29 : decode cX5_byFilling 29 = .ok (.iload_n 1, 1) := by decide +kernel
theorem dX5_byFilling_30 : decode cX5_byFilling 30 = .ok (.invokestatic 54, 3) := by decide +kernel
theorem dX5_byFilling_33 : decode cX5_byFilling 33 = .ok (.aload_n 0, 1) := by decide +kernel
theorem dX5_byFilling_34 : decode cX5_byFilling 34 = .ok (.getfield 13, 3) := by decide +kernel
theorem dX5_byFilling_37 : decode cX5_byFilling 37 = .ok (.iload_n 1, 1) := by decide +kernel
theorem dX5_byFilling_38 : decode cX5_byFilling 38 = .ok (.invokestatic 51, 3) := by decide +kernel
theorem dX5_byFilling_41 : decode cX5_byFilling 41 = .ok (.isub, 1) := by decide +kernel
theorem dX5_byFilling_42 : decode cX5_byFilling 42 = .ok (.goto 22, 3) := by decide +kernel
theorem dX5_byFilling_45 : decode cX5_byFilling 45 = .ok (.iload_n 3, 1) := by decide +kernel
theorem dX5_byFilling_46 : decode cX5_byFilling 46 = .ok (.iconst 1, 1) := by decide +kernel
theorem dX5_byFilling_47 : decode cX5_byFilling 47 = .ok (.if_icmp .ne 8, 3) := by decide +kernel
theorem dX5_byFilling_50 : decode cX5_byFilling 50 = .ok (.iload 4, 2) := by decide +kernel
theorem dX5_byFilling_52 : decode cX5_byFilling 52 = .ok (.goto 12, 3) := by decide +kernel
theorem dX5_byFilling_55 : decode cX5_byFilling 55 = .ok (.aload_n 0, 1) := by decide +kernel
theorem dX5_byFilling_56 : decode cX5_byFilling 56 = .ok (.getfield 13, 3) := by decide +kernel
theorem dX5_byFilling_59 : decode cX5_byFilling 59 = .ok (.iload_n 1, 1) := by decide +kernel
theorem dX5_byFilling_60 : decode cX5_byFilling 60 = .ok (.iconst 0, 1) := by decide +kernel
theorem dX5_byFilling_61 : decode cX5_byFilling 61 = .ok (.invokestatic 144, 3) := by decide +kernel
theorem dX5_byFilling_64 : decode cX5_byFilling 64 = .ok (.ireturn, 1) := by decide +kernel
set_option maxRecDepth 20000 in
theorem ggX5_ifFilled_X5_isCourse : GoodIn wsX5_ifFilled wsX5_isCourse := goodIn_r _ [5, 6, 7, 4, 8] (by decide +kernel) (by decide +kernel)
set_option maxRecDepth 20000 in
theorem gX5_ifFilled_X5_isCourse : GoodIn wsX5_ifFilled (va_wsS RX5 101 yX5_isCourse wsX5_isCourse) := goodIn_app (goodIn_of _ (by decide +kernel)) ggX5_ifFilled_X5_isCourse
set_option maxRecDepth 20000 in
theorem ggX5_ifFilled_X5_fails : GoodIn wsX5_ifFilled wsX5_fails := goodIn_r _ [12, 1, 68, 69, 70, 71, 72, 73, 74, 75, 76, 77, 78, 79] (by decide +kernel) (by decide +kernel)
set_option maxRecDepth 20000 in
theorem gX5_ifFilled_X5_fails : GoodIn wsX5_ifFilled (wsV RX5 39 RX5 yX5_fails wsX5_fails) := goodIn_app (goodIn_of _ (by decide +kernel)) ggX5_ifFilled_X5_fails
set_option maxRecDepth 20000 in
theorem ggX5_ifFilled_X5_in : GoodIn wsX5_ifFilled wsX5_in := goodIn_r _ [8] (by decide +kernel) (by decide +kernel)
set_option maxRecDepth 20000 in
theorem gX5_ifFilled_X5_in : GoodIn wsX5_ifFilled (va_wsS RX5 32 yX5_in wsX5_in) := goodIn_app (goodIn_of _ (by decide +kernel)) ggX5_ifFilled_X5_in
set_option maxRecDepth 20000 in
theorem ggX5_ifFilled_X5_byFilling : GoodIn wsX5_ifFilled wsX5_byFilling := goodIn_r _ [16, 17, 18, 19, 20, 4, 21, 22, 23, 24, 25, 26, 27, 28, 29, 30, 31, 32, 33, 34, 35, 36, 37, 38, 39, 40, 41, 42, 43, 44, 45, 46, 47, 48, 49, 50, 51, 52, 53, 54, 55, 56, 57, 58, 59, 60, 61, 62, 63, 64, 65, 66, 67, 68, 69, 70, 71, 72, 73, 74, 75, 76, 77, 78, 79] (by decide +kernel) (by decide +kernel)
set_option maxRecDepth 20000 in
theorem gX5_ifFilled_X5_byFilling : GoodIn wsX5_ifFilled (wsV RX5 172 RX5 yX5_byFilling wsX5_byFilling) := goodIn_app (goodIn_of _ (by decide +kernel)) ggX5_ifFilled_X5_byFilling
