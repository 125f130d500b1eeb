theorem dX4_fill_0 : decode cX4_fill 0 = .ok (.iload_n 1, 1) := by decide +kernel
theorem dX4_fill_1 : decode cX4_fill 1 = .ok (.invokestatic 56, 3) := by decide +kernel
theorem dX4_fill_4 : decode cX4_fill 4 = .ok (.aload_n 0, 1) := by decide +kernel
theorem dX4_fill_5 : decode cX4_fill 5 = .ok (.getfield 29, 3) := by decide +kernel
theorem dX4_fill_8 : decode cX4_fill 8 = .ok (.aload_n 0, 1) := by decide +kernel
theorem dX4_fill_9 : decode cX4_fill 9 = .ok (.getfield 10, 3) := by decide +kernel
theorem dX4_fill_12 : decode cX4_fill 12 = .ok (.invokevirtual 48, 3) := by decide +kernel
theorem dX4_fill_15 : decode cX4_fill 15 = .ok (.aload_n 0, 1) := by decide +kernel
theorem dX4_fill_16 : decode cX4_fill 16 = .ok (.getfield 10, 3) := by decide +kernel
theorem dX4_fill_19 : decode cX4_fill 19 = .ok (.iload_n 1, 1) := by decide +kernel
theorem dX4_fill_20 : decode cX4_fill 20 = .ok (.aload_n 0, 1) := by decide +kernel
theorem dX4_fill_21 : decode cX4_fill 21 = .ok (.getfield 10, 3) := by decide +kernel
theorem dX4_fill_24 : decode cX4_fill 24 = .ok (.iconst 1, 1) := by decide +kernel
theorem dX4_fill_25 : decode cX4_fill 25 = .ok (.invokevirtual 76, 3) := by decide +kernel
theorem dX4_fill_28 : decode cX4_fill 28 = .ok (.invokevirtual 79, 3) := by decide +kernel
theorem dX4_fill_31 : decode cX4_fill 31 = .ok (.ireturn, 1) := by decide +kernel
set_option maxRecDepth 20000 in
theorem ggX4_fillAll_X1_save : GoodIn wsX4_fillAll wsX1_save := goodIn_r _ [7, 8, 9, 10, 11, 12, 13, 14, 15, 16, 6, 17, 18, 19, 20, 21, 22, 23, 24, 25, 26, 27, 28, 29, 30, 31, 32, 33, 34, 35, 36, 37, 38, 134, 135, 136, 137, 138, 139, 140, 141, 142, 143] (by decide +kernel) (by decide +kernel)
set_option maxRecDepth 20000 in
theorem gX4_fillAll_X1_save : GoodIn wsX4_fillAll (wsV RX4 48 RX1 yX1_save wsX1_save) := goodIn_app (goodIn_of _ (by decide +kernel)) ggX4_fillAll_X1_save
set_option maxRecDepth 20000 in
theorem ggX4_fillAll_X2_settingOf : GoodIn wsX4_fillAll wsX2_settingOf := goodIn_r _ [42, 24, 28, 29, 137, 138, 139, 140, 141, 142, 143] (by decide +kernel) (by decide +kernel)
set_option maxRecDepth 20000 in
theorem gX4_fillAll_X2_settingOf : GoodIn wsX4_fillAll (wsV RX4 76 RX2 yX2_settingOf wsX2_settingOf) := goodIn_app (goodIn_of _ (by decide +kernel)) ggX4_fillAll_X2_settingOf
set_option maxRecDepth 20000 in
theorem ggX4_fillAll_X2_fillCourse : GoodIn wsX4_fillAll wsX2_fillCourse := goodIn_r _ [46, 29, 47, 48, 49, 22, 50, 51, 52, 53, 54, 27, 55, 56, 57, 58, 59, 60, 61, 62, 24, 25, 63, 64, 65, 66, 67, 68, 69, 70, 71, 72, 73, 74, 75, 76, 77, 78, 79, 80, 81, 82, 83, 84, 85, 26, 86, 87, 88, 89, 90, 91, 92, 93, 30, 94, 95, 96, 137, 138, 139, 140, 141, 142, 143] (by decide +kernel) (by decide +kernel)
set_option maxRecDepth 20000 in
theorem gX4_fillAll_X2_fillCourse : GoodIn wsX4_fillAll (wsV RX4 79 RX2 yX2_fillCourse wsX2_fillCourse) := goodIn_app (goodIn_of _ (by decide +kernel)) ggX4_fillAll_X2_fillCourse
set_option maxRecDepth 20000 in
theorem ggX4_fillAll_X2_summed : GoodIn wsX4_fillAll wsX2_summed := goodIn_r _ [100, 101, 102, 103, 22, 104, 105, 106, 107, 108, 24, 63, 64, 65, 109, 110, 111, 112, 70, 71, 72, 73, 25, 113, 114, 115, 116, 26, 59, 60, 61, 62, 117, 118, 119, 120, 82, 83, 84, 85, 121, 122, 123, 124, 78, 79, 80, 81, 125, 126, 127, 128, 137, 138, 139, 140, 141, 142, 143] (by decide +kernel) (by decide +kernel)
set_option maxRecDepth 20000 in
theorem gX4_fillAll_X2_summed : GoodIn wsX4_fillAll (wsV RX4 82 RX2 yX2_summed wsX2_summed) := goodIn_app (goodIn_of _ (by decide +kernel)) ggX4_fillAll_X2_summed
theorem dX4_fillAll_0 : decode cX4_fillAll 0 = .ok (.aload_n 0, 1) := by decide +kernel
theorem dX4_fillAll_1 : decode cX4_fillAll 1 = .ok (.getfield 29, 3) := by decide +kernel
theorem dX4_fillAll_4 : decode cX4_fillAll 4 = .ok (.aload_n 0, 1) := by decide +kernel
theorem dX4_fillAll_5 : decode cX4_fillAll 5 = .ok (.getfield 10, 3) := by decide +kernel
theorem dX4_fillAll_8 : decode cX4_fillAll 8 = .ok (.invokevirtual 48, 3) := by decide +kernel
theorem dX4_fillAll_11 : decode cX4_fillAll 11 = .ok (.aload_n 0, 1) := by decide +kernel
theorem dX4_fillAll_12 : decode cX4_fillAll 12 = .ok (.getfield 10, 3) := by decide +kernel
theorem dX4_fillAll_15 : decode cX4_fillAll 15 = .ok (.iconst 1, 1) := by decide +kernel
theorem dX4_fillAll_16 : decode cX4_fillAll 16 = .ok (.invokevirtual 76, 3) := by decide +kernel
theorem dX4_fillAll_19 : decode cX4_fillAll 19 = .ok (.istore_n 1, 1) := by decide +kernel
theorem dX4_fillAll_20 : decode cX4_fillAll 20 = .ok (.iconst 0, 1) := by decide +kernel
theorem dX4_fillAll_21 : decode cX4_fillAll 21 = .ok (.istore_n 2, 1) := by decide +kernel
theorem dX4_fillAll_22 : decode cX4_fillAll 22 = .ok (.iload_n 2, 1) := by decide +kernel
theorem dX4_fillAll_23 : decode cX4_fillAll 23 = .ok (.bipush 6, 2) := by decide +kernel
theorem dX4_fillAll_25 : decode cX4_fillAll 25 = .ok (.if_icmp .ge 19, 3) := by decide +kernel
theorem dX4_fillAll_28 : decode cX4_fillAll 28 = .ok (.aload_n 0, 1) := by decide +kernel
theorem dX4_fillAll_29 : decode cX4_fillAll 29 = .ok (.getfield 10, 3) := by decide +kernel
theorem dX4_fillAll_32 : decode cX4_fillAll 32 = .ok (.iload_n 2, 1) := by decide +kernel
theorem dX4_fillAll_33 : decode cX4_fillAll 33 = .ok (.iload_n 1, 1) := by decide +kernel
theorem dX4_fillAll_34 : decode cX4_fillAll 34 = .ok (.invokevirtual 79, 3) := by decide +kernel
theorem dX4_fillAll_37 : decode cX4_fillAll 37 = .ok (.pop, 1) := by decide +kernel
theorem dX4_fillAll_38 : decode cX4_fillAll 38 = .ok (.iinc 2 1, 3) := by decide +kernel
theorem dX4_fillAll_41 : decode cX4_fillAll 41 = .ok (.goto (-19), 3) := by decide +kernel
theorem dX4_fillAll_44 : decode cX4_fillAll 44 = .ok (.aload_n 0, 1) := by decide +kernel
theorem dX4_fillAll_45 : decode cX4_fillAll 45 = .ok (.getfield 10, 3) := by decide +kernel
theorem dX4_fillAll_48 : decode cX4_fillAll 48 = .ok (.iconst 3, 1) := by decide +kernel
theorem dX4_fillAll_49 : decode cX4_fillAll 49 = .ok (.invokevirtual 82, 3) := by decide +kernel
theorem dX4_fillAll_52 : decode cX4_fillAll 52 = .ok (.ireturn, 1) := by decide +kernel
set_option maxRecDepth 20000 in
theorem ggX4_set_X4_needSetting : GoodIn wsX4_set wsX4_needSetting := goodIn_ca (goodIn_r _ [6, 7, 8, 5, 9, 10, 11] (by decide +kernel) (by decide +kernel)) (goodIn_sub (fun _ h => List.mem_cons_of_mem _ (List.mem_append_left _ (List.mem_append_left _ (List.mem_append_right _ h)))) (by decide +kernel))
set_option maxRecDepth 20000 in
theorem gX4_set_X4_needSetting : GoodIn wsX4_set (va_wsS RX4 85 yX4_needSetting wsX4_needSetting) := goodIn_app (goodIn_of _ (by decide +kernel)) ggX4_set_X4_needSetting
set_option maxRecDepth 20000 in
theorem ggX4_set_X4_isSettingValue : GoodIn wsX4_set wsX4_isSettingValue := goodIn_r _ [14] (by decide +kernel) (by decide +kernel)
set_option maxRecDepth 20000 in
theorem gX4_set_X4_isSettingValue : GoodIn wsX4_set (va_wsS RX4 88 yX4_isSettingValue wsX4_isSettingValue) := goodIn_app (goodIn_of _ (by decide +kernel)) ggX4_set_X4_isSettingValue
set_option maxRecDepth 20000 in
theorem ggX4_set_X4_needArgument : GoodIn wsX4_set wsX4_needArgument := goodIn_ca (goodIn_r _ [17, 18, 19] (by decide +kernel) (by decide +kernel)) (goodIn_sub (fun _ h => List.mem_cons_of_mem _ (List.mem_append_left _ (List.mem_append_right _ h))) (by decide +kernel))
set_option maxRecDepth 20000 in
theorem gX4_set_X4_needArgument : GoodIn wsX4_set (va_wsS RX4 44 yX4_needArgument wsX4_needArgument) := goodIn_app (goodIn_of _ (by decide +kernel)) ggX4_set_X4_needArgument
set_option maxRecDepth 20000 in
theorem ggX4_set_X2_summed : GoodIn wsX4_set wsX2_summed := goodIn_r _ [24, 25, 26, 27, 23, 28, 29, 30, 31, 32, 33, 34, 35, 36, 37, 38, 39, 40, 41, 42, 43, 44, 45, 46, 47, 48, 49, 50, 51, 52, 53, 54, 55, 56, 57, 58, 59, 60, 61, 62, 63, 64, 65, 66, 67, 68, 69, 70, 71, 72, 73, 74, 125, 126, 127, 128, 129, 130, 131] (by decide +kernel) (by decide +kernel)
set_option maxRecDepth 20000 in
theorem gX4_set_X2_summed : GoodIn wsX4_set (wsV RX4 82 RX2 yX2_summed wsX2_summed) := goodIn_app (goodIn_of _ (by decide +kernel)) ggX4_set_X2_summed
set_option maxRecDepth 20000 in
theorem ggX4_set_X4_needState : GoodIn wsX4_set wsX4_needState := goodIn_ca (goodIn_r _ [77, 78, 79] (by decide +kernel) (by decide +kernel)) (goodIn_sub (fun _ h => List.mem_cons_of_mem _ (List.mem_append_right _ h)) (by decide +kernel))
set_option maxRecDepth 20000 in
theorem gX4_set_X4_needState : GoodIn wsX4_set (va_wsS RX4 63 yX4_needState wsX4_needState) := goodIn_app (goodIn_of _ (by decide +kernel)) ggX4_set_X4_needState
set_option maxRecDepth 20000 in
theorem ggX4_set_X1_save : GoodIn wsX4_set wsX1_save := goodIn_r _ [84, 85, 86, 87, 88, 89, 90, 91, 92, 93, 83, 94, 95, 96, 97, 98, 23, 99, 33, 45, 50, 100, 101, 102, 103, 104, 105, 106, 107, 108, 109, 110, 111, 132, 133, 134, 125, 126, 127, 128, 129, 130, 131] (by decide +kernel) (by decide +kernel)
set_option maxRecDepth 20000 in
theorem gX4_set_X1_save : GoodIn wsX4_set (wsV RX4 48 RX1 yX1_save wsX1_save) := goodIn_app (goodIn_of _ (by decide +kernel)) ggX4_set_X1_save
set_option maxRecDepth 20000 in
theorem ggX4_set_X2_settingOf : GoodIn wsX4_set wsX2_settingOf := goodIn_r _ [115, 33, 101, 102, 125, 126, 127, 128, 129, 130, 131] (by decide +kernel) (by decide +kernel)
set_option maxRecDepth 20000 in
theorem gX4_set_X2_settingOf : GoodIn wsX4_set (wsV RX4 76 RX2 yX2_settingOf wsX2_settingOf) := goodIn_app (goodIn_of _ (by decide +kernel)) ggX4_set_X2_settingOf
set_option maxRecDepth 20000 in
theorem ggX4_set_X2_changeSetting : GoodIn wsX4_set wsX2_changeSetting := goodIn_r _ [119, 33, 101, 102, 125, 126, 127, 128, 129, 130, 131] (by decide +kernel) (by decide +kernel)
set_option maxRecDepth 20000 in
theorem gX4_set_X2_changeSetting : GoodIn wsX4_set (wsV RX4 92 RX2 yX2_changeSetting wsX2_changeSetting) := goodIn_app (goodIn_of _ (by decide +kernel)) ggX4_set_X2_changeSetting
theorem dX4_set_0 : decode cX4_set 0 = .ok (.iload_n 1, 1) := by decide +kernel
theorem dX4_set_1 : decode cX4_set 1 = .ok (.invokestatic 85, 3) := by decide +kernel
theorem dX4_set_4 : decode cX4_set 4 = .ok (.iload_n 1, 1) := by decide +kernel
theorem dX4_set_5 : decode cX4_set 5 = .ok (.iload_n 2, 1) := by decide +kernel
theorem dX4_set_6 : decode cX4_set 6 = .ok (.invokestatic 88, 3) := by decide +kernel
theorem dX4_set_9 : decode cX4_set 9 = .ok (.invokestatic 44, 3) := by decide +kernel
theorem dX4_set_12 : decode cX4_set 12 = .ok (.iload_n 1, 1) := by decide +kernel
theorem dX4_set_13 : decode cX4_set 13 = .ok (.ifCond .ne 14, 3) := by decide +kernel
theorem dX4_set_16 : decode cX4_set 16 = .ok (.aload_n 0, 1) := by decide +kernel
theorem dX4_set_17 : decode cX4_set 17 = .ok (.getfield 10, 3) := by decide +kernel
theorem dX4_set_20 : decode cX4_set 20 = .ok (.iconst 1, 1) := by decide +kernel
theorem dX4_set_21 : decode cX4_set 21 = .ok (.invokevirtual 82, 3) := by decide +kernel
theorem dX4_set_24 : decode cX4_set 24 = .ok (.ifCond .ne 7, 3) := by decide +kernel
theorem dX4_set_27 : decode cX4_set 27 = .ok (.iconst 1, 1) := by decide +kernel
theorem dX4_set_28 : decode cX4_set 28 = .ok (.goto 4, 3) := by decide +kernel
theorem dX4_set_31 : decode cX4_set 31 = .ok (.iconst 0, 1) := by decide +kernel
theorem dX4_set_32 : decode cX4_set 32 = .ok (.invokestatic 63, 3) := by decide +kernel
theorem dX4_set_35 : decode cX4_set 35 = .ok (.aload_n 0, 1) := by decide +kernel
theorem dX4_set_36 : decode cX4_set 36 = .ok (.getfield 29, 3) := by decide +kernel
theorem dX4_set_39 : decode cX4_set 39 = .ok (.aload_n 0, 1) := by decide +kernel
theorem dX4_set_40 : decode cX4_set 40 = .ok (.getfield 10, 3) := by decide +kernel
theorem dX4_set_43 : decode cX4_set 43 = .ok (.invokevirtual 48, 3) := by decide +kernel
theorem dX4_set_46 : decode cX4_set 46 = .ok (.aload_n 0, 1) := by decide +kernel
theorem dX4_set_47 : decode cX4_set 47 = .ok (.getfield 10, 3) := by decide +kernel
theorem dX4_set_50 : decode cX4_set 50 = .ok (.iload_n 1, 1) := by decide +kernel
theorem dX4_set_51 : decode cX4_set 51 = .ok (.invokevirtual 76, 3) := by decide +kernel
theorem dX4_set_54 : decode cX4_set 54 = .ok (.istore_n 3, 1) := by decide +kernel
theorem dX4_set_55 : decode cX4_set 55 = .ok (.aload_n 0, 1) := by decide +kernel
theorem dX4_set_56 : decode cX4_set 56 = .ok (.getfield 10, 3) := by decide +kernel
theorem dX4_set_59 : decode cX4_set 59 = .ok (.iload_n 1, 1) := by decide +kernel
theorem dX4_set_60 : decode cX4_set 60 = .ok (.iload_n 2, 1) := by decide +kernel
theorem dX4_set_61 : decode cX4_set 61 = .ok (.invokevirtual 92, 3) := by decide +kernel
theorem dX4_set_64 : decode cX4_set 64 = .ok (.iload_n 3, 1) := by decide +kernel
theorem dX4_set_65 : decode cX4_set 65 = .ok (.ireturn, 1) := by decide +kernel
set_option maxRecDepth 20000 in
theorem ggX4_append_X4_needArgument : GoodIn wsX4_append wsX4_needArgument := goodIn_ca (goodIn_r _ [5, 6, 7] (by decide +kernel) (by decide +kernel)) (goodIn_sub (fun _ h => List.mem_cons_of_mem _ (List.mem_append_left _ (List.mem_append_right _ h))) (by decide +kernel))
set_option maxRecDepth 20000 in
theorem gX4_append_X4_needArgument : GoodIn wsX4_append (va_wsS RX4 44 yX4_needArgument wsX4_needArgument) := goodIn_app (goodIn_of _ (by decide +kernel)) ggX4_append_X4_needArgument
set_option maxRecDepth 20000 in
theorem ggX4_append_X3_length : GoodIn wsX4_append wsX3_length := goodIn_r _ [12, 13, 29, 30] (by decide +kernel) (by decide +kernel)
set_option maxRecDepth 20000 in
theorem gX4_append_X3_length : GoodIn wsX4_append (wsV RX4 96 RX3 yX3_length wsX3_length) := goodIn_app (goodIn_of _ (by decide +kernel)) ggX4_append_X3_length
set_option maxRecDepth 20000 in
theorem ggX4_append_X4_needState : GoodIn wsX4_append wsX4_needState := goodIn_ca (goodIn_r _ [16, 17, 18] (by decide +kernel) (by decide +kernel)) (goodIn_sub (fun _ h => List.mem_cons_of_mem _ (List.mem_append_right _ h)) (by decide +kernel))
set_option maxRecDepth 20000 in
theorem gX4_append_X4_needState : GoodIn wsX4_append (va_wsS RX4 63 yX4_needState wsX4_needState) := goodIn_app (goodIn_of _ (by decide +kernel)) ggX4_append_X4_needState
set_option maxRecDepth 20000 in
theorem ggX4_append_X3_add : GoodIn wsX4_append wsX3_add := goodIn_r _ [22, 13, 23, 29, 30] (by decide +kernel) (by decide +kernel)
set_option maxRecDepth 20000 in
theorem gX4_append_X3_add : GoodIn wsX4_append (wsV RX4 100 RX3 yX3_add wsX3_add) := goodIn_app (goodIn_of _ (by decide +kernel)) ggX4_append_X3_add
theorem dX4_append_0 : decode cX4_append 0 = .ok (.iload_n 1, 1) := by decide +kernel
theorem dX4_append_1 : decode cX4_append 1 = .ok (.bipush 33, 2) := by decide +kernel
theorem dX4_append_3 : decode cX4_append 3 = .ok (.if_icmp .lt 13, 3) := by decide +kernel
theorem dX4_append_6 : decode cX4_append 6 = .ok (.iload_n 1, 1) := by decide +kernel
theorem dX4_append_7 : decode cX4_append 7 = .ok (.bipush 126, 2) := by decide +kernel
theorem dX4_append_9 : decode cX4_append 9 = .ok (.if_icmp .gt 7, 3) := by decide +kernel
theorem dX4_append_12 : decode cX4_append 12 = .ok (.iconst 1, 1) := by decide +kernel
theorem dX4_append_13 : decode cX4_append 13 = .ok (.goto 4, 3) := by decide +kernel
theorem dX4_append_16 : decode cX4_append 16 = .ok (.iconst 0, 1) := by decide +kernel
theorem dX4_append_17 : decode cX4_append 17 = .ok (.invokestatic 44, 3) := by decide +kernel
theorem dX4_append_20 : decode cX4_append 20 = .ok (.aload_n 0, 1) := by decide +kernel
theorem dX4_append_21 : decode cX4_append 21 = .ok (.getfield 36, 3) := by decide +kernel
theorem dX4_append_24 : decode cX4_append 24 = .ok (.invokevirtual 96, 3) := by decide +kernel
theorem dX4_append_27 : decode cX4_append 27 = .ok (.bipush 60, 2) := by decide +kernel
theorem dX4_append_29 : decode cX4_append 29 = .ok (.if_icmp .ge 7, 3) := by decide +kernel
theorem dX4_append_32 : decode cX4_append 32 = .ok (.iconst 1, 1) := by decide +kernel
theorem dX4_append_33 : decode cX4_append 33 = .ok (.goto 4, 3) := by decide +kernel
theorem dX4_append_36 : decode cX4_append 36 = .ok (.iconst 0, 1) := by decide +kernel
theorem dX4_append_37 : decode cX4_append 37 = .ok (.invokestatic 63, 3) := by decide +kernel
theorem dX4_append_40 : decode cX4_append 40 = .ok (.aload_n 0, 1) := by decide +kernel
theorem dX4_append_41 : decode cX4_append 41 = .ok (.getfield 36, 3) := by decide +kernel
theorem dX4_append_44 : decode cX4_append 44 = .ok (.iload_n 1, 1) := by decide +kernel
theorem dX4_append_45 : decode cX4_append 45 = .ok (.i2c, 1) := by decide +kernel
theorem dX4_append_46 : decode cX4_append 46 = .ok (.invokevirtual 100, 3) := by decide +kernel
theorem dX4_append_49 : decode cX4_append 49 = .ok (.ireturn, 1) := by decide +kernel
set_option maxRecDepth 20000 in
theorem ggX4_clearBuffer_X3_drop : GoodIn wsX4_clearBuffer wsX3_drop := goodIn_r _ [6, 7, 13, 14] (by decide +kernel) (by decide +kernel)
set_option maxRecDepth 20000 in
theorem gX4_clearBuffer_X3_drop : GoodIn wsX4_clearBuffer (wsV RX4 104 RX3 yX3_drop wsX3_drop) := goodIn_app (goodIn_of _ (by decide +kernel)) ggX4_clearBuffer_X3_drop
theorem dX4_clearBuffer_0 : decode cX4_clearBuffer 0 = .ok (.aload_n 0, 1) := by decide +kernel
theorem dX4_clearBuffer_1 : decode cX4_clearBuffer 1 = .ok (.getfield 36, 3) := by decide +kernel
theorem dX4_clearBuffer_4 : decode cX4_clearBuffer 4 = .ok (.invokevirtual 104, 3) := by decide +kernel
theorem dX4_clearBuffer_7 : decode cX4_clearBuffer 7 = .ok (.ireturn, 1) := by decide +kernel
set_option maxRecDepth 20000 in
theorem ggX4_firstError_X3_wrongAt : GoodIn wsX4_firstError wsX3_wrongAt := goodIn_r _ [6, 7, 8, 9, 10, 5, 11, 12, 13, 14, 15, 16, 17, 18, 19, 20, 21, 27, 28] (by decide +kernel) (by decide +kernel)
set_option maxRecDepth 20000 in
theorem gX4_firstError_X3_wrongAt : GoodIn wsX4_firstError (wsV RX4 107 RX3 yX3_wrongAt wsX3_wrongAt) := goodIn_app (goodIn_of _ (by decide +kernel)) ggX4_firstError_X3_wrongAt
theorem dX4_firstError_0 : decode cX4_firstError 0 = .ok (.aload_n 0, 1) := by decide +kernel
theorem dX4_firstError_1 : decode cX4_firstError 1 = .ok (.getfield 36, 3) := by decide +kernel
theorem dX4_firstError_4 : decode cX4_firstError 4 = .ok (.invokevirtual 107, 3) := by decide +kernel
theorem dX4_firstError_7 : decode cX4_firstError 7 = .ok (.ireturn, 1) := by decide +kernel
set_option maxRecDepth 20000 in
theorem ggX4_layAll_X3_isComplete : GoodIn wsX4_layAll wsX3_isComplete := goodIn_r _ [8, 9, 10, 11, 12, 7, 13, 14, 15, 16, 17, 18, 19, 20, 21, 22, 23, 24, 25, 26, 27, 128, 129] (by decide +kernel) (by decide +kernel)
set_option maxRecDepth 20000 in
theorem gX4_layAll_X3_isComplete : GoodIn wsX4_layAll (wsV RX4 110 RX3 yX3_isComplete wsX3_isComplete) := goodIn_app (goodIn_of _ (by decide +kernel)) ggX4_layAll_X3_isComplete
set_option maxRecDepth 20000 in
theorem ggX4_layAll_X4_needArgument : GoodIn wsX4_layAll wsX4_needArgument := goodIn_ca (goodIn_r _ [31, 32, 33] (by decide +kernel) (by decide +kernel)) (goodIn_sub (fun _ h => List.mem_cons_of_mem _ (List.mem_append_right _ h)) (by decide +kernel))
set_option maxRecDepth 20000 in
theorem gX4_layAll_X4_needArgument : GoodIn wsX4_layAll (va_wsS RX4 44 yX4_needArgument wsX4_needArgument) := goodIn_app (goodIn_of _ (by decide +kernel)) ggX4_layAll_X4_needArgument
set_option maxRecDepth 20000 in
theorem ggX4_layAll_X1_save : GoodIn wsX4_layAll wsX1_save := goodIn_r _ [38, 39, 40, 41, 42, 43, 44, 45, 46, 47, 37, 48, 49, 50, 51, 52, 53, 54, 55, 56, 57, 58, 59, 60, 61, 62, 63, 64, 65, 66, 67, 68, 69, 130, 131, 132, 133, 134, 135, 136, 137, 138, 139] (by decide +kernel) (by decide +kernel)
set_option maxRecDepth 20000 in
theorem gX4_layAll_X1_save : GoodIn wsX4_layAll (wsV RX4 48 RX1 yX1_save wsX1_save) := goodIn_app (goodIn_of _ (by decide +kernel)) ggX4_layAll_X1_save
set_option maxRecDepth 20000 in
theorem ggX4_layAll_X3_length : GoodIn wsX4_layAll wsX3_length := goodIn_r _ [73, 9, 128, 129] (by decide +kernel) (by decide +kernel)
set_option maxRecDepth 20000 in
theorem gX4_layAll_X3_length : GoodIn wsX4_layAll (wsV RX4 96 RX3 yX3_length wsX3_length) := goodIn_app (goodIn_of _ (by decide +kernel)) ggX4_layAll_X3_length
set_option maxRecDepth 20000 in
theorem ggX4_layAll_X3_signAt : GoodIn wsX4_layAll wsX3_signAt := goodIn_r _ [13, 9, 14, 128, 129] (by decide +kernel) (by decide +kernel)
set_option maxRecDepth 20000 in
theorem gX4_layAll_X3_signAt : GoodIn wsX4_layAll (wsV RX4 114 RX3 yX3_signAt wsX3_signAt) := goodIn_app (goodIn_of _ (by decide +kernel)) ggX4_layAll_X3_signAt
set_option maxRecDepth 20000 in
theorem ggX4_layAll_X3_isCourse : GoodIn wsX4_layAll wsX3_isCourse := goodIn_r _ [27] (by decide +kernel) (by decide +kernel)
set_option maxRecDepth 20000 in
theorem gX4_layAll_X3_isCourse : GoodIn wsX4_layAll (va_wsS RX4 118 yX3_isCourse wsX3_isCourse) := goodIn_app (goodIn_of _ (by decide +kernel)) ggX4_layAll_X3_isCourse
set_option maxRecDepth 20000 in
theorem ggX4_layAll_X3_isSize : GoodIn wsX4_layAll wsX3_isSize := goodIn_r _ [17] (by decide +kernel) (by decide +kernel)
set_option maxRecDepth 20000 in
theorem gX4_layAll_X3_isSize : GoodIn wsX4_layAll (va_wsS RX4 122 yX3_isSize wsX3_isSize) := goodIn_app (goodIn_of _ (by decide +kernel)) ggX4_layAll_X3_isSize
set_option maxRecDepth 20000 in
theorem ggX4_layAll_X2_reasonAgainst : GoodIn wsX4_layAll wsX2_reasonAgainst := goodIn_r _ [80, 81, 82, 83, 53, 84, 55, 56, 85, 86, 87, 88, 89, 90, 91, 92, 93, 94, 95, 58, 96, 97, 98, 99, 100, 101, 102, 103, 104, 105, 106, 107, 108, 109, 110, 111, 57, 133, 134, 135, 136, 137, 138, 139] (by decide +kernel) (by decide +kernel)
set_option maxRecDepth 20000 in
theorem gX4_layAll_X2_reasonAgainst : GoodIn wsX4_layAll (wsV RX4 59 RX2 yX2_reasonAgainst wsX2_reasonAgainst) := goodIn_app (goodIn_of _ (by decide +kernel)) ggX4_layAll_X2_reasonAgainst
set_option maxRecDepth 20000 in
theorem ggX4_layAll_X2_put : GoodIn wsX4_layAll wsX2_put := goodIn_r _ [115, 56, 57, 58, 61, 88, 89, 90, 53, 91, 92, 93, 94, 95, 85, 86, 87, 116, 117, 118, 133, 134, 135, 136, 137, 138, 139] (by decide +kernel) (by decide +kernel)
set_option maxRecDepth 20000 in
theorem gX4_layAll_X2_put : GoodIn wsX4_layAll (wsV RX4 70 RX2 yX2_put wsX2_put) := goodIn_app (goodIn_of _ (by decide +kernel)) ggX4_layAll_X2_put
set_option maxRecDepth 20000 in
theorem ggX4_layAll_X3_drop : GoodIn wsX4_layAll wsX3_drop := goodIn_r _ [122, 9, 128, 129] (by decide +kernel) (by decide +kernel)
set_option maxRecDepth 20000 in
theorem gX4_layAll_X3_drop : GoodIn wsX4_layAll (wsV RX4 104 RX3 yX3_drop wsX3_drop) := goodIn_app (goodIn_of _ (by decide +kernel)) ggX4_layAll_X3_drop
theorem dX4_layAll_0 : decode cX4_layAll 0 = .ok (.aload_n 0, 1) := by decide +kernel
theorem dX4_layAll_1 : decode cX4_layAll 1 = .ok (.getfield 36, 3) := by decide +kernel
theorem dX4_layAll_4 : decode cX4_layAll 4 = .ok (.invokevirtual 110, 3) := by decide +kernel
theorem dX4_layAll_7 : decode cX4_layAll 7 = .ok (.invokestatic 44, 3) := by decide +kernel
theorem dX4_layAll_10 : decode cX4_layAll 10 = .ok (.aload_n 0, 1) := by decide +kernel
theorem dX4_layAll_11 : decode cX4_layAll 11 = .ok (.getfield 29, 3) := by decide +kernel
theorem dX4_layAll_14 : decode cX4_layAll 14 = .ok (.aload_n 0, 1) := by decide +kernel
theorem dX4_layAll_15 : decode cX4_layAll 15 = .ok (.getfield 10, 3) := by decide +kernel
theorem dX4_layAll_18 : decode cX4_layAll 18 = .ok (.invokevirtual 48, 3) := by decide +kernel
theorem dX4_layAll_21 : decode cX4_layAll 21 = .ok (.iconst 0, 1) := by decide +kernel
theorem dX4_layAll_22 : decode cX4_layAll 22 = .ok (.istore_n 1, 1) := by decide +kernel
theorem dX4_layAll_23 : decode cX4_layAll 23 = .ok (.iconst 0, 1) := by decide +kernel
theorem dX4_layAll_24 : decode cX4_layAll 24 = .ok (.istore_n 2, 1) := by decide +kernel
theorem dX4_layAll_25 : decode cX4_layAll 25 = .ok (.aload_n 0, 1) := by decide +kernel
theorem dX4_layAll_26 : decode cX4_layAll 26 = .ok (.getfield 36, 3) := by decide +kernel
theorem dX4_layAll_29 : decode cX4_layAll 29 = .ok (.invokevirtual 96, 3) := by decide +kernel
theorem dX4_layAll_32 : decode cX4_layAll 32 = .ok (.istore_n 3, 1) := by decide +kernel
theorem dX4_layAll_33 : decode cX4_layAll 33 = .ok (.iconst 0, 1) := by decide +kernel
theorem dX4_layAll_34 : decode cX4_layAll 34 = .ok (.istore 4, 2) := by decide +kernel
theorem dX4_layAll_36 : decode cX4_layAll 36 = .ok (.iload 4, 2) := by decide +kernel
theorem dX4_layAll_38 : decode cX4_layAll 38 = .ok (.iload_n 3, 1) := by decide +kernel
theorem dX4_layAll_39 : decode cX4_layAll 39 = .ok (.if_icmp .ge 109, 3) := by decide +kernel
theorem dX4_layAll_42 : decode cX4_layAll 42 = .ok (.aload_n 0, 1) := by decide +kernel
theorem dX4_layAll_43 : decode cX4_layAll 43 = .ok (.getfield 36, 3) := by decide +kernel
theorem dX4_layAll_46 : decode cX4_layAll 46 = .ok (.iload 4, 2) := by decide +kernel
theorem dX4_layAll_48 : decode cX4_layAll 48 = .ok (.invokevirtual 114, 3) := by decide +kernel
theorem dX4_layAll_51 : decode cX4_layAll 51 = .ok (.istore 5, 2) := by decide +kernel
theorem dX4_layAll_53 : decode cX4_layAll 53 = .ok (.iload 5, 2) := by decide +kernel
theorem dX4_layAll_55 : decode cX4_layAll 55 = .ok (.invokestatic 118, 3) := by decide +kernel
theorem dX4_layAll_58 : decode cX4_layAll 58 = .ok (.ifCond .eq 12, 3) := by decide +kernel
theorem dX4_layAll_61 : decode cX4_layAll 61 = .ok (.iload 5, 2) := by decide +kernel
theorem dX4_layAll_63 : decode cX4_layAll 63 = .ok (.bipush 97, 2) := by decide +kernel
theorem dX4_layAll_65 : decode cX4_layAll 65 = .ok (.isub, 1) := by decide +kernel
theorem dX4_layAll_66 : decode cX4_layAll 66 = .ok (.istore_n 2, 1) := by decide +kernel
theorem dX4_layAll_67 : decode cX4_layAll 67 = .ok (.goto 75, 3) := by decide +kernel
theorem dX4_layAll_70 : decode cX4_layAll 70 = .ok (.iload 5, 2) := by decide +kernel
theorem dX4_layAll_72 : decode cX4_layAll 72 = .ok (.invokestatic 122, 3) := by decide +kernel
theorem dX4_layAll_75 : decode cX4_layAll 75 = .ok (.ifCond .eq 67, 3) := by decide +kernel
theorem dX4_layAll_78 : decode cX4_layAll 78 = .ok (.iload 5, 2) := by decide +kernel
theorem dX4_layAll_80 : decode cX4_layAll 80 = .ok (.bipush 48, 2) := by decide +kernel
theorem dX4_layAll_82 : decode cX4_layAll 82 = .ok (.isub, 1) := by decide +kernel
theorem dX4_layAll_83 : decode cX4_layAll 83 = .ok (.istore 6, 2) := by decide +kernel
theorem dX4_layAll_85 : decode cX4_layAll 85 = .ok (.aload_n 0, 1) := by decide +kernel
theorem dX4_layAll_86 : decode cX4_layAll 86 = .ok (.getfield 36, 3) := by decide +kernel
theorem dX4_layAll_89 : decode cX4_layAll 89 = .ok (.iload 4, 2) := by decide +kernel
theorem dX4_layAll_91 : decode cX4_layAll 91 = .ok (.iconst 1, 1) := by decide +kernel
theorem dX4_layAll_92 : decode cX4_layAll 92 = .ok (.iadd, 1) := by decide +kernel
theorem dX4_layAll_93 : decode cX4_layAll 93 = .ok (.invokevirtual 114, 3) := by decide +kernel
theorem dX4_layAll_96 : decode cX4_layAll 96 = .ok (.bipush 33, 2) := by decide +kernel
theorem dX4_layAll_98 : decode cX4_layAll 98 = .ok (.if_icmp .ne 7, 3) := by decide +kernel
theorem dX4_layAll_101 : decode cX4_layAll 101 = .ok (.iconst 1, 1) := by decide +kernel
theorem dX4_layAll_102 : decode cX4_layAll 102 = .ok (.goto 4, 3) := by decide +kernel
theorem dX4_layAll_105 : decode cX4_layAll 105 = .ok (.iconst 0, 1) := by decide +kernel
theorem dX4_layAll_106 : decode cX4_layAll 106 = .ok (.istore 7, 2) := by decide +kernel
theorem dX4_layAll_108 : decode cX4_layAll 108 = .ok (.aload_n 0, 1) := by decide +kernel
theorem dX4_layAll_109 : decode cX4_layAll 109 = .ok (.getfield 10, 3) := by decide +kernel
theorem dX4_layAll_112 : decode cX4_layAll 112 = .ok (.iload_n 2, 1) := by decide +kernel
theorem dX4_layAll_113 : decode cX4_layAll 113 = .ok (.iload 6, 2) := by decide +kernel
theorem dX4_layAll_115 : decode cX4_layAll 115 = .ok (.iload 7, 2) := by decide +kernel
theorem dX4_layAll_117 : decode cX4_layAll 117 = .ok (.invokevirtual 59, 3) := by decide +kernel
theorem dX4_layAll_120 : decode cX4_layAll 120 = .ok (.ifCond .eq 6, 3) := by decide +kernel
theorem dX4_layAll_123 : decode cX4_layAll 123 = .ok (.goto 25, 3) := by decide +kernel
theorem dX4_layAll_126 : decode cX4_layAll 126 = .ok (.aload_n 0, 1) := by decide +kernel
theorem dX4_layAll_127 : decode cX4_layAll 127 = .ok (.getfield 10, 3) := by decide +kernel
theorem dX4_layAll_130 : decode cX4_layAll 130 = .ok (.iload_n 2, 1) := by decide +kernel
theorem dX4_layAll_131 : decode cX4_layAll 131 = .ok (.iload 6, 2) := by decide +kernel
theorem dX4_layAll_133 : decode cX4_layAll 133 = .ok (.iload 7, 2) := by decide +kernel
theorem dX4_layAll_135 : decode cX4_layAll 135 = .ok (.invokevirtual 70, 3) := by decide +kernel
theorem dX4_layAll_138 : decode cX4_layAll 138 = .ok (.pop, 1) := by decide +kernel
theorem dX4_layAll_139 : decode cX4_layAll 139 = .ok (.iinc 1 1, 3) := by decide +kernel
theorem dX4_layAll_142 : decode cX4_layAll 142 = .ok (.iinc 4 1, 3) := by decide +kernel
theorem dX4_layAll_145 : decode cX4_layAll 145 = .ok (.goto (-109), 3) := by decide +kernel
theorem dX4_layAll_148 : decode cX4_layAll 148 = .ok (.aload_n 0, 1) := by decide +kernel
theorem dX4_layAll_149 : decode cX4_layAll 149 = .ok (.getfield 36, 3) := by decide +kernel
theorem dX4_layAll_152 : decode cX4_layAll 152 = .ok (.invokevirtual 104, 3) := by decide +kernel
theorem dX4_layAll_155 : decode cX4_layAll 155 = .ok (.pop, 1) := by decide +kernel
theorem dX4_layAll_156 : decode cX4_layAll 156 = .ok (.iload_n 1, 1) := by decide +kernel
theorem dX4_layAll_157 : decode cX4_layAll 157 = .ok (.ireturn, 1) := by decide +kernel
set_option maxRecDepth 20000 in
theorem ggX4_undo_X1_size : GoodIn wsX4_undo wsX1_size := goodIn_r _ [7, 8, 53, 54, 55] (by decide +kernel) (by decide +kernel)
set_option maxRecDepth 20000 in
theorem gX4_undo_X1_size : GoodIn wsX4_undo (wsV RX4 125 RX1 yX1_size wsX1_size) := goodIn_app (goodIn_of _ (by decide +kernel)) ggX4_undo_X1_size
set_option maxRecDepth 20000 in
theorem ggX4_undo_X4_needState : GoodIn wsX4_undo wsX4_needState := goodIn_ca (goodIn_r _ [12, 13, 14] (by decide +kernel) (by decide +kernel)) (goodIn_sub (fun _ h => List.mem_cons_of_mem _ (List.mem_append_right _ h)) (by decide +kernel))
set_option maxRecDepth 20000 in
theorem gX4_undo_X4_needState : GoodIn wsX4_undo (va_wsS RX4 63 yX4_needState wsX4_needState) := goodIn_app (goodIn_of _ (by decide +kernel)) ggX4_undo_X4_needState
set_option maxRecDepth 20000 in
theorem ggX4_undo_X1_restore : GoodIn wsX4_undo wsX1_restore := goodIn_r _ [18, 19, 8, 20, 21, 22, 6, 23, 24, 25, 26, 27, 28, 29, 30, 31, 32, 33, 34, 35, 36, 37, 38, 39, 40, 41, 42, 43, 44, 45, 46, 47, 53, 54, 55, 56, 57, 58, 59, 60, 61, 62] (by decide +kernel) (by decide +kernel)
set_option maxRecDepth 20000 in
theorem gX4_undo_X1_restore : GoodIn wsX4_undo (wsV RX4 128 RX1 yX1_restore wsX1_restore) := goodIn_app (goodIn_of _ (by decide +kernel)) ggX4_undo_X1_restore
theorem dX4_undo_0 : decode cX4_undo 0 = .ok (.aload_n 0, 1) := by decide +kernel
theorem dX4_undo_1 : decode cX4_undo 1 = .ok (.getfield 29, 3) := by decide +kernel
theorem dX4_undo_4 : decode cX4_undo 4 = .ok (.invokevirtual 125, 3) := by decide +kernel
theorem dX4_undo_7 : decode cX4_undo 7 = .ok (.ifCond .le 7, 3) := by decide +kernel
theorem dX4_undo_10 : decode cX4_undo 10 = .ok (.iconst 1, 1) := by decide +kernel
theorem dX4_undo_11 : decode cX4_undo 11 = .ok (.goto 4, 3) := by decide +kernel
theorem dX4_undo_14 : decode cX4_undo 14 = .ok (.iconst 0, 1) := by decide +kernel
theorem dX4_undo_15 : decode cX4_undo 15 = .ok (.invokestatic 63, 3) := by decide +kernel
theorem dX4_undo_18 : decode cX4_undo 18 = .ok (.aload_n 0, 1) := by decide +kernel
theorem dX4_undo_19 : decode cX4_undo 19 = .ok (.getfield 29, 3) := by decide +kernel
theorem dX4_undo_22 : decode cX4_undo 22 = .ok (.aload_n 0, 1) := by decide +kernel
theorem dX4_undo_23 : decode cX4_undo 23 = .ok (.getfield 10, 3) := by decide +kernel
theorem dX4_undo_26 : decode cX4_undo 26 = .ok (.invokevirtual 128, 3) := by decide +kernel
theorem dX4_undo_29 : decode cX4_undo 29 = .ok (.aload_n 0, 1) := by decide +kernel
theorem dX4_undo_30 : decode cX4_undo 30 = .ok (.getfield 29, 3) := by decide +kernel
theorem dX4_undo_33 : decode cX4_undo 33 = .ok (.invokevirtual 125, 3) := by decide +kernel
theorem dX4_undo_36 : decode cX4_undo 36 = .ok (.ireturn, 1) := by decide +kernel
set_option maxRecDepth 20000 in
theorem ggX4_course_X4_needCourse : GoodIn wsX4_course wsX4_needCourse := goodIn_ca (goodIn_r _ [5, 6, 7, 4, 8, 9, 10] (by decide +kernel) (by decide +kernel)) (goodIn_sub (fun _ h => List.mem_cons_of_mem _ (List.mem_append_left _ (List.mem_append_right _ h))) (by decide +kernel))
set_option maxRecDepth 20000 in
theorem gX4_course_X4_needCourse : GoodIn wsX4_course (va_wsS RX4 56 yX4_needCourse wsX4_needCourse) := goodIn_app (goodIn_of _ (by decide +kernel)) ggX4_course_X4_needCourse
set_option maxRecDepth 20000 in
theorem ggX4_course_X4_needArgument : GoodIn wsX4_course wsX4_needArgument := goodIn_ca (goodIn_r _ [13, 14, 15] (by decide +kernel) (by decide +kernel)) (goodIn_sub (fun _ h => List.mem_cons_of_mem _ (List.mem_append_right _ h)) (by decide +kernel))
set_option maxRecDepth 20000 in
theorem gX4_course_X4_needArgument : GoodIn wsX4_course (va_wsS RX4 44 yX4_needArgument wsX4_needArgument) := goodIn_app (goodIn_of _ (by decide +kernel)) ggX4_course_X4_needArgument
set_option maxRecDepth 20000 in
theorem ggX4_course_X2_property : GoodIn wsX4_course wsX2_property := goodIn_r _ [20, 21, 22, 23, 19, 24, 25, 26, 27, 28, 29, 30, 31, 32, 33, 34, 35, 36, 37, 38, 39, 40, 41, 42, 43, 44, 45, 46, 47, 48, 49, 50, 51, 52, 53, 54, 55, 56, 57, 58, 59, 60, 61, 62, 63, 64, 65, 66, 72, 73, 74, 75, 76, 77, 78] (by decide +kernel) (by decide +kernel)
set_option maxRecDepth 20000 in
theorem gX4_course_X2_property : GoodIn wsX4_course (wsV RX4 131 RX2 yX2_property wsX2_property) := goodIn_app (goodIn_of _ (by decide +kernel)) ggX4_course_X2_property
theorem dX4_course_0 : decode cX4_course 0 = .ok (.iload_n 1, 1) := by decide +kernel
theorem dX4_course_1 : decode cX4_course 1 = .ok (.invokestatic 56, 3) := by decide +kernel
theorem dX4_course_4 : decode cX4_course 4 = .ok (.iload_n 2, 1) := by decide +kernel
theorem dX4_course_5 : decode cX4_course 5 = .ok (.ifCond .lt 13, 3) := by decide +kernel
theorem dX4_course_8 : decode cX4_course 8 = .ok (.iload_n 2, 1) := by decide +kernel
theorem dX4_course_9 : decode cX4_course 9 = .ok (.bipush 7, 2) := by decide +kernel
theorem dX4_course_11 : decode cX4_course 11 = .ok (.if_icmp .ge 7, 3) := by decide +kernel
theorem dX4_course_14 : decode cX4_course 14 = .ok (.iconst 1, 1) := by decide +kernel
theorem dX4_course_15 : decode cX4_course 15 = .ok (.goto 4, 3) := by decide +kernel
theorem dX4_course_18 : decode cX4_course 18 = .ok (.iconst 0, 1) := by decide +kernel
theorem dX4_course_19 : decode cX4_course 19 = .ok (.invokestatic 44, 3) := by decide +kernel
theorem dX4_course_22 : decode cX4_course 22 = .ok (.aload_n 0, 1) := by decide +kernel
theorem dX4_course_23 : decode cX4_course 23 = .ok (.getfield 10, 3) := by decide +kernel
theorem dX4_course_26 : decode cX4_course 26 = .ok (.iload_n 1, 1) := by decide +kernel
theorem dX4_course_27 : decode cX4_course 27 = .ok (.iload_n 2, 1) := by decide +kernel
theorem dX4_course_28 : decode cX4_course 28 = .ok (.invokevirtual 131, 3) := by decide +kernel
theorem dX4_course_31 : decode cX4_course 31 = .ok (.ireturn, 1) := by decide +kernel
set_option maxRecDepth 20000 in
theorem ggX4_cell_X4_needCourse : GoodIn wsX4_cell wsX4_needCourse := goodIn_ca (goodIn_r _ [5, 6, 7, 4, 8, 9, 10] (by decide +kernel) (by decide +kernel)) (goodIn_sub (fun _ h => List.mem_cons_of_mem _ (List.mem_append_left _ (List.mem_append_right _ h))) (by decide +kernel))
set_option maxRecDepth 20000 in
theorem gX4_cell_X4_needCourse : GoodIn wsX4_cell (va_wsS RX4 56 yX4_needCourse wsX4_needCourse) := goodIn_app (goodIn_of _ (by decide +kernel)) ggX4_cell_X4_needCourse
set_option maxRecDepth 20000 in
theorem ggX4_cell_X2_cellsOf : GoodIn wsX4_cell wsX2_cellsOf := goodIn_r _ [15, 16, 17, 18, 14, 19, 65, 66, 67, 68, 69, 70, 71] (by decide +kernel) (by decide +kernel)
set_option maxRecDepth 20000 in
theorem gX4_cell_X2_cellsOf : GoodIn wsX4_cell (wsV RX4 134 RX2 yX2_cellsOf wsX2_cellsOf) := goodIn_app (goodIn_of _ (by decide +kernel)) ggX4_cell_X2_cellsOf
set_option maxRecDepth 20000 in
theorem ggX4_cell_X4_needIndex : GoodIn wsX4_cell wsX4_needIndex := goodIn_ca (goodIn_r _ [8, 9, 10] (by decide +kernel) (by decide +kernel)) (goodIn_sub (fun _ h => List.mem_cons_of_mem _ (List.mem_append_left _ (List.mem_append_right _ h))) (by decide +kernel))
set_option maxRecDepth 20000 in
theorem gX4_cell_X4_needIndex : GoodIn wsX4_cell (va_wsS RX4 137 yX4_needIndex wsX4_needIndex) := goodIn_app (goodIn_of _ (by decide +kernel)) ggX4_cell_X4_needIndex
set_option maxRecDepth 20000 in
theorem ggX4_cell_X4_needArgument : GoodIn wsX4_cell wsX4_needArgument := goodIn_ca (goodIn_r _ [22, 23, 24] (by decide +kernel) (by decide +kernel)) (goodIn_sub (fun _ h => List.mem_cons_of_mem _ (List.mem_append_right _ h)) (by decide +kernel))
set_option maxRecDepth 20000 in
theorem gX4_cell_X4_needArgument : GoodIn wsX4_cell (va_wsS RX4 44 yX4_needArgument wsX4_needArgument) := goodIn_app (goodIn_of _ (by decide +kernel)) ggX4_cell_X4_needArgument
set_option maxRecDepth 20000 in
theorem ggX4_cell_X2_sizeAt : GoodIn wsX4_cell wsX2_sizeAt := goodIn_r _ [28, 29, 30, 31, 32, 33, 34, 35, 14, 36, 37, 17, 18, 19, 38, 39, 40, 41, 42, 65, 66, 67, 68, 69, 70, 71] (by decide +kernel) (by decide +kernel)
set_option maxRecDepth 20000 in
theorem gX4_cell_X2_sizeAt : GoodIn wsX4_cell (wsV RX4 140 RX2 yX2_sizeAt wsX2_sizeAt) := goodIn_app (goodIn_of _ (by decide +kernel)) ggX4_cell_X2_sizeAt
set_option maxRecDepth 20000 in
theorem ggX4_cell_X2_hasJoint : GoodIn wsX4_cell wsX2_hasJoint := goodIn_r _ [46, 16, 37, 42, 65, 66, 67, 68, 69, 70, 71] (by decide +kernel) (by decide +kernel)
set_option maxRecDepth 20000 in
theorem gX4_cell_X2_hasJoint : GoodIn wsX4_cell (wsV RX4 143 RX2 yX2_hasJoint wsX2_hasJoint) := goodIn_app (goodIn_of _ (by decide +kernel)) ggX4_cell_X2_hasJoint
set_option maxRecDepth 20000 in
theorem ggX4_cell_X4_numberOf : GoodIn wsX4_cell wsX4_numberOf := goodIn_r _ [49] (by decide +kernel) (by decide +kernel)
set_option maxRecDepth 20000 in
theorem gX4_cell_X4_numberOf : GoodIn wsX4_cell (va_wsS RX4 146 yX4_numberOf wsX4_numberOf) := goodIn_app (goodIn_of _ (by decide +kernel)) ggX4_cell_X4_numberOf
set_option maxRecDepth 20000 in
theorem ggX4_cell_X2_meets : GoodIn wsX4_cell wsX2_meets := goodIn_r _ [53, 16, 65, 66, 67, 68, 69, 70, 71] (by decide +kernel) (by decide +kernel)
set_option maxRecDepth 20000 in
theorem gX4_cell_X2_meets : GoodIn wsX4_cell (wsV RX4 150 RX2 yX2_meets wsX2_meets) := goodIn_app (goodIn_of _ (by decide +kernel)) ggX4_cell_X2_meets
set_option maxRecDepth 20000 in
theorem ggX4_cell_X2_runsThrough : GoodIn wsX4_cell wsX2_runsThrough := goodIn_r _ [57, 58, 51, 52, 14, 53, 16, 59, 44, 45, 46, 37, 42, 65, 66, 67, 68, 69, 70, 71] (by decide +kernel) (by decide +kernel)
set_option maxRecDepth 20000 in
theorem gX4_cell_X2_runsThrough : GoodIn wsX4_cell (wsV RX4 153 RX2 yX2_runsThrough wsX2_runsThrough) := goodIn_app (goodIn_of _ (by decide +kernel)) ggX4_cell_X2_runsThrough
theorem dX4_cell_0 : decode cX4_cell 0 = .ok (.iload_n 1, 1) := by decide +kernel
theorem dX4_cell_1 : decode cX4_cell 1 = .ok (.invokestatic 56, 3) := by decide +kernel
theorem dX4_cell_4 : decode cX4_cell 4 = .ok (.iload_n 2, 1) := by decide +kernel
theorem dX4_cell_5 : decode cX4_cell 5 = .ok (.ifCond .lt 19, 3) := by decide +kernel
theorem dX4_cell_8 : decode cX4_cell 8 = .ok (.iload_n 2, 1) := by decide +kernel
theorem dX4_cell_9 : decode cX4_cell 9 = .ok (.aload_n 0, 1) := by decide +kernel
theorem dX4_cell_10 : decode cX4_cell 10 = .ok (.getfield 10, 3) := by decide +kernel
theorem dX4_cell_13 : decode cX4_cell 13 = .ok (.iload_n 1, 1) := by decide +kernel
theorem dX4_cell_14 : decode cX4_cell 14 = .ok (.invokevirtual 134, 3) := by decide +kernel
theorem dX4_cell_17 : decode cX4_cell 17 = .ok (.if_icmp .ge 7, 3) := by decide +kernel
theorem dX4_cell_20 : decode cX4_cell 20 = .ok (.iconst 1, 1) := by decide +kernel
theorem dX4_cell_21 : decode cX4_cell 21 = .ok (.goto 4, 3) := by decide +kernel
theorem dX4_cell_24 : decode cX4_cell 24 = .ok (.iconst 0, 1) := by decide +kernel
theorem dX4_cell_25 : decode cX4_cell 25 = .ok (.invokestatic 137, 3) := by decide +kernel
theorem dX4_cell_28 : decode cX4_cell 28 = .ok (.iload_n 3, 1) := by decide +kernel
theorem dX4_cell_29 : decode cX4_cell 29 = .ok (.ifCond .lt 12, 3) := by decide +kernel
theorem dX4_cell_32 : decode cX4_cell 32 = .ok (.iload_n 3, 1) := by decide +kernel
theorem dX4_cell_33 : decode cX4_cell 33 = .ok (.iconst 4, 1) := by decide +kernel
theorem dX4_cell_34 : decode cX4_cell 34 = .ok (.if_icmp .ge 7, 3) := by decide +kernel
theorem dX4_cell_37 : decode cX4_cell 37 = .ok (.iconst 1, 1) := by decide +kernel
theorem dX4_cell_38 : decode cX4_cell 38 = .ok (.goto 4, 3) := by decide +kernel
theorem dX4_cell_41 : decode cX4_cell 41 = .ok (.iconst 0, 1) := by decide +kernel
theorem dX4_cell_42 : decode cX4_cell 42 = .ok (.invokestatic 44, 3) := by decide +kernel
theorem dX4_cell_45 : decode cX4_cell 45 = .ok (.iload_n 3, 1) := by decide +kernel
theorem dX4_cell_46 : decode cX4_cell 46 = .ok (.tableswitch 59 0 2 #[26, 36, 49], 26) := by decide +kernel
theorem dX4_cell_72 : decode cX4_cell 72 = .ok (.aload_n 0, 1) := by decide +kernel
theorem dX4_cell_73 : decode cX4_cell 73 = .ok (.getfield 10, 3) := by decide +kernel
theorem dX4_cell_76 : decode cX4_cell 76 = .ok (.iload_n 1, 1) := by decide +kernel
theorem dX4_cell_77 : decode cX4_cell 77 = .ok (.iload_n 2, 1) := by decide +kernel
theorem dX4_cell_78 : decode cX4_cell 78 = .ok (.invokevirtual 140, 3) := by decide +kernel
theorem dX4_cell_81 : decode cX4_cell 81 = .ok (.ireturn, 1) := by decide +kernel
theorem dX4_cell_82 : decode cX4_cell 82 = .ok (.aload_n 0, 1) := by decide +kernel
theorem dX4_cell_83 : decode cX4_cell 83 = .ok (.getfield 10, 3) := by decide +kernel
theorem dX4_cell_86 : decode cX4_cell 86 = .ok (.iload_n 1, 1) := by decide +kernel
theorem dX4_cell_87 : decode cX4_cell 87 = .ok (.iload_n 2, 1) := by decide +kernel
theorem dX4_cell_88 : decode cX4_cell 88 = .ok (.invokevirtual 143, 3) := by decide +kernel
theorem dX4_cell_91 : decode cX4_cell 91 = .ok (.invokestatic 146, 3) := by decide +kernel
theorem dX4_cell_94 : decode cX4_cell 94 = .ok (.ireturn, 1) := by decide +kernel
theorem dX4_cell_95 : decode cX4_cell 95 = .ok (.aload_n 0, 1) := by decide +kernel
theorem dX4_cell_96 : decode cX4_cell 96 = .ok (.getfield 10, 3) := by decide +kernel
theorem dX4_cell_99 : decode cX4_cell 99 = .ok (.iload_n 1, 1) := by decide +kernel
theorem dX4_cell_100 : decode cX4_cell 100 = .ok (.iload_n 2, 1) := by decide +kernel
theorem dX4_cell_101 : decode cX4_cell 101 = .ok (.invokevirtual 150, 3) := by decide +kernel
theorem dX4_cell_104 : decode cX4_cell 104 = .ok (.ireturn, 1) := by decide +kernel
theorem dX4_cell_105 : decode cX4_cell 105 = .ok (.aload_n 0, 1) := by decide +kernel
theorem dX4_cell_106 : decode cX4_cell 106 = .ok (.getfield 10, 3) := by decide +kernel
theorem dX4_cell_109 : decode cX4_cell 109 = .ok (.iload_n 1, 1) := by decide +kernel
theorem dX4_cell_110 : decode cX4_cell 110 = .ok (.iload_n 2, 1) := by decide +kernel
theorem dX4_cell_111 : decode cX4_cell 111 = .ok (.invokevirtual 153, 3) := by decide +kernel
theorem dX4_cell_114 : decode cX4_cell 114 = .ok (.invokestatic 146, 3) := by decide +kernel
theorem dX4_cell_117 : decode cX4_cell 117 = .ok (.ireturn, 1) := by decide +kernel
set_option maxRecDepth 20000 in
theorem ggX4_refusal_X4_needCourse : GoodIn wsX4_refusal wsX4_needCourse := goodIn_ca (goodIn_r _ [5, 6, 7, 4, 8, 9, 10] (by decide +kernel) (by decide +kernel)) (goodIn_sub (fun _ h => List.mem_cons_of_mem _ (List.mem_append_left _ (List.mem_append_right _ h))) (by decide +kernel))
set_option maxRecDepth 20000 in
theorem gX4_refusal_X4_needCourse : GoodIn wsX4_refusal (va_wsS RX4 56 yX4_needCourse wsX4_needCourse) := goodIn_app (goodIn_of _ (by decide +kernel)) ggX4_refusal_X4_needCourse
set_option maxRecDepth 20000 in
theorem ggX4_refusal_X4_needSize : GoodIn wsX4_refusal wsX4_needSize := goodIn_ca (goodIn_r _ [13, 14, 15, 4, 16, 17, 18] (by decide +kernel) (by decide +kernel)) (goodIn_sub (fun _ h => List.mem_cons_of_mem _ (List.mem_append_right _ h)) (by decide +kernel))
set_option maxRecDepth 20000 in
theorem gX4_refusal_X4_needSize : GoodIn wsX4_refusal (va_wsS RX4 40 yX4_needSize wsX4_needSize) := goodIn_app (goodIn_of _ (by decide +kernel)) ggX4_refusal_X4_needSize
set_option maxRecDepth 20000 in
theorem ggX4_refusal_X2_reasonAgainst : GoodIn wsX4_refusal wsX2_reasonAgainst := goodIn_r _ [23, 24, 25, 26, 22, 27, 28, 29, 30, 31, 32, 33, 34, 35, 36, 37, 38, 39, 40, 41, 42, 43, 44, 45, 46, 47, 48, 49, 50, 51, 52, 53, 54, 55, 56, 57, 58, 64, 65, 66, 67, 68, 69, 70] (by decide +kernel) (by decide +kernel)
set_option maxRecDepth 20000 in
theorem gX4_refusal_X2_reasonAgainst : GoodIn wsX4_refusal (wsV RX4 59 RX2 yX2_reasonAgainst wsX2_reasonAgainst) := goodIn_app (goodIn_of _ (by decide +kernel)) ggX4_refusal_X2_reasonAgainst
theorem dX4_refusal_0 : decode cX4_refusal 0 = .ok (.iload_n 1, 1) := by decide +kernel
theorem dX4_refusal_1 : decode cX4_refusal 1 = .ok (.invokestatic 56, 3) := by decide +kernel
theorem dX4_refusal_4 : decode cX4_refusal 4 = .ok (.iload_n 2, 1) := by decide +kernel
theorem dX4_refusal_5 : decode cX4_refusal 5 = .ok (.invokestatic 40, 3) := by decide +kernel
theorem dX4_refusal_8 : decode cX4_refusal 8 = .ok (.aload_n 0, 1) := by decide +kernel
theorem dX4_refusal_9 : decode cX4_refusal 9 = .ok (.getfield 10, 3) := by decide +kernel
theorem dX4_refusal_12 : decode cX4_refusal 12 = .ok (.iload_n 1, 1) := by decide +kernel
theorem dX4_refusal_13 : decode cX4_refusal 13 = .ok (.iload_n 2, 1) := by decide +kernel
theorem dX4_refusal_14 : decode cX4_refusal 14 = .ok (.iload_n 3, 1) := by decide +kernel
theorem dX4_refusal_15 : decode cX4_refusal 15 = .ok (.invokevirtual 59, 3) := by decide +kernel
theorem dX4_refusal_18 : decode cX4_refusal 18 = .ok (.ireturn, 1) := by decide +kernel
set_option maxRecDepth 20000 in
theorem ggX4_stockOf_X4_needSize : GoodIn wsX4_stockOf wsX4_needSize := goodIn_ca (goodIn_r _ [5, 6, 7, 4, 8, 9, 10] (by decide +kernel) (by decide +kernel)) (goodIn_sub (fun _ h => List.mem_cons_of_mem _ (List.mem_append_right _ h)) (by decide +kernel))
set_option maxRecDepth 20000 in
theorem gX4_stockOf_X4_needSize : GoodIn wsX4_stockOf (va_wsS RX4 40 yX4_needSize wsX4_needSize) := goodIn_app (goodIn_of _ (by decide +kernel)) ggX4_stockOf_X4_needSize
set_option maxRecDepth 20000 in
theorem ggX4_stockOf_X2_inStock : GoodIn wsX4_stockOf wsX2_inStock := goodIn_r _ [15, 16, 22, 23, 24, 25, 26, 27, 28] (by decide +kernel) (by decide +kernel)
set_option maxRecDepth 20000 in
theorem gX4_stockOf_X2_inStock : GoodIn wsX4_stockOf (wsV RX4 156 RX2 yX2_inStock wsX2_inStock) := goodIn_app (goodIn_of _ (by decide +kernel)) ggX4_stockOf_X2_inStock
theorem dX4_stockOf_0 : decode cX4_stockOf 0 = .ok (.iload_n 1, 1) := by decide +kernel
theorem dX4_stockOf_1 : decode cX4_stockOf 1 = .ok (.invokestatic 40, 3) := by decide +kernel
theorem dX4_stockOf_4 : decode cX4_stockOf 4 = .ok (.aload_n 0, 1) := by decide +kernel
theorem dX4_stockOf_5 : decode cX4_stockOf 5 = .ok (.getfield 10, 3) := by decide +kernel
theorem dX4_stockOf_8 : decode cX4_stockOf 8 = .ok (.iload_n 1, 1) := by decide +kernel
theorem dX4_stockOf_9 : decode cX4_stockOf 9 = .ok (.invokevirtual 156, 3) := by decide +kernel
theorem dX4_stockOf_12 : decode cX4_stockOf 12 = .ok (.ireturn, 1) := by decide +kernel
set_option maxRecDepth 20000 in
theorem ggX4_count_X4_needArgument : GoodIn wsX4_count wsX4_needArgument := goodIn_ca (goodIn_r _ [6, 7, 8] (by decide +kernel) (by decide +kernel)) (goodIn_sub (fun _ h => List.mem_cons_of_mem _ (List.mem_append_right _ h)) (by decide +kernel))
set_option maxRecDepth 20000 in
theorem gX4_count_X4_needArgument : GoodIn wsX4_count (va_wsS RX4 44 yX4_needArgument wsX4_needArgument) := goodIn_app (goodIn_of _ (by decide +kernel)) ggX4_count_X4_needArgument
set_option maxRecDepth 20000 in
theorem ggX4_count_X2_summed : GoodIn wsX4_count wsX2_summed := goodIn_r _ [13, 14, 15, 16, 12, 17, 18, 19, 20, 21, 22, 23, 24, 25, 26, 27, 28, 29, 30, 31, 32, 33, 34, 35, 36, 37, 38, 39, 40, 41, 42, 43, 44, 45, 46, 47, 48, 49, 50, 51, 52, 53, 54, 55, 56, 57, 58, 59, 60, 61, 62, 63, 97, 98, 99, 100, 101, 102, 103] (by decide +kernel) (by decide +kernel)
set_option maxRecDepth 20000 in
theorem gX4_count_X2_summed : GoodIn wsX4_count (wsV RX4 82 RX2 yX2_summed wsX2_summed) := goodIn_app (goodIn_of _ (by decide +kernel)) ggX4_count_X2_summed
set_option maxRecDepth 20000 in
theorem ggX4_count_X2_throughJoints : GoodIn wsX4_count wsX2_throughJoints := goodIn_r _ [67, 18, 19, 20, 12, 21, 22, 23, 24, 25, 48, 49, 50, 51, 34, 39, 68, 69, 70, 71, 56, 57, 58, 59, 97, 98, 99, 100, 101, 102, 103] (by decide +kernel) (by decide +kernel)
set_option maxRecDepth 20000 in
theorem gX4_count_X2_throughJoints : GoodIn wsX4_count (wsV RX4 159 RX2 yX2_throughJoints wsX2_throughJoints) := goodIn_app (goodIn_of _ (by decide +kernel)) ggX4_count_X2_throughJoints
set_option maxRecDepth 20000 in
theorem ggX4_count_X2_wasted : GoodIn wsX4_count wsX2_wasted := goodIn_r _ [75, 76, 97, 98, 99, 100, 101, 102, 103] (by decide +kernel) (by decide +kernel)
set_option maxRecDepth 20000 in
theorem gX4_count_X2_wasted : GoodIn wsX4_count (wsV RX4 162 RX2 yX2_wasted wsX2_wasted) := goodIn_app (goodIn_of _ (by decide +kernel)) ggX4_count_X2_wasted
set_option maxRecDepth 20000 in
theorem ggX4_count_X2_stockCells : GoodIn wsX4_count wsX2_stockCells := goodIn_r _ [80, 81, 82, 83, 12, 84, 85, 97, 98, 99, 100, 101, 102, 103] (by decide +kernel) (by decide +kernel)
set_option maxRecDepth 20000 in
theorem gX4_count_X2_stockCells : GoodIn wsX4_count (wsV RX4 165 RX2 yX2_stockCells wsX2_stockCells) := goodIn_app (goodIn_of _ (by decide +kernel)) ggX4_count_X2_stockCells
set_option maxRecDepth 20000 in
theorem ggX4_count_X1_size : GoodIn wsX4_count wsX1_size := goodIn_r _ [90, 91, 104, 105, 106] (by decide +kernel) (by decide +kernel)
set_option maxRecDepth 20000 in
theorem gX4_count_X1_size : GoodIn wsX4_count (wsV RX4 125 RX1 yX1_size wsX1_size) := goodIn_app (goodIn_of _ (by decide +kernel)) ggX4_count_X1_size
theorem dX4_count_0 : decode cX4_count 0 = .ok (.iload_n 1, 1) := by decide +kernel
theorem dX4_count_1 : decode cX4_count 1 = .ok (.ifCond .lt 13, 3) := by decide +kernel
theorem dX4_count_4 : decode cX4_count 4 = .ok (.iload_n 1, 1) := by decide +kernel
theorem dX4_count_5 : decode cX4_count 5 = .ok (.bipush 8, 2) := by decide +kernel
theorem dX4_count_7 : decode cX4_count 7 = .ok (.if_icmp .ge 7, 3) := by decide +kernel
theorem dX4_count_10 : decode cX4_count 10 = .ok (.iconst 1, 1) := by decide +kernel
theorem dX4_count_11 : decode cX4_count 11 = .ok (.goto 4, 3) := by decide +kernel
theorem dX4_count_14 : decode cX4_count 14 = .ok (.iconst 0, 1) := by decide +kernel
theorem dX4_count_15 : decode cX4_count 15 = .ok (.invokestatic 44, 3) := by decide +kernel
theorem dX4_count_18 : decode cX4_count 18 = .ok (.iload_n 1, 1) := by decide +kernel
theorem dX4_count_19 : decode cX4_count 19 = .ok (.tableswitch 102 0 6 #[41, 50, 59, 68, 76, 86, 94], 41) := by decide +kernel
theorem dX4_count_60 : decode cX4_count 60 = .ok (.aload_n 0, 1) := by decide +kernel
theorem dX4_count_61 : decode cX4_count 61 = .ok (.getfield 10, 3) := by decide +kernel
theorem dX4_count_64 : decode cX4_count 64 = .ok (.iconst 1, 1) := by decide +kernel
theorem dX4_count_65 : decode cX4_count 65 = .ok (.invokevirtual 82, 3) := by decide +kernel
theorem dX4_count_68 : decode cX4_count 68 = .ok (.ireturn, 1) := by decide +kernel
theorem dX4_count_69 : decode cX4_count 69 = .ok (.aload_n 0, 1) := by decide +kernel
theorem dX4_count_70 : decode cX4_count 70 = .ok (.getfield 10, 3) := by decide +kernel
theorem dX4_count_73 : decode cX4_count 73 = .ok (.iconst 3, 1) := by decide +kernel
theorem dX4_count_74 : decode cX4_count 74 = .ok (.invokevirtual 82, 3) := by decide +kernel
theorem dX4_count_77 : decode cX4_count 77 = .ok (.ireturn, 1) := by decide +kernel
theorem dX4_count_78 : decode cX4_count 78 = .ok (.aload_n 0, 1) := by decide +kernel
theorem dX4_count_79 : decode cX4_count 79 = .ok (.getfield 10, 3) := by decide +kernel
theorem dX4_count_82 : decode cX4_count 82 = .ok (.iconst 4, 1) := by decide +kernel
theorem dX4_count_83 : decode cX4_count 83 = .ok (.invokevirtual 82, 3) := by decide +kernel
theorem dX4_count_86 : decode cX4_count 86 = .ok (.ireturn, 1) := by decide +kernel
theorem dX4_count_87 : decode cX4_count 87 = .ok (.aload_n 0, 1) := by decide +kernel
theorem dX4_count_88 : decode cX4_count 88 = .ok (.getfield 10, 3) := by decide +kernel
theorem dX4_count_91 : decode cX4_count 91 = .ok (.invokevirtual 159, 3) := by decide +kernel
theorem dX4_count_94 : decode cX4_count 94 = .ok (.ireturn, 1) := by decide +kernel
theorem dX4_count_95 : decode cX4_count 95 = .ok (.aload_n 0, 1) := by decide +kernel
theorem dX4_count_96 : decode cX4_count 96 = .ok (.getfield 10, 3) := by decide +kernel
theorem dX4_count_99 : decode cX4_count 99 = .ok (.bipush 6, 2) := by decide +kernel
theorem dX4_count_101 : decode cX4_count 101 = .ok (.invokevirtual 82, 3) := by decide +kernel
theorem dX4_count_104 : decode cX4_count 104 = .ok (.ireturn, 1) := by decide +kernel
theorem dX4_count_105 : decode cX4_count 105 = .ok (.aload_n 0, 1) := by decide +kernel
theorem dX4_count_106 : decode cX4_count 106 = .ok (.getfield 10, 3) := by decide +kernel
theorem dX4_count_109 : decode cX4_count 109 = .ok (.invokevirtual 162, 3) := by decide +kernel
theorem dX4_count_112 : decode cX4_count 112 = .ok (.ireturn, 1) := by decide +kernel
theorem dX4_count_113 : decode cX4_count 113 = .ok (.aload_n 0, 1) := by decide +kernel
theorem dX4_count_114 : decode cX4_count 114 = .ok (.getfield 10, 3) := by decide +kernel
theorem dX4_count_117 : decode cX4_count 117 = .ok (.invokevirtual 165, 3) := by decide +kernel
theorem dX4_count_120 : decode cX4_count 120 = .ok (.ireturn, 1) := by decide +kernel
theorem dX4_count_121 : decode cX4_count 121 = .ok (.aload_n 0, 1) := by decide +kernel
theorem dX4_count_122 : decode cX4_count 122 = .ok (.getfield 29, 3) := by decide +kernel
theorem dX4_count_125 : decode cX4_count 125 = .ok (.invokevirtual 125, 3) := by decide +kernel
theorem dX4_count_128 : decode cX4_count 128 = .ok (.ireturn, 1) := by decide +kernel
set_option maxRecDepth 20000 in
theorem ggX4_setting_X4_needSetting : GoodIn wsX4_setting wsX4_needSetting := goodIn_ca (goodIn_r _ [5, 6, 7, 4, 8, 9, 10] (by decide +kernel) (by decide +kernel)) (goodIn_sub (fun _ h => List.mem_cons_of_mem _ (List.mem_append_right _ h)) (by decide +kernel))
set_option maxRecDepth 20000 in
theorem gX4_setting_X4_needSetting : GoodIn wsX4_setting (va_wsS RX4 85 yX4_needSetting wsX4_needSetting) := goodIn_app (goodIn_of _ (by decide +kernel)) ggX4_setting_X4_needSetting
set_option maxRecDepth 20000 in
theorem ggX4_setting_X2_settingOf : GoodIn wsX4_setting wsX2_settingOf := goodIn_r _ [15, 16, 17, 18, 24, 25, 26, 27, 28, 29, 30] (by decide +kernel) (by decide +kernel)
set_option maxRecDepth 20000 in
theorem gX4_setting_X2_settingOf : GoodIn wsX4_setting (wsV RX4 76 RX2 yX2_settingOf wsX2_settingOf) := goodIn_app (goodIn_of _ (by decide +kernel)) ggX4_setting_X2_settingOf
theorem dX4_setting_0 : decode cX4_setting 0 = .ok (.iload_n 1, 1) := by decide +kernel
theorem dX4_setting_1 : decode cX4_setting 1 = .ok (.invokestatic 85, 3) := by decide +kernel
theorem dX4_setting_4 : decode cX4_setting 4 = .ok (.aload_n 0, 1) := by decide +kernel
theorem dX4_setting_5 : decode cX4_setting 5 = .ok (.getfield 10, 3) := by decide +kernel
theorem dX4_setting_8 : decode cX4_setting 8 = .ok (.iload_n 1, 1) := by decide +kernel
theorem dX4_setting_9 : decode cX4_setting 9 = .ok (.invokevirtual 76, 3) := by decide +kernel
theorem dX4_setting_12 : decode cX4_setting 12 = .ok (.ireturn, 1) := by decide +kernel
set_option maxRecDepth 20000 in
theorem ggX4_fewest_X4_needCourse : GoodIn wsX4_fewest wsX4_needCourse := goodIn_ca (goodIn_r _ [6, 7, 8, 5, 9, 10, 11] (by decide +kernel) (by decide +kernel)) (goodIn_sub (fun _ h => List.mem_cons_of_mem _ (List.mem_append_right _ h)) (by decide +kernel))
set_option maxRecDepth 20000 in
theorem gX4_fewest_X4_needCourse : GoodIn wsX4_fewest (va_wsS RX4 56 yX4_needCourse wsX4_needCourse) := goodIn_app (goodIn_of _ (by decide +kernel)) ggX4_fewest_X4_needCourse
set_option maxRecDepth 20000 in
theorem ggX4_fewest_X0_find : GoodIn wsX4_fewest wsX0_find := goodIn_r _ [16, 17, 18, 19, 20, 21, 22, 23, 24, 25, 26, 27, 28, 29, 30, 31, 32, 33, 34, 35, 36, 37, 38, 39, 40, 41, 42, 43, 44, 45, 46, 47, 48, 49, 15, 50, 51, 52, 53, 54, 64, 65, 66, 67, 68, 69, 70, 71, 72, 73] (by decide +kernel) (by decide +kernel)
set_option maxRecDepth 20000 in
theorem gX4_fewest_X0_find : GoodIn wsX4_fewest (wsV RX4 168 RX0 yX0_find wsX0_find) := goodIn_app (goodIn_of _ (by decide +kernel)) ggX4_fewest_X0_find
set_option maxRecDepth 20000 in
theorem ggX4_fewest_X0_pebbles : GoodIn wsX4_fewest wsX0_pebbles := goodIn_r _ [58, 17, 64, 65, 66] (by decide +kernel) (by decide +kernel)
set_option maxRecDepth 20000 in
theorem gX4_fewest_X0_pebbles : GoodIn wsX4_fewest (wsV RX4 172 RX0 yX0_pebbles wsX0_pebbles) := goodIn_app (goodIn_of _ (by decide +kernel)) ggX4_fewest_X0_pebbles
theorem dX4_fewest_0 : decode cX4_fewest 0 = .ok (.iload_n 1, 1) := by decide +kernel
theorem dX4_fewest_1 : decode cX4_fewest 1 = .ok (.invokestatic 56, 3) := by decide +kernel
theorem dX4_fewest_4 : decode cX4_fewest 4 = .ok (.aload_n 0, 1) := by decide +kernel
theorem dX4_fewest_5 : decode cX4_fewest 5 = .ok (.getfield 22, 3) := by decide +kernel
theorem dX4_fewest_8 : decode cX4_fewest 8 = .ok (.aload_n 0, 1) := by decide +kernel
theorem dX4_fewest_9 : decode cX4_fewest 9 = .ok (.getfield 10, 3) := by decide +kernel
theorem dX4_fewest_12 : decode cX4_fewest 12 = .ok (.iload_n 1, 1) := by decide +kernel
theorem dX4_fewest_13 : decode cX4_fewest 13 = .ok (.invokevirtual 168, 3) := by decide +kernel
theorem dX4_fewest_16 : decode cX4_fewest 16 = .ok (.aload_n 0, 1) := by decide +kernel
theorem dX4_fewest_17 : decode cX4_fewest 17 = .ok (.getfield 22, 3) := by decide +kernel
theorem dX4_fewest_20 : decode cX4_fewest 20 = .ok (.invokevirtual 172, 3) := by decide +kernel
theorem dX4_fewest_23 : decode cX4_fewest 23 = .ok (.ireturn, 1) := by decide +kernel
set_option maxRecDepth 20000 in
theorem ggX4_nextSize_X4_needCourse : GoodIn wsX4_nextSize wsX4_needCourse := goodIn_ca (goodIn_r _ [6, 7, 8, 5, 9, 10, 11] (by decide +kernel) (by decide +kernel)) (goodIn_sub (fun _ h => List.mem_cons_of_mem _ (List.mem_append_right _ h)) (by decide +kernel))
set_option maxRecDepth 20000 in
theorem gX4_nextSize_X4_needCourse : GoodIn wsX4_nextSize (va_wsS RX4 56 yX4_needCourse wsX4_needCourse) := goodIn_app (goodIn_of _ (by decide +kernel)) ggX4_nextSize_X4_needCourse
set_option maxRecDepth 20000 in
theorem ggX4_nextSize_X0_find : GoodIn wsX4_nextSize wsX0_find := goodIn_r _ [16, 17, 18, 19, 20, 21, 22, 23, 24, 25, 26, 27, 28, 29, 30, 31, 32, 33, 34, 35, 36, 37, 38, 39, 40, 41, 42, 43, 44, 45, 46, 47, 48, 49, 15, 50, 51, 52, 53, 54, 64, 65, 66, 67, 68, 69, 70, 71, 72, 73] (by decide +kernel) (by decide +kernel)
set_option maxRecDepth 20000 in
theorem gX4_nextSize_X0_find : GoodIn wsX4_nextSize (wsV RX4 168 RX0 yX0_find wsX0_find) := goodIn_app (goodIn_of _ (by decide +kernel)) ggX4_nextSize_X0_find
set_option maxRecDepth 20000 in
theorem ggX4_nextSize_X0_firstSize : GoodIn wsX4_nextSize wsX0_firstSize := goodIn_r _ [58, 18, 64, 65, 66] (by decide +kernel) (by decide +kernel)
set_option maxRecDepth 20000 in
theorem gX4_nextSize_X0_firstSize : GoodIn wsX4_nextSize (wsV RX4 175 RX0 yX0_firstSize wsX0_firstSize) := goodIn_app (goodIn_of _ (by decide +kernel)) ggX4_nextSize_X0_firstSize
theorem dX4_nextSize_0 : decode cX4_nextSize 0 = .ok (.iload_n 1, 1) := by decide +kernel
theorem dX4_nextSize_1 : decode cX4_nextSize 1 = .ok (.invokestatic 56, 3) := by decide +kernel
theorem dX4_nextSize_4 : decode cX4_nextSize 4 = .ok (.aload_n 0, 1) := by decide +kernel
theorem dX4_nextSize_5 : decode cX4_nextSize 5 = .ok (.getfield 22, 3) := by decide +kernel
theorem dX4_nextSize_8 : decode cX4_nextSize 8 = .ok (.aload_n 0, 1) := by decide +kernel
theorem dX4_nextSize_9 : decode cX4_nextSize 9 = .ok (.getfield 10, 3) := by decide +kernel
theorem dX4_nextSize_12 : decode cX4_nextSize 12 = .ok (.iload_n 1, 1) := by decide +kernel
theorem dX4_nextSize_13 : decode cX4_nextSize 13 = .ok (.invokevirtual 168, 3) := by decide +kernel
theorem dX4_nextSize_16 : decode cX4_nextSize 16 = .ok (.aload_n 0, 1) := by decide +kernel
theorem dX4_nextSize_17 : decode cX4_nextSize 17 = .ok (.getfield 22, 3) := by decide +kernel
theorem dX4_nextSize_20 : decode cX4_nextSize 20 = .ok (.invokevirtual 175, 3) := by decide +kernel
theorem dX4_nextSize_23 : decode cX4_nextSize 23 = .ok (.ireturn, 1) := by decide +kernel
set_option maxRecDepth 20000 in
theorem ggX4_ifFilled_X4_needCourse : GoodIn wsX4_ifFilled wsX4_needCourse := goodIn_ca (goodIn_r _ [6, 7, 8, 5, 9, 10, 11] (by decide +kernel) (by decide +kernel)) (goodIn_sub (fun _ h => List.mem_cons_of_mem _ (List.mem_append_left _ (List.mem_append_right _ h))) (by decide +kernel))
set_option maxRecDepth 20000 in
theorem gX4_ifFilled_X4_needCourse : GoodIn wsX4_ifFilled (va_wsS RX4 56 yX4_needCourse wsX4_needCourse) := goodIn_app (goodIn_of _ (by decide +kernel)) ggX4_ifFilled_X4_needCourse
set_option maxRecDepth 20000 in
theorem ggX4_ifFilled_X4_needArgument : GoodIn wsX4_ifFilled wsX4_needArgument := goodIn_ca (goodIn_r _ [14, 15, 16] (by decide +kernel) (by decide +kernel)) (goodIn_sub (fun _ h => List.mem_cons_of_mem _ (List.mem_append_right _ h)) (by decide +kernel))
set_option maxRecDepth 20000 in
theorem gX4_ifFilled_X4_needArgument : GoodIn wsX4_ifFilled (va_wsS RX4 44 yX4_needArgument wsX4_needArgument) := goodIn_app (goodIn_of _ (by decide +kernel)) ggX4_ifFilled_X4_needArgument
set_option maxRecDepth 20000 in
theorem ggX4_ifFilled_X2_become : GoodIn wsX4_ifFilled wsX2_become := goodIn_r _ [21, 22, 23, 24, 25, 26, 27, 28, 29, 30, 20, 31, 32, 33, 34, 35, 36, 37, 38, 39, 108, 109, 110, 111, 112, 113, 114] (by decide +kernel) (by decide +kernel)
set_option maxRecDepth 20000 in
theorem gX4_ifFilled_X2_become : GoodIn wsX4_ifFilled (wsV RX4 178 RX2 yX2_become wsX2_become) := goodIn_app (goodIn_of _ (by decide +kernel)) ggX4_ifFilled_X2_become
set_option maxRecDepth 20000 in
theorem ggX4_ifFilled_X2_fillCourse : GoodIn wsX4_ifFilled wsX2_fillCourse := goodIn_r _ [43, 27, 44, 45, 46, 20, 47, 48, 49, 50, 51, 25, 52, 53, 54, 55, 56, 57, 58, 59, 22, 23, 60, 61, 62, 63, 64, 65, 66, 67, 68, 69, 70, 71, 72, 73, 74, 75, 76, 77, 78, 79, 80, 81, 82, 24, 83, 84, 85, 86, 87, 88, 89, 90, 28, 91, 92, 93, 108, 109, 110, 111, 112, 113, 114] (by decide +kernel) (by decide +kernel)
set_option maxRecDepth 20000 in
theorem gX4_ifFilled_X2_fillCourse : GoodIn wsX4_ifFilled (wsV RX4 79 RX2 yX2_fillCourse wsX2_fillCourse) := goodIn_app (goodIn_of _ (by decide +kernel)) ggX4_ifFilled_X2_fillCourse
set_option maxRecDepth 20000 in
theorem ggX4_ifFilled_X2_freeOf : GoodIn wsX4_ifFilled wsX2_freeOf := goodIn_r _ [59, 22, 23, 60, 61, 20, 62, 108, 109, 110, 111, 112, 113, 114] (by decide +kernel) (by decide +kernel)
set_option maxRecDepth 20000 in
theorem gX4_ifFilled_X2_freeOf : GoodIn wsX4_ifFilled (wsV RX4 181 RX2 yX2_freeOf wsX2_freeOf) := goodIn_app (goodIn_of _ (by decide +kernel)) ggX4_ifFilled_X2_freeOf
set_option maxRecDepth 20000 in
theorem ggX4_ifFilled_X2_meetingJointsOf : GoodIn wsX4_ifFilled wsX2_meetingJointsOf := goodIn_r _ [98, 99, 100, 101, 20, 102, 22, 60, 61, 62, 79, 80, 81, 82, 23, 24, 75, 76, 77, 78, 108, 109, 110, 111, 112, 113, 114] (by decide +kernel) (by decide +kernel)
set_option maxRecDepth 20000 in
theorem gX4_ifFilled_X2_meetingJointsOf : GoodIn wsX4_ifFilled (wsV RX4 184 RX2 yX2_meetingJointsOf wsX2_meetingJointsOf) := goodIn_app (goodIn_of _ (by decide +kernel)) ggX4_ifFilled_X2_meetingJointsOf
theorem dX4_ifFilled_0 : decode cX4_ifFilled 0 = .ok (.iload_n 1, 1) := by decide +kernel
theorem dX4_ifFilled_1 : decode cX4_ifFilled 1 = .ok (.invokestatic 56, 3) := by decide +kernel
theorem dX4_ifFilled_4 : decode cX4_ifFilled 4 = .ok (.iload_n 2, 1) := by decide +kernel
theorem dX4_ifFilled_5 : decode cX4_ifFilled 5 = .ok (.ifCond .lt 12, 3) := by decide +kernel
theorem dX4_ifFilled_8 : decode cX4_ifFilled 8 = .ok (.iload_n 2, 1) := by decide +kernel
theorem dX4_ifFilled_9 : decode cX4_ifFilled 9 = .ok (.iconst 3, 1) := by decide +kernel
theorem dX4_ifFilled_10 : decode cX4_ifFilled 10 = .ok (.if_icmp .ge 7, 3) := by decide +kernel
theorem dX4_ifFilled_13 : decode cX4_ifFilled 13 = .ok (.iconst 1, 1) := by decide +kernel
theorem dX4_ifFilled_14 : decode cX4_ifFilled 14 = .ok (.goto 4, 3) := by decide +kernel
theorem dX4_ifFilled_17 : decode cX4_ifFilled 17 = .ok (.iconst 0, 1) := by decide +kernel
theorem dX4_ifFilled_18 : decode cX4_ifFilled 18 = .ok (.invokestatic 44, 3) := by decide +kernel
theorem dX4_ifFilled_21 : decode cX4_ifFilled 21 = .ok (.iload_n 3, 1) := by decide +kernel
theorem dX4_ifFilled_22 : decode cX4_ifFilled 22 = .ok (.ifCond .lt 12, 3) := by decide +kernel
theorem dX4_ifFilled_25 : decode cX4_ifFilled 25 = .ok (.iload_n 3, 1) := by decide +kernel
theorem dX4_ifFilled_26 : decode cX4_ifFilled 26 = .ok (.iconst 3, 1) := by decide +kernel
theorem dX4_ifFilled_27 : decode cX4_ifFilled 27 = .ok (.if_icmp .ge 7, 3) := by decide +kernel
theorem dX4_ifFilled_30 : decode cX4_ifFilled 30 = .ok (.iconst 1, 1) := by decide +kernel
theorem dX4_ifFilled_31 : decode cX4_ifFilled 31 = .ok (.goto 4, 3) := by decide +kernel
theorem dX4_ifFilled_34 : decode cX4_ifFilled 34 = .ok (.iconst 0, 1) := by decide +kernel
theorem dX4_ifFilled_35 : decode cX4_ifFilled 35 = .ok (.invokestatic 44, 3) := by decide +kernel
theorem dX4_ifFilled_38 : decode cX4_ifFilled 38 = .ok (.aload_n 0, 1) := by decide +kernel
theorem dX4_ifFilled_39 : decode cX4_ifFilled 39 = .ok (.getfield 16, 3) := by decide +kernel
theorem dX4_ifFilled_42 : decode cX4_ifFilled 42 = .ok (.aload_n 0, 1) := by decide +kernel
theorem dX4_ifFilled_43 : decode cX4_ifFilled 43 = .ok (.getfield 10, 3) := by decide +kernel
theorem dX4_ifFilled_46 : decode cX4_ifFilled 46 = .ok (.invokevirtual 178, 3) := by decide +kernel
theorem dX4_ifFilled_49 : decode cX4_ifFilled 49 = .ok (.aload_n 0, 1) := by decide +kernel
theorem dX4_ifFilled_50 : decode cX4_ifFilled 50 = .ok (.getfield 16, 3) := by decide +kernel
theorem dX4_ifFilled_53 : decode cX4_ifFilled 53 = .ok (.iload_n 1, 1) := by decide +kernel
theorem dX4_ifFilled_54 : decode cX4_ifFilled 54 = .ok (.iload_n 2, 1) := by decide +kernel
theorem dX4_ifFilled_55 : decode cX4_ifFilled 55 = .ok (.invokevirtual 79, 3) := by decide +kernel
theorem dX4_ifFilled_58 : decode cX4_ifFilled 58 = .ok (.istore 4, 2) := by decide +kernel
theorem dX4_ifFilled_60 : decode cX4_ifFilled 60 = .ok (.iload_n 3, 1) := by decide +kernel
theorem dX4_ifFilled_61 : decode cX4_ifFilled 61 = .ok (.lookupswitch 39 #[(0, 27), (1, 36)], 27) := by decide +kernel
theorem dX4_ifFilled_88 : decode cX4_ifFilled 88 = .ok (.aload_n 0, 1) := by decide +kernel
theorem dX4_ifFilled_89 : decode cX4_ifFilled 89 = .ok (.getfield 16, 3) := by decide +kernel
theorem dX4_ifFilled_92 : decode cX4_ifFilled 92 = .ok (.iload_n 1, 1) := by decide +kernel
theorem dX4_ifFilled_93 : decode cX4_ifFilled 93 = .ok (.invokevirtual 181, 3) := by decide +kernel
theorem dX4_ifFilled_96 : decode cX4_ifFilled 96 = .ok (.ireturn, 1) := by decide +kernel
theorem dX4_ifFilled_97 : decode cX4_ifFilled 97 = .ok (.iload 4, 2) := by decide +kernel
theorem dX4_ifFilled_99 : decode cX4_ifFilled 99 = .ok (.ireturn, 1) := by decide +kernel
theorem dX4_ifFilled_100 : decode cX4_ifFilled 100 = .ok (.aload_n 0, 1) := by decide +kernel
theorem dX4_ifFilled_101 : decode cX4_ifFilled 101 = .ok (.getfield 16, 3) := by decide +kernel
theorem dX4_ifFilled_104 : decode cX4_ifFilled 104 = .ok (.iload_n 1, 1) := by decide +kernel
theorem dX4_ifFilled_105 : decode cX4_ifFilled 105 = .ok (.invokevirtual 184, 3) := by decide +kernel
theorem dX4_ifFilled_108 : decode cX4_ifFilled 108 = .ok (.ireturn, 1) := by decide +kernel
set_option maxRecDepth 20000 in
theorem ggX4_bestRule_X2_become : GoodIn wsX4_bestRule wsX2_become := goodIn_r _ [7, 8, 9, 10, 11, 12, 13, 14, 15, 16, 6, 17, 18, 19, 20, 21, 22, 23, 24, 25, 121, 122, 123, 124, 125, 126, 127] (by decide +kernel) (by decide +kernel)
set_option maxRecDepth 20000 in
theorem gX4_bestRule_X2_become : GoodIn wsX4_bestRule (wsV RX4 178 RX2 yX2_become wsX2_become) := goodIn_app (goodIn_of _ (by decide +kernel)) ggX4_bestRule_X2_become
set_option maxRecDepth 20000 in
theorem ggX4_bestRule_X2_fillCourse : GoodIn wsX4_bestRule wsX2_fillCourse := goodIn_r _ [29, 13, 30, 31, 32, 6, 33, 34, 35, 36, 37, 11, 38, 39, 40, 41, 42, 43, 44, 45, 8, 9, 46, 47, 48, 49, 50, 51, 52, 53, 54, 55, 56, 57, 58, 59, 60, 61, 62, 63, 64, 65, 66, 67, 68, 10, 69, 70, 71, 72, 73, 74, 75, 76, 14, 77, 78, 79, 121, 122, 123, 124, 125, 126, 127] (by decide +kernel) (by decide +kernel)
set_option maxRecDepth 20000 in
theorem gX4_bestRule_X2_fillCourse : GoodIn wsX4_bestRule (wsV RX4 79 RX2 yX2_fillCourse wsX2_fillCourse) := goodIn_app (goodIn_of _ (by decide +kernel)) ggX4_bestRule_X2_fillCourse
set_option maxRecDepth 20000 in
theorem ggX4_bestRule_X2_summed : GoodIn wsX4_bestRule wsX2_summed := goodIn_r _ [83, 84, 85, 86, 6, 87, 88, 89, 90, 91, 8, 46, 47, 48, 92, 93, 94, 95, 53, 54, 55, 56, 9, 96, 97, 98, 99, 10, 42, 43, 44, 45, 100, 101, 102, 103, 65, 66, 67, 68, 104, 105, 106, 107, 61, 62, 63, 64, 108, 109, 110, 111, 121, 122, 123, 124, 125, 126, 127] (by decide +kernel) (by decide +kernel)
set_option maxRecDepth 20000 in
theorem gX4_bestRule_X2_summed : GoodIn wsX4_bestRule (wsV RX4 82 RX2 yX2_summed wsX2_summed) := goodIn_app (goodIn_of _ (by decide +kernel)) ggX4_bestRule_X2_summed
set_option maxRecDepth 20000 in
theorem ggX4_bestRule_X2_wasted : GoodIn wsX4_bestRule wsX2_wasted := goodIn_r _ [115, 14, 121, 122, 123, 124, 125, 126, 127] (by decide +kernel) (by decide +kernel)
set_option maxRecDepth 20000 in
theorem gX4_bestRule_X2_wasted : GoodIn wsX4_bestRule (wsV RX4 162 RX2 yX2_wasted wsX2_wasted) := goodIn_app (goodIn_of _ (by decide +kernel)) ggX4_bestRule_X2_wasted
theorem dX4_bestRule_0 : decode cX4_bestRule 0 = .ok (.iconst (-1), 1) := by decide +kernel
theorem dX4_bestRule_1 : decode cX4_bestRule 1 = .ok (.istore_n 1, 1) := by decide +kernel
theorem dX4_bestRule_2 : decode cX4_bestRule 2 = .ok (.iconst 0, 1) := by decide +kernel
theorem dX4_bestRule_3 : decode cX4_bestRule 3 = .ok (.istore_n 2, 1) := by decide +kernel
theorem dX4_bestRule_4 : decode cX4_bestRule 4 = .ok (.iconst 0, 1) := by decide +kernel
theorem dX4_bestRule_5 : decode cX4_bestRule 5 = .ok (.istore_n 3, 1) := by decide +kernel
theorem dX4_bestRule_6 : decode cX4_bestRule 6 = .ok (.iconst 0, 1) := by decide +kernel
theorem dX4_bestRule_7 : decode cX4_bestRule 7 = .ok (.istore 4, 2) := by decide +kernel
theorem dX4_bestRule_9 : decode cX4_bestRule 9 = .ok (.iconst 0, 1) := by decide +kernel
theorem dX4_bestRule_10 : decode cX4_bestRule 10 = .ok (.istore 5, 2) := by decide +kernel
theorem dX4_bestRule_12 : decode cX4_bestRule 12 = .ok (.iload 5, 2) := by decide +kernel
theorem dX4_bestRule_14 : decode cX4_bestRule 14 = .ok (.iconst 3, 1) := by decide +kernel
theorem dX4_bestRule_15 : decode cX4_bestRule 15 = .ok (.if_icmp .ge 154, 3) := by decide +kernel
theorem dX4_bestRule_18 : decode cX4_bestRule 18 = .ok (.aload_n 0, 1) := by decide +kernel
theorem dX4_bestRule_19 : decode cX4_bestRule 19 = .ok (.getfield 16, 3) := by decide +kernel
theorem dX4_bestRule_22 : decode cX4_bestRule 22 = .ok (.aload_n 0, 1) := by decide +kernel
theorem dX4_bestRule_23 : decode cX4_bestRule 23 = .ok (.getfield 10, 3) := by decide +kernel
theorem dX4_bestRule_26 : decode cX4_bestRule 26 = .ok (.invokevirtual 178, 3) := by decide +kernel
theorem dX4_bestRule_29 : decode cX4_bestRule 29 = .ok (.iconst 0, 1) := by decide +kernel
theorem dX4_bestRule_30 : decode cX4_bestRule 30 = .ok (.istore 6, 2) := by decide +kernel
theorem dX4_bestRule_32 : decode cX4_bestRule 32 = .ok (.iload 6, 2) := by decide +kernel
theorem dX4_bestRule_34 : decode cX4_bestRule 34 = .ok (.bipush 6, 2) := by decide +kernel
theorem dX4_bestRule_36 : decode cX4_bestRule 36 = .ok (.if_icmp .ge 21, 3) := by decide +kernel
theorem dX4_bestRule_39 : decode cX4_bestRule 39 = .ok (.aload_n 0, 1) := by decide +kernel
theorem dX4_bestRule_40 : decode cX4_bestRule 40 = .ok (.getfield 16, 3) := by decide +kernel
theorem dX4_bestRule_43 : decode cX4_bestRule 43 = .ok (.iload 6, 2) := by decide +kernel
theorem dX4_bestRule_45 : decode cX4_bestRule 45 = .ok (.iload 5, 2) := by decide +kernel
theorem dX4_bestRule_47 : decode cX4_bestRule 47 = .ok (.invokevirtual 79, 3) := by decide +kernel
theorem dX4_bestRule_50 : decode cX4_bestRule 50 = .ok (.pop, 1) := by decide +kernel
theorem dX4_bestRule_51 : decode cX4_bestRule 51 = .ok (.iinc 6 1, 3) := by decide +kernel
theorem dX4_bestRule_54 : decode cX4_bestRule 54 = .ok (.goto (-22), 3) := by decide +kernel
theorem dX4_bestRule_57 : decode cX4_bestRule 57 = .ok (.aload_n 0, 1) := by decide +kernel
theorem dX4_bestRule_58 : decode cX4_bestRule 58 = .ok (.getfield 16, 3) := by decide +kernel
theorem dX4_bestRule_61 : decode cX4_bestRule 61 = .ok (.iconst 3, 1) := by decide +kernel
theorem dX4_bestRule_62 : decode cX4_bestRule 62 = .ok (.invokevirtual 82, 3) := by decide +kernel
theorem dX4_bestRule_65 : decode cX4_bestRule 65 = .ok (.istore 6, 2) := by decide +kernel
theorem dX4_bestRule_67 : decode cX4_bestRule 67 = .ok (.aload_n 0, 1) := by decide +kernel
theorem dX4_bestRule_68 : decode cX4_bestRule 68 = .ok (.getfield 16, 3) := by decide +kernel
theorem dX4_bestRule_71 : decode cX4_bestRule 71 = .ok (.invokevirtual 162, 3) := by decide +kernel
theorem dX4_bestRule_74 : decode cX4_bestRule 74 = .ok (.istore 7, 2) := by decide +kernel
theorem dX4_bestRule_76 : decode cX4_bestRule 76 = .ok (.aload_n 0, 1) := by decide +kernel
theorem dX4_bestRule_77 : decode cX4_bestRule 77 = .ok (.getfield 16, 3) := by decide +kernel
theorem dX4_bestRule_80 : decode cX4_bestRule 80 = .ok (.iconst 1, 1) := by decide +kernel
theorem dX4_bestRule_81 : decode cX4_bestRule 81 = .ok (.invokevirtual 82, 3) := by decide +kernel
theorem dX4_bestRule_84 : decode cX4_bestRule 84 = .ok (.istore 8, 2) := by decide +kernel
theorem dX4_bestRule_86 : decode cX4_bestRule 86 = .ok (.iload 6, 2) := by decide +kernel
theorem dX4_bestRule_88 : decode cX4_bestRule 88 = .ok (.iload_n 2, 1) := by decide +kernel
theorem dX4_bestRule_89 : decode cX4_bestRule 89 = .ok (.if_icmp .eq 17, 3) := by decide +kernel
theorem dX4_bestRule_92 : decode cX4_bestRule 92 = .ok (.iload 6, 2) := by decide +kernel
theorem dX4_bestRule_94 : decode cX4_bestRule 94 = .ok (.iload_n 2, 1) := by decide +kernel
theorem dX4_bestRule_95 : decode cX4_bestRule 95 = .ok (.if_icmp .le 7, 3) := by decide +kernel
theorem dX4_bestRule_98 : decode cX4_bestRule 98 = .ok (.iconst 1, 1) := by decide +kernel
theorem dX4_bestRule_99 : decode cX4_bestRule 99 = .ok (.goto 39, 3) := by decide +kernel
theorem dX4_bestRule_102 : decode cX4_bestRule 102 = .ok (.iconst 0, 1) := by decide +kernel
theorem dX4_bestRule_103 : decode cX4_bestRule 103 = .ok (.goto 35, 3) := by decide +kernel
theorem dX4_bestRule_106 : decode cX4_bestRule 106 = .ok (.iload 7, 2) := by decide +kernel
theorem dX4_bestRule_108 : decode cX4_bestRule 108 = .ok (.iload_n 3, 1) := by decide +kernel
theorem dX4_bestRule_109 : decode cX4_bestRule 109 = .ok (.if_icmp .eq 17, 3) := by decide +kernel
theorem dX4_bestRule_112 : decode cX4_bestRule 112 = .ok (.iload 7, 2) := by decide +kernel
theorem dX4_bestRule_114 : decode cX4_bestRule 114 = .ok (.iload_n 3, 1) := by decide +kernel
theorem dX4_bestRule_115 : decode cX4_bestRule 115 = .ok (.if_icmp .ge 7, 3) := by decide +kernel
theorem dX4_bestRule_118 : decode cX4_bestRule 118 = .ok (.iconst 1, 1) := by decide +kernel
theorem dX4_bestRule_119 : decode cX4_bestRule 119 = .ok (.goto 19, 3) := by decide +kernel
theorem dX4_bestRule_122 : decode cX4_bestRule 122 = .ok (.iconst 0, 1) := by decide +kernel
theorem dX4_bestRule_123 : decode cX4_bestRule 123 = .ok (.goto 15, 3) := by decide +kernel
theorem dX4_bestRule_126 : decode cX4_bestRule 126 = .ok (.iload 8, 2) := by decide +kernel
theorem dX4_bestRule_128 : decode cX4_bestRule 128 = .ok (.iload 4, 2) := by decide +kernel
theorem dX4_bestRule_130 : decode cX4_bestRule 130 = .ok (.if_icmp .ge 7, 3) := by decide +kernel
theorem dX4_bestRule_133 : decode cX4_bestRule 133 = .ok (.iconst 1, 1) := by decide +kernel
theorem dX4_bestRule_134 : decode cX4_bestRule 134 = .ok (.goto 4, 3) := by decide +kernel
theorem dX4_bestRule_137 : decode cX4_bestRule 137 = .ok (.iconst 0, 1) := by decide +kernel
theorem dX4_bestRule_138 : decode cX4_bestRule 138 = .ok (.istore 9, 2) := by decide +kernel
theorem dX4_bestRule_140 : decode cX4_bestRule 140 = .ok (.iload_n 1, 1) := by decide +kernel
theorem dX4_bestRule_141 : decode cX4_bestRule 141 = .ok (.iconst (-1), 1) := by decide +kernel
theorem dX4_bestRule_142 : decode cX4_bestRule 142 = .ok (.if_icmp .eq 8, 3) := by decide +kernel
theorem dX4_bestRule_145 : decode cX4_bestRule 145 = .ok (.iload 9, 2) := by decide +kernel
theorem dX4_bestRule_147 : decode cX4_bestRule 147 = .ok (.ifCond .eq 16, 3) := by decide +kernel
theorem dX4_bestRule_150 : decode cX4_bestRule 150 = .ok (.iload 5, 2) := by decide +kernel
theorem dX4_bestRule_152 : decode cX4_bestRule 152 = .ok (.istore_n 1, 1) := by decide +kernel
theorem dX4_bestRule_153 : decode cX4_bestRule 153 = .ok (.iload 6, 2) := by decide +kernel
theorem dX4_bestRule_155 : decode cX4_bestRule 155 = .ok (.istore_n 2, 1) := by decide +kernel
theorem dX4_bestRule_156 : decode cX4_bestRule 156 = .ok (.iload 7, 2) := by decide +kernel
theorem dX4_bestRule_158 : decode cX4_bestRule 158 = .ok (.istore_n 3, 1) := by decide +kernel
theorem dX4_bestRule_159 : decode cX4_bestRule 159 = .ok (.iload 8, 2) := by decide +kernel
theorem dX4_bestRule_161 : decode cX4_bestRule 161 = .ok (.istore 4, 2) := by decide +kernel
theorem dX4_bestRule_163 : decode cX4_bestRule 163 = .ok (.iinc 5 1, 3) := by decide +kernel
theorem dX4_bestRule_166 : decode cX4_bestRule 166 = .ok (.goto (-154), 3) := by decide +kernel
theorem dX4_bestRule_169 : decode cX4_bestRule 169 = .ok (.iload_n 1, 1) := by decide +kernel
theorem dX4_bestRule_170 : decode cX4_bestRule 170 = .ok (.ireturn, 1) := by decide +kernel
set_option maxRecDepth 20000 in
theorem ggX4_share_X2_summed : GoodIn wsX4_share wsX2_summed := goodIn_r _ [6, 7, 8, 9, 5, 10, 11, 12, 13, 14, 15, 16, 17, 18, 19, 20, 21, 22, 23, 24, 25, 26, 27, 28, 29, 30, 31, 32, 33, 34, 35, 36, 37, 38, 39, 40, 41, 42, 43, 44, 45, 46, 47, 48, 49, 50, 51, 52, 53, 54, 55, 56, 62, 63, 64, 65, 66, 67, 68] (by decide +kernel) (by decide +kernel)
set_option maxRecDepth 20000 in
theorem gX4_share_X2_summed : GoodIn wsX4_share (wsV RX4 82 RX2 yX2_summed wsX2_summed) := goodIn_app (goodIn_of _ (by decide +kernel)) ggX4_share_X2_summed
theorem dX4_share_0 : decode cX4_share 0 = .ok (.aload_n 0, 1) := by decide +kernel
theorem dX4_share_1 : decode cX4_share 1 = .ok (.getfield 10, 3) := by decide +kernel
theorem dX4_share_4 : decode cX4_share 4 = .ok (.iconst 0, 1) := by decide +kernel
theorem dX4_share_5 : decode cX4_share 5 = .ok (.invokevirtual 82, 3) := by decide +kernel
theorem dX4_share_8 : decode cX4_share 8 = .ok (.istore_n 1, 1) := by decide +kernel
theorem dX4_share_9 : decode cX4_share 9 = .ok (.iload_n 1, 1) := by decide +kernel
theorem dX4_share_10 : decode cX4_share 10 = .ok (.aload_n 0, 1) := by decide +kernel
theorem dX4_share_11 : decode cX4_share 11 = .ok (.getfield 10, 3) := by decide +kernel
theorem dX4_share_14 : decode cX4_share 14 = .ok (.iconst 2, 1) := by decide +kernel
theorem dX4_share_15 : decode cX4_share 15 = .ok (.invokevirtual 82, 3) := by decide +kernel
theorem dX4_share_18 : decode cX4_share 18 = .ok (.isub, 1) := by decide +kernel
theorem dX4_share_19 : decode cX4_share 19 = .ok (.istore_n 2, 1) := by decide +kernel
theorem dX4_share_20 : decode cX4_share 20 = .ok (.iload_n 1, 1) := by decide +kernel
theorem dX4_share_21 : decode cX4_share 21 = .ok (.ifCond .le 11, 3) := by decide +kernel
theorem dX4_share_24 : decode cX4_share 24 = .ok (.iload_n 2, 1) := by decide +kernel
theorem dX4_share_25 : decode cX4_share 25 = .ok (.i2d, 1) := by decide +kernel
theorem dX4_share_26 : decode cX4_share 26 = .ok (.iload_n 1, 1) := by decide +kernel
theorem dX4_share_27 : decode cX4_share 27 = .ok (.i2d, 1) := by decide +kernel
theorem dX4_share_28 : decode cX4_share 28 = .ok (.ddiv, 1) := by decide +kernel
theorem dX4_share_29 : decode cX4_share 29 = .ok (.goto 4, 3) := by decide +kernel
theorem dX4_share_32 : decode cX4_share 32 = .ok (.dconst 0, 1) := by decide +kernel
theorem dX4_share_33 : decode cX4_share 33 = .ok (.dreturn, 1) := by decide +kernel
set_option maxRecDepth 20000 in
theorem ggX4_digest_X4_count : GoodIn wsX4_digest wsX4_count := goodIn_ca (goodIn_r _ [8, 2, 9, 10, 11, 7, 12, 13, 14, 15, 16, 17, 18, 19, 20, 21, 22, 23, 24, 25, 26, 27, 28, 29, 30, 31, 32, 33, 34, 35, 36, 37, 38, 39, 40, 41, 42, 43, 44, 45, 46, 47, 48, 49, 50, 51, 52, 53, 54, 55, 56, 57, 58, 59, 60, 61, 62, 63, 64, 65, 66, 67, 68, 69, 70, 71, 72, 73, 74, 75, 76, 77, 78, 79, 80, 81, 82, 83, 84, 85, 86, 87, 88, 89, 90, 91, 92, 93, 94, 95, 96, 97, 224, 225, 226, 227, 228, 229, 230, 231, 232, 233, 234, 235, 236, 237, 238] (by decide +kernel) (by decide +kernel)) (goodIn_sub (fun _ h => List.mem_cons_of_mem _ (List.mem_append_right _ h)) (by decide +kernel))
set_option maxRecDepth 20000 in
theorem gX4_digest_X4_count : GoodIn wsX4_digest (wsV RX4 189 RX4 yX4_count wsX4_count) := goodIn_app (goodIn_of _ (by decide +kernel)) ggX4_digest_X4_count
set_option maxRecDepth 20000 in
theorem ggX4_digest_X4_mixed : GoodIn wsX4_digest wsX4_mixed := goodIn_r _ [100, 101] (by decide +kernel) (by decide +kernel)
set_option maxRecDepth 20000 in
theorem gX4_digest_X4_mixed : GoodIn wsX4_digest (va_wsS RX4 192 yX4_mixed wsX4_mixed) := goodIn_app (goodIn_of _ (by decide +kernel)) ggX4_digest_X4_mixed
set_option maxRecDepth 20000 in
theorem ggX4_digest_X2_settingOf : GoodIn wsX4_digest wsX2_settingOf := goodIn_r _ [105, 28, 106, 107, 229, 230, 231, 232, 233, 234, 235] (by decide +kernel) (by decide +kernel)
set_option maxRecDepth 20000 in
theorem gX4_digest_X2_settingOf : GoodIn wsX4_digest (wsV RX4 76 RX2 yX2_settingOf wsX2_settingOf) := goodIn_app (goodIn_of _ (by decide +kernel)) ggX4_digest_X2_settingOf
set_option maxRecDepth 20000 in
theorem ggX4_digest_X2_inStock : GoodIn wsX4_digest wsX2_inStock := goodIn_r _ [90, 91, 229, 230, 231, 232, 233, 234, 235] (by decide +kernel) (by decide +kernel)
set_option maxRecDepth 20000 in
theorem gX4_digest_X2_inStock : GoodIn wsX4_digest (wsV RX4 156 RX2 yX2_inStock wsX2_inStock) := goodIn_app (goodIn_of _ (by decide +kernel)) ggX4_digest_X2_inStock
set_option maxRecDepth 20000 in
theorem ggX4_digest_X4_mixedWithCourse : GoodIn wsX4_digest wsX4_mixedWithCourse := goodIn_r _ [112, 2, 113, 114, 115, 21, 22, 18, 23, 24, 25, 26, 27, 28, 29, 30, 31, 32, 33, 34, 35, 36, 37, 38, 39, 40, 41, 42, 43, 44, 45, 46, 47, 48, 49, 50, 51, 52, 53, 54, 55, 56, 57, 58, 59, 60, 61, 62, 63, 64, 65, 66, 67, 68, 69, 98, 99, 7, 100, 101, 116, 117, 118, 119, 120, 121, 122, 123, 124, 125, 75, 76, 77, 126, 127, 128, 129, 130, 131, 132, 133, 134, 135, 136, 137, 138, 139, 140, 141, 142, 143, 144, 145, 146, 147, 148, 149, 150, 151, 152, 153, 154, 155, 156, 157, 158, 159, 91, 106, 107, 82, 160, 161, 162, 163, 164, 165, 166, 167, 168, 169, 170, 171, 172, 173, 174, 175, 176, 177, 87, 88, 89, 90, 178, 179, 180, 181, 182, 183, 184, 185, 74, 186, 187, 188, 189, 190, 191, 192, 193, 194, 195, 196, 197, 198, 224, 225, 226, 227, 228, 229, 230, 231, 232, 233, 234, 235, 239, 240, 241] (by decide +kernel) (by decide +kernel)
set_option maxRecDepth 20000 in
theorem gX4_digest_X4_mixedWithCourse : GoodIn wsX4_digest (wsV RX4 196 RX4 yX4_mixedWithCourse wsX4_mixedWithCourse) := goodIn_app (goodIn_of _ (by decide +kernel)) ggX4_digest_X4_mixedWithCourse
set_option maxRecDepth 20000 in
theorem ggX4_digest_X4_bestRule : GoodIn wsX4_digest wsX4_bestRule := goodIn_r _ [202, 114, 2, 156, 157, 158, 18, 159, 28, 40, 45, 91, 106, 107, 82, 160, 161, 162, 163, 164, 123, 165, 166, 167, 168, 169, 170, 171, 172, 173, 174, 175, 176, 177, 87, 88, 89, 90, 178, 179, 180, 181, 46, 47, 48, 49, 29, 30, 31, 182, 183, 184, 185, 36, 37, 38, 39, 74, 75, 76, 77, 62, 63, 64, 65, 54, 55, 56, 57, 186, 187, 188, 189, 190, 191, 192, 193, 194, 195, 196, 15, 16, 17, 19, 20, 21, 22, 23, 24, 25, 26, 27, 32, 33, 34, 35, 41, 42, 43, 44, 50, 51, 52, 53, 58, 59, 60, 61, 66, 67, 68, 69, 78, 79, 80, 81, 224, 225, 226, 227, 228, 229, 230, 231, 232, 233, 234, 235] (by decide +kernel) (by decide +kernel)
set_option maxRecDepth 20000 in
theorem gX4_digest_X4_bestRule : GoodIn wsX4_digest (wsV RX4 200 RX4 yX4_bestRule wsX4_bestRule) := goodIn_app (goodIn_of _ (by decide +kernel)) ggX4_digest_X4_bestRule
set_option maxRecDepth 20000 in
theorem ggX4_digest_X4_share : GoodIn wsX4_digest wsX4_share := goodIn_r _ [206, 2, 15, 16, 17, 18, 19, 20, 21, 22, 23, 24, 25, 26, 27, 28, 29, 30, 31, 32, 33, 34, 35, 36, 37, 38, 39, 40, 41, 42, 43, 44, 45, 46, 47, 48, 49, 50, 51, 52, 53, 54, 55, 56, 57, 58, 59, 60, 61, 62, 63, 64, 65, 66, 67, 68, 69, 224, 225, 226, 227, 228, 229, 230, 231, 232, 233, 234, 235] (by decide +kernel) (by decide +kernel)
set_option maxRecDepth 20000 in
theorem gX4_digest_X4_share : GoodIn wsX4_digest (wsV RX4 203 RX4 yX4_share wsX4_share) := goodIn_app (goodIn_of _ (by decide +kernel)) ggX4_digest_X4_share
set_option maxRecDepth 20000 in
theorem ggX4_digest_X4_bitsOf : GoodIn wsX4_digest wsX4_bitsOf := goodIn_r _ [209, 210, 211, 212] (by decide +kernel) (by decide +kernel)
set_option maxRecDepth 20000 in
theorem gX4_digest_X4_bitsOf : GoodIn wsX4_digest (va_wsS RX4 207 yX4_bitsOf wsX4_bitsOf) := goodIn_app (goodIn_of _ (by decide +kernel)) ggX4_digest_X4_bitsOf
set_option maxRecDepth 20000 in
theorem ggX4_digest_X3_length : GoodIn wsX4_digest wsX3_length := goodIn_r _ [217, 218, 242, 243] (by decide +kernel) (by decide +kernel)
set_option maxRecDepth 20000 in
theorem gX4_digest_X3_length : GoodIn wsX4_digest (wsV RX4 96 RX3 yX3_length wsX3_length) := goodIn_app (goodIn_of _ (by decide +kernel)) ggX4_digest_X3_length
set_option maxRecDepth 20000 in
theorem ggX4_digest_X3_signAt : GoodIn wsX4_digest wsX3_signAt := goodIn_r _ [222, 218, 223, 242, 243] (by decide +kernel) (by decide +kernel)
set_option maxRecDepth 20000 in
theorem gX4_digest_X3_signAt : GoodIn wsX4_digest (wsV RX4 114 RX3 yX3_signAt wsX3_signAt) := goodIn_app (goodIn_of _ (by decide +kernel)) ggX4_digest_X3_signAt
theorem dX4_digest_0 : decode cX4_digest 0 = .ok (.ldc2_w 187, 3) := by decide +kernel
theorem dX4_digest_3 : decode cX4_digest 3 = .ok (.lstore_n 1, 1) := by decide +kernel
theorem dX4_digest_4 : decode cX4_digest 4 = .ok (.iconst 0, 1) := by decide +kernel
theorem dX4_digest_5 : decode cX4_digest 5 = .ok (.istore_n 3, 1) := by decide +kernel
theorem dX4_digest_6 : decode cX4_digest 6 = .ok (.iload_n 3, 1) := by decide +kernel
theorem dX4_digest_7 : decode cX4_digest 7 = .ok (.bipush 8, 2) := by decide +kernel
theorem dX4_digest_9 : decode cX4_digest 9 = .ok (.if_icmp .ge 20, 3) := by decide +kernel
theorem dX4_digest_12 : decode cX4_digest 12 = .ok (.lload_n 1, 1) := by decide +kernel
theorem dX4_digest_13 : decode cX4_digest 13 = .ok (.aload_n 0, 1) := by decide +kernel
theorem dX4_digest_14 : decode cX4_digest 14 = .ok (.iload_n 3, 1) := by decide +kernel
theorem dX4_digest_15 : decode cX4_digest 15 = .ok (.invokevirtual 189, 3) := by decide +kernel
theorem dX4_digest_18 : decode cX4_digest 18 = .ok (.i2l, 1) := by decide +kernel
theorem dX4_digest_19 : decode cX4_digest 19 = .ok (.invokestatic 192, 3) := by decide +kernel
theorem dX4_digest_22 : decode cX4_digest 22 = .ok (.lstore_n 1, 1) := by decide +kernel
theorem dX4_digest_23 : decode cX4_digest 23 = .ok (.iinc 3 1, 3) := by decide +kernel
theorem dX4_digest_26 : decode cX4_digest 26 = .ok (.goto (-20), 3) := by decide +kernel
theorem dX4_digest_29 : decode cX4_digest 29 = .ok (.iconst 0, 1) := by decide +kernel
theorem dX4_digest_30 : decode cX4_digest 30 = .ok (.istore_n 3, 1) := by decide +kernel
theorem dX4_digest_31 : decode cX4_digest 31 = .ok (.iload_n 3, 1) := by decide +kernel
theorem dX4_digest_32 : decode cX4_digest 32 = .ok (.iconst 3, 1) := by decide +kernel
theorem dX4_digest_33 : decode cX4_digest 33 = .ok (.if_icmp .ge 23, 3) := by decide +kernel
theorem dX4_digest_36 : decode cX4_digest 36 = .ok (.lload_n 1, 1) := by decide +kernel
theorem dX4_digest_37 : decode cX4_digest 37 = .ok (.aload_n 0, 1) := by decide +kernel
theorem dX4_digest_38 : decode cX4_digest 38 = .ok (.getfield 10, 3) := by decide +kernel
theorem dX4_digest_41 : decode cX4_digest 41 = .ok (.iload_n 3, 1) := by decide +kernel
theorem dX4_digest_42 : decode cX4_digest 42 = .ok (.invokevirtual 76, 3) := by decide +kernel
theorem dX4_digest_45 : decode cX4_digest 45 = .ok (.i2l, 1) := by decide +kernel
theorem dX4_digest_46 : decode cX4_digest 46 = .ok (.invokestatic 192, 3) := by decide +kernel
theorem dX4_digest_49 : decode cX4_digest 49 = .ok (.lstore_n 1, 1) := by decide +kernel
theorem dX4_digest_50 : decode cX4_digest 50 = .ok (.iinc 3 1, 3) := by decide +kernel
theorem dX4_digest_53 : decode cX4_digest 53 = .ok (.goto (-22), 3) := by decide +kernel
theorem dX4_digest_56 : decode cX4_digest 56 = .ok (.iconst 1, 1) := by decide +kernel
theorem dX4_digest_57 : decode cX4_digest 57 = .ok (.istore_n 3, 1) := by decide +kernel
theorem dX4_digest_58 : decode cX4_digest 58 = .ok (.iload_n 3, 1) := by decide +kernel
theorem dX4_digest_59 : decode cX4_digest 59 = .ok (.bipush 6, 2) := by decide +kernel
theorem dX4_digest_61 : decode cX4_digest 61 = .ok (.if_icmp .gt 23, 3) := by decide +kernel
theorem dX4_digest_64 : decode cX4_digest 64 = .ok (.lload_n 1, 1) := by decide +kernel
theorem dX4_digest_65 : decode cX4_digest 65 = .ok (.aload_n 0, 1) := by decide +kernel
theorem dX4_digest_66 : decode cX4_digest 66 = .ok (.getfield 10, 3) := by decide +kernel
theorem dX4_digest_69 : decode cX4_digest 69 = .ok (.iload_n 3, 1) := by decide +kernel
theorem dX4_digest_70 : decode cX4_digest 70 = .ok (.invokevirtual 156, 3) := by decide +kernel
theorem dX4_digest_73 : decode cX4_digest 73 = .ok (.i2l, 1) := by decide +kernel
theorem dX4_digest_74 : decode cX4_digest 74 = .ok (.invokestatic 192, 3) := by decide +kernel
theorem dX4_digest_77 : decode cX4_digest 77 = .ok (.lstore_n 1, 1) := by decide +kernel
theorem dX4_digest_78 : decode cX4_digest 78 = .ok (.iinc 3 1, 3) := by decide +kernel
theorem dX4_digest_81 : decode cX4_digest 81 = .ok (.goto (-23), 3) := by decide +kernel
theorem dX4_digest_84 : decode cX4_digest 84 = .ok (.iconst 0, 1) := by decide +kernel
theorem dX4_digest_85 : decode cX4_digest 85 = .ok (.istore_n 3, 1) := by decide +kernel
theorem dX4_digest_86 : decode cX4_digest 86 = .ok (.iload_n 3, 1) := by decide +kernel
theorem dX4_digest_87 : decode cX4_digest 87 = .ok (.bipush 6, 2) := by decide +kernel
theorem dX4_digest_89 : decode cX4_digest 89 = .ok (.if_icmp .ge 16, 3) := by decide +kernel
theorem dX4_digest_92 : decode cX4_digest 92 = .ok (.aload_n 0, 1) := by decide +kernel
theorem dX4_digest_93 : decode cX4_digest 93 = .ok (.lload_n 1, 1) := by decide +kernel
theorem dX4_digest_94 : decode cX4_digest 94 = .ok (.iload_n 3, 1) := by decide +kernel
theorem dX4_digest_95 : decode cX4_digest 95 = .ok (.invokevirtual 196, 3) := by decide +kernel
theorem dX4_digest_98 : decode cX4_digest 98 = .ok (.lstore_n 1, 1) := by decide +kernel
theorem dX4_digest_99 : decode cX4_digest 99 = .ok (.iinc 3 1, 3) := by decide +kernel
theorem dX4_digest_102 : decode cX4_digest 102 = .ok (.goto (-16), 3) := by decide +kernel
theorem dX4_digest_105 : decode cX4_digest 105 = .ok (.lload_n 1, 1) := by decide +kernel
theorem dX4_digest_106 : decode cX4_digest 106 = .ok (.aload_n 0, 1) := by decide +kernel
theorem dX4_digest_107 : decode cX4_digest 107 = .ok (.invokevirtual 200, 3) := by decide +kernel
theorem dX4_digest_110 : decode cX4_digest 110 = .ok (.i2l, 1) := by decide +kernel
theorem dX4_digest_111 : decode cX4_digest 111 = .ok (.invokestatic 192, 3) := by decide +kernel
theorem dX4_digest_114 : decode cX4_digest 114 = .ok (.lstore_n 1, 1) := by decide +kernel
theorem dX4_digest_115 : decode cX4_digest 115 = .ok (.lload_n 1, 1) := by decide +kernel
theorem dX4_digest_116 : decode cX4_digest 116 = .ok (.aload_n 0, 1) := by decide +kernel
theorem dX4_digest_117 : decode cX4_digest 117 = .ok (.invokevirtual 203, 3) := by decide +kernel
theorem dX4_digest_120 : decode cX4_digest 120 = .ok (.invokestatic 207, 3) := by decide +kernel
theorem dX4_digest_123 : decode cX4_digest 123 = .ok (.invokestatic 192, 3) := by decide +kernel
theorem dX4_digest_126 : decode cX4_digest 126 = .ok (.lstore_n 1, 1) := by decide +kernel
theorem dX4_digest_127 : decode cX4_digest 127 = .ok (.aload_n 0, 1) := by decide +kernel
theorem dX4_digest_128 : decode cX4_digest 128 = .ok (.getfield 36, 3) := by decide +kernel
theorem dX4_digest_131 : decode cX4_digest 131 = .ok (.invokevirtual 96, 3) := by decide +kernel
theorem dX4_digest_134 : decode cX4_digest 134 = .ok (.istore_n 3, 1) := by decide +kernel
theorem dX4_digest_135 : decode cX4_digest 135 = .ok (.lload_n 1, 1) := by decide +kernel
theorem dX4_digest_136 : decode cX4_digest 136 = .ok (.iload_n 3, 1) := by decide +kernel
theorem dX4_digest_137 : decode cX4_digest 137 = .ok (.i2l, 1) := by decide +kernel
theorem dX4_digest_138 : decode cX4_digest 138 = .ok (.invokestatic 192, 3) := by decide +kernel
theorem dX4_digest_141 : decode cX4_digest 141 = .ok (.lstore_n 1, 1) := by decide +kernel
theorem dX4_digest_142 : decode cX4_digest 142 = .ok (.iconst 0, 1) := by decide +kernel
theorem dX4_digest_143 : decode cX4_digest 143 = .ok (.istore 4, 2) := by decide +kernel
theorem dX4_digest_145 : decode cX4_digest 145 = .ok (.iload 4, 2) := by decide +kernel
theorem dX4_digest_147 : decode cX4_digest 147 = .ok (.iload_n 3, 1) := by decide +kernel
theorem dX4_digest_148 : decode cX4_digest 148 = .ok (.if_icmp .ge 24, 3) := by decide +kernel
theorem dX4_digest_151 : decode cX4_digest 151 = .ok (.lload_n 1, 1) := by decide +kernel
theorem dX4_digest_152 : decode cX4_digest 152 = .ok (.aload_n 0, 1) := by decide +kernel
theorem dX4_digest_153 : decode cX4_digest 153 = .ok (.getfield 36, 3) := by decide +kernel
theorem dX4_digest_156 : decode cX4_digest 156 = .ok (.iload 4, 2) := by decide +kernel
theorem dX4_digest_158 : decode cX4_digest 158 = .ok (.invokevirtual 114, 3) := by decide +kernel
theorem dX4_digest_161 : decode cX4_digest 161 = .ok (.i2l, 1) := by decide +kernel
theorem dX4_digest_162 : decode cX4_digest 162 = .ok (.invokestatic 192, 3) := by decide +kernel
theorem dX4_digest_165 : decode cX4_digest 165 = .ok (.lstore_n 1, 1) := by decide +kernel
theorem dX4_digest_166 : decode cX4_digest 166 = .ok (.iinc 4 1, 3) := by decide +kernel
theorem dX4_digest_169 : decode cX4_digest 169 = .ok (.goto (-24), 3) := by decide +kernel
theorem dX4_digest_172 : decode cX4_digest 172 = .ok (.lload_n 1, 1) := by decide +kernel
theorem dX4_digest_173 : decode cX4_digest 173 = .ok (.lreturn, 1) := by decide +kernel
set_option maxRecDepth 20000 in
theorem ggX4_mixedWithCourse_X2_property : GoodIn wsX4_mixedWithCourse wsX2_property := goodIn_r _ [8, 9, 10, 11, 7, 12, 13, 14, 15, 16, 17, 18, 19, 20, 21, 22, 23, 24, 25, 26, 27, 28, 29, 30, 31, 32, 33, 34, 35, 36, 37, 38, 39, 40, 41, 42, 43, 44, 45, 46, 47, 48, 49, 50, 51, 52, 53, 54, 160, 161, 162, 163, 164, 165, 166] (by decide +kernel) (by decide +kernel)
set_option maxRecDepth 20000 in
theorem gX4_mixedWithCourse_X2_property : GoodIn wsX4_mixedWithCourse (wsV RX4 131 RX2 yX2_property wsX2_property) := goodIn_app (goodIn_of _ (by decide +kernel)) ggX4_mixedWithCourse_X2_property
set_option maxRecDepth 20000 in
theorem ggX4_mixedWithCourse_X4_mixed : GoodIn wsX4_mixedWithCourse wsX4_mixed := goodIn_r _ [58, 59] (by decide +kernel) (by decide +kernel)
set_option maxRecDepth 20000 in
theorem gX4_mixedWithCourse_X4_mixed : GoodIn wsX4_mixedWithCourse (va_wsS RX4 192 yX4_mixed wsX4_mixed) := goodIn_app (goodIn_of _ (by decide +kernel)) ggX4_mixedWithCourse_X4_mixed
set_option maxRecDepth 20000 in
theorem ggX4_mixedWithCourse_X2_cellsOf : GoodIn wsX4_mixedWithCourse wsX2_cellsOf := goodIn_r _ [12, 13, 14, 15, 7, 16, 160, 161, 162, 163, 164, 165, 166] (by decide +kernel) (by decide +kernel)
set_option maxRecDepth 20000 in
theorem gX4_mixedWithCourse_X2_cellsOf : GoodIn wsX4_mixedWithCourse (wsV RX4 134 RX2 yX2_cellsOf wsX2_cellsOf) := goodIn_app (goodIn_of _ (by decide +kernel)) ggX4_mixedWithCourse_X2_cellsOf
set_option maxRecDepth 20000 in
theorem ggX4_mixedWithCourse_X2_sizeAt : GoodIn wsX4_mixedWithCourse wsX2_sizeAt := goodIn_r _ [64, 65, 66, 67, 68, 21, 22, 23, 7, 24, 25, 14, 15, 16, 26, 27, 28, 29, 30, 160, 161, 162, 163, 164, 165, 166] (by decide +kernel) (by decide +kernel)
set_option maxRecDepth 20000 in
theorem gX4_mixedWithCourse_X2_sizeAt : GoodIn wsX4_mixedWithCourse (wsV RX4 140 RX2 yX2_sizeAt wsX2_sizeAt) := goodIn_app (goodIn_of _ (by decide +kernel)) ggX4_mixedWithCourse_X2_sizeAt
set_option maxRecDepth 20000 in
theorem ggX4_mixedWithCourse_X2_runsThrough : GoodIn wsX4_mixedWithCourse wsX2_runsThrough := goodIn_r _ [72, 47, 48, 49, 7, 50, 13, 39, 40, 41, 42, 25, 30, 160, 161, 162, 163, 164, 165, 166] (by decide +kernel) (by decide +kernel)
set_option maxRecDepth 20000 in
theorem gX4_mixedWithCourse_X2_runsThrough : GoodIn wsX4_mixedWithCourse (wsV RX4 153 RX2 yX2_runsThrough wsX2_runsThrough) := goodIn_app (goodIn_of _ (by decide +kernel)) ggX4_mixedWithCourse_X2_runsThrough
set_option maxRecDepth 20000 in
theorem ggX4_mixedWithCourse_X4_numberOf : GoodIn wsX4_mixedWithCourse wsX4_numberOf := goodIn_r _ [75] (by decide +kernel) (by decide +kernel)
set_option maxRecDepth 20000 in
theorem gX4_mixedWithCourse_X4_numberOf : GoodIn wsX4_mixedWithCourse (va_wsS RX4 146 yX4_numberOf wsX4_numberOf) := goodIn_app (goodIn_of _ (by decide +kernel)) ggX4_mixedWithCourse_X4_numberOf
set_option maxRecDepth 20000 in
theorem ggX4_mixedWithCourse_X0_find : GoodIn wsX4_mixedWithCourse wsX0_find := goodIn_r _ [80, 81, 82, 83, 84, 22, 23, 7, 24, 25, 14, 15, 16, 85, 10, 11, 12, 13, 86, 70, 71, 72, 47, 48, 49, 50, 39, 40, 41, 42, 30, 87, 88, 89, 79, 90, 91, 92, 93, 94, 167, 168, 169, 160, 161, 162, 163, 164, 165, 166] (by decide +kernel) (by decide +kernel)
set_option maxRecDepth 20000 in
theorem gX4_mixedWithCourse_X0_find : GoodIn wsX4_mixedWithCourse (wsV RX4 168 RX0 yX0_find wsX0_find) := goodIn_app (goodIn_of _ (by decide +kernel)) ggX4_mixedWithCourse_X0_find
set_option maxRecDepth 20000 in
theorem ggX4_mixedWithCourse_X0_pebbles : GoodIn wsX4_mixedWithCourse wsX0_pebbles := goodIn_r _ [98, 81, 167, 168, 169] (by decide +kernel) (by decide +kernel)
set_option maxRecDepth 20000 in
theorem gX4_mixedWithCourse_X0_pebbles : GoodIn wsX4_mixedWithCourse (wsV RX4 172 RX0 yX0_pebbles wsX0_pebbles) := goodIn_app (goodIn_of _ (by decide +kernel)) ggX4_mixedWithCourse_X0_pebbles
set_option maxRecDepth 20000 in
theorem ggX4_mixedWithCourse_X0_firstSize : GoodIn wsX4_mixedWithCourse wsX0_firstSize := goodIn_r _ [102, 82, 167, 168, 169] (by decide +kernel) (by decide +kernel)
set_option maxRecDepth 20000 in
theorem gX4_mixedWithCourse_X0_firstSize : GoodIn wsX4_mixedWithCourse (wsV RX4 175 RX0 yX0_firstSize wsX0_firstSize) := goodIn_app (goodIn_of _ (by decide +kernel)) ggX4_mixedWithCourse_X0_firstSize
set_option maxRecDepth 20000 in
theorem ggX4_mixedWithCourse_X2_become : GoodIn wsX4_mixedWithCourse wsX2_become := goodIn_r _ [106, 13, 25, 30, 107, 108, 109, 110, 111, 112, 7, 113, 114, 115, 67, 116, 117, 118, 119, 120, 160, 161, 162, 163, 164, 165, 166] (by decide +kernel) (by decide +kernel)
set_option maxRecDepth 20000 in
theorem gX4_mixedWithCourse_X2_become : GoodIn wsX4_mixedWithCourse (wsV RX4 178 RX2 yX2_become wsX2_become) := goodIn_app (goodIn_of _ (by decide +kernel)) ggX4_mixedWithCourse_X2_become
set_option maxRecDepth 20000 in
theorem ggX4_mixedWithCourse_X2_fillCourse : GoodIn wsX4_mixedWithCourse wsX2_fillCourse := goodIn_r _ [124, 109, 125, 126, 127, 7, 128, 129, 130, 131, 132, 107, 133, 134, 135, 136, 31, 32, 33, 34, 13, 25, 14, 15, 16, 137, 138, 139, 140, 21, 22, 23, 24, 141, 70, 71, 72, 47, 48, 49, 50, 39, 40, 41, 42, 30, 142, 143, 144, 145, 146, 147, 148, 149, 110, 150, 151, 152, 160, 161, 162, 163, 164, 165, 166] (by decide +kernel) (by decide +kernel)
set_option maxRecDepth 20000 in
theorem gX4_mixedWithCourse_X2_fillCourse : GoodIn wsX4_mixedWithCourse (wsV RX4 79 RX2 yX2_fillCourse wsX2_fillCourse) := goodIn_app (goodIn_of _ (by decide +kernel)) ggX4_mixedWithCourse_X2_fillCourse
set_option maxRecDepth 20000 in
theorem ggX4_mixedWithCourse_X2_freeOf : GoodIn wsX4_mixedWithCourse wsX2_freeOf := goodIn_r _ [34, 13, 25, 14, 15, 7, 16, 160, 161, 162, 163, 164, 165, 166] (by decide +kernel) (by decide +kernel)
set_option maxRecDepth 20000 in
theorem gX4_mixedWithCourse_X2_freeOf : GoodIn wsX4_mixedWithCourse (wsV RX4 181 RX2 yX2_freeOf wsX2_freeOf) := goodIn_app (goodIn_of _ (by decide +kernel)) ggX4_mixedWithCourse_X2_freeOf
set_option maxRecDepth 20000 in
theorem ggX4_mixedWithCourse_X2_meetingJointsOf : GoodIn wsX4_mixedWithCourse wsX2_meetingJointsOf := goodIn_r _ [46, 9, 10, 11, 7, 12, 13, 14, 15, 16, 39, 40, 41, 42, 25, 30, 47, 48, 49, 50, 160, 161, 162, 163, 164, 165, 166] (by decide +kernel) (by decide +kernel)
set_option maxRecDepth 20000 in
theorem gX4_mixedWithCourse_X2_meetingJointsOf : GoodIn wsX4_mixedWithCourse (wsV RX4 184 RX2 yX2_meetingJointsOf wsX2_meetingJointsOf) := goodIn_app (goodIn_of _ (by decide +kernel)) ggX4_mixedWithCourse_X2_meetingJointsOf
theorem dX4_mixedWithCourse_0 : decode cX4_mixedWithCourse 0 = .ok (.lload_n 1, 1) := by decide +kernel
theorem dX4_mixedWithCourse_1 : decode cX4_mixedWithCourse 1 = .ok (.lstore 4, 2) := by decide +kernel
theorem dX4_mixedWithCourse_3 : decode cX4_mixedWithCourse 3 = .ok (.iconst 0, 1) := by decide +kernel
theorem dX4_mixedWithCourse_4 : decode cX4_mixedWithCourse 4 = .ok (.istore 6, 2) := by decide +kernel
theorem dX4_mixedWithCourse_6 : decode cX4_mixedWithCourse 6 = .ok (.iload 6, 2) := by decide +kernel
theorem dX4_mixedWithCourse_8 : decode cX4_mixedWithCourse 8 = .ok (.bipush 7, 2) := by decide +kernel
theorem dX4_mixedWithCourse_10 : decode cX4_mixedWithCourse 10 = .ok (.if_icmp .ge 27, 3) := by decide +kernel
theorem dX4_mixedWithCourse_13 : decode cX4_mixedWithCourse 13 = .ok (.lload 4, 2) := by decide +kernel
theorem dX4_mixedWithCourse_15 : decode cX4_mixedWithCourse 15 = .ok (.aload_n 0, 1) := by decide +kernel
theorem dX4_mixedWithCourse_16 : decode cX4_mixedWithCourse 16 = .ok (.getfield 10, 3) := by decide +kernel
theorem dX4_mixedWithCourse_19 : decode cX4_mixedWithCourse 19 = .ok (.iload_n 3, 1) := by decide +kernel
theorem dX4_mixedWithCourse_20 : decode cX4_mixedWithCourse 20 = .ok (.iload 6, 2) := by decide +kernel
theorem dX4_mixedWithCourse_22 : decode cX4_mixedWithCourse 22 = .ok (.invokevirtual 131, 3) := by decide +kernel
theorem dX4_mixedWithCourse_25 : decode cX4_mixedWithCourse 25 = .ok (.i2l, 1) := by decide +kernel
theorem dX4_mixedWithCourse_26 : decode cX4_mixedWithCourse 26 = .ok (.invokestatic 192, 3) := by decide +kernel
theorem dX4_mixedWithCourse_29 : decode cX4_mixedWithCourse 29 = .ok (.lstore 4, 2) := by decide +kernel
theorem dX4_mixedWithCourse_31 : decode cX4_mixedWithCourse 31 = .ok (.iinc 6 1, 3) := by decide +kernel
theorem dX4_mixedWithCourse_34 : decode cX4_mixedWithCourse 34 = .ok (.goto (-28), 3) := by decide +kernel
theorem dX4_mixedWithCourse_37 : decode cX4_mixedWithCourse 37 = .ok (.aload_n 0, 1) := by decide +kernel
theorem dX4_mixedWithCourse_38 : decode cX4_mixedWithCourse 38 = .ok (.getfield 10, 3) := by decide +kernel
theorem dX4_mixedWithCourse_41 : decode cX4_mixedWithCourse 41 = .ok (.iload_n 3, 1) := by decide +kernel
theorem dX4_mixedWithCourse_42 : decode cX4_mixedWithCourse 42 = .ok (.invokevirtual 134, 3) := by decide +kernel
theorem dX4_mixedWithCourse_45 : decode cX4_mixedWithCourse 45 = .ok (.istore 6, 2) := by decide +kernel
theorem dX4_mixedWithCourse_47 : decode cX4_mixedWithCourse 47 = .ok (.iconst 0, 1) := by decide +kernel
theorem dX4_mixedWithCourse_48 : decode cX4_mixedWithCourse 48 = .ok (.istore 7, 2) := by decide +kernel
theorem dX4_mixedWithCourse_50 : decode cX4_mixedWithCourse 50 = .ok (.iload 7, 2) := by decide +kernel
theorem dX4_mixedWithCourse_52 : decode cX4_mixedWithCourse 52 = .ok (.iload 6, 2) := by decide +kernel
theorem dX4_mixedWithCourse_54 : decode cX4_mixedWithCourse 54 = .ok (.if_icmp .ge 48, 3) := by decide +kernel
theorem dX4_mixedWithCourse_57 : decode cX4_mixedWithCourse 57 = .ok (.lload 4, 2) := by decide +kernel
theorem dX4_mixedWithCourse_59 : decode cX4_mixedWithCourse 59 = .ok (.aload_n 0, 1) := by decide +kernel
theorem dX4_mixedWithCourse_60 : decode cX4_mixedWithCourse 60 = .ok (.getfield 10, 3) := by decide +kernel
theorem dX4_mixedWithCourse_63 : decode cX4_mixedWithCourse 63 = .ok (.iload_n 3, 1) := by decide +kernel
theorem dX4_mixedWithCourse_64 : decode cX4_mixedWithCourse 64 = .ok (.iload 7, 2) := by decide +kernel
theorem dX4_mixedWithCourse_66 : decode cX4_mixedWithCourse 66 = .ok (.invokevirtual 140, 3) := by decide +kernel
theorem dX4_mixedWithCourse_69 : decode cX4_mixedWithCourse 69 = .ok (.i2l, 1) := by decide +kernel
theorem dX4_mixedWithCourse_70 : decode cX4_mixedWithCourse 70 = .ok (.invokestatic 192, 3) := by decide +kernel
theorem dX4_mixedWithCourse_73 : decode cX4_mixedWithCourse 73 = .ok (.lstore 4, 2) := by decide +kernel
theorem dX4_mixedWithCourse_75 : decode cX4_mixedWithCourse 75 = .ok (.lload 4, 2) := by decide +kernel
theorem dX4_mixedWithCourse_77 : decode cX4_mixedWithCourse 77 = .ok (.aload_n 0, 1) := by decide +kernel
theorem dX4_mixedWithCourse_78 : decode cX4_mixedWithCourse 78 = .ok (.getfield 10, 3) := by decide +kernel
theorem dX4_mixedWithCourse_81 : decode cX4_mixedWithCourse 81 = .ok (.iload_n 3, 1) := by decide +kernel
theorem dX4_mixedWithCourse_82 : decode cX4_mixedWithCourse 82 = .ok (.iload 7, 2) := by decide +kernel
theorem dX4_mixedWithCourse_84 : decode cX4_mixedWithCourse 84 = .ok (.invokevirtual 153, 3) := by decide +kernel
theorem dX4_mixedWithCourse_87 : decode cX4_mixedWithCourse 87 = .ok (.invokestatic 146, 3) := by decide +kernel
theorem dX4_mixedWithCourse_90 : decode cX4_mixedWithCourse 90 = .ok (.i2l, 1) := by decide +kernel
theorem dX4_mixedWithCourse_91 : decode cX4_mixedWithCourse 91 = .ok (.invokestatic 192, 3) := by decide +kernel
theorem dX4_mixedWithCourse_94 : decode cX4_mixedWithCourse 94 = .ok (.lstore 4, 2) := by decide +kernel
theorem dX4_mixedWithCourse_96 : decode cX4_mixedWithCourse 96 = .ok (.iinc 7 1, 3) := by decide +kernel
theorem dX4_mixedWithCourse_99 : decode cX4_mixedWithCourse 99 = .ok (.goto (-49), 3) := by decide +kernel
theorem dX4_mixedWithCourse_102 : decode cX4_mixedWithCourse 102 = .ok (.aload_n 0, 1) := by decide +kernel
theorem dX4_mixedWithCourse_103 : decode cX4_mixedWithCourse 103 = .ok (.getfield 22, 3) := by decide +kernel
theorem dX4_mixedWithCourse_106 : decode cX4_mixedWithCourse 106 = .ok (.aload_n 0, 1) := by decide +kernel
theorem dX4_mixedWithCourse_107 : decode cX4_mixedWithCourse 107 = .ok (.getfield 10, 3) := by decide +kernel
theorem dX4_mixedWithCourse_110 : decode cX4_mixedWithCourse 110 = .ok (.iload_n 3, 1) := by decide +kernel
theorem dX4_mixedWithCourse_111 : decode cX4_mixedWithCourse 111 = .ok (.invokevirtual 168, 3) := by decide +kernel
theorem dX4_mixedWithCourse_114 : decode cX4_mixedWithCourse 114 = .ok (.lload 4, 2) := by decide +kernel
theorem dX4_mixedWithCourse_116 : decode cX4_mixedWithCourse 116 = .ok (.aload_n 0, 1) := by decide +kernel
theorem dX4_mixedWithCourse_117 : decode cX4_mixedWithCourse 117 = .ok (.getfield 22, 3) := by decide +kernel
theorem dX4_mixedWithCourse_120 : decode cX4_mixedWithCourse 120 = .ok (.invokevirtual 172, 3) := by decide +kernel
theorem dX4_mixedWithCourse_123 : decode cX4_mixedWithCourse 123 = .ok (.i2l, 1) := by decide +kernel
theorem dX4_mixedWithCourse_124 : decode cX4_mixedWithCourse 124 = .ok (.invokestatic 192, 3) := by decide +kernel
theorem dX4_mixedWithCourse_127 : decode cX4_mixedWithCourse 127 = .ok (.lstore 4, 2) := by decide +kernel
theorem dX4_mixedWithCourse_129 : decode cX4_mixedWithCourse 129 = .ok (.lload 4, 2) := by decide +kernel
theorem dX4_mixedWithCourse_131 : decode cX4_mixedWithCourse 131 = .ok (.aload_n 0, 1) := by decide +kernel
theorem dX4_mixedWithCourse_132 : decode cX4_mixedWithCourse 132 = .ok (.getfield 22, 3) := by decide +kernel
theorem dX4_mixedWithCourse_135 : decode cX4_mixedWithCourse 135 = .ok (.invokevirtual 175, 3) := by decide +kernel
theorem dX4_mixedWithCourse_138 : decode cX4_mixedWithCourse 138 = .ok (.i2l, 1) := by decide +kernel
theorem dX4_mixedWithCourse_139 : decode cX4_mixedWithCourse 139 = .ok (.invokestatic 192, 3) := by decide +kernel
theorem dX4_mixedWithCourse_142 : decode cX4_mixedWithCourse 142 = .ok (.lstore 4, 2) := by decide +kernel
theorem dX4_mixedWithCourse_144 : decode cX4_mixedWithCourse 144 = .ok (.iconst 0, 1) := by decide +kernel
theorem dX4_mixedWithCourse_145 : decode cX4_mixedWithCourse 145 = .ok (.istore 7, 2) := by decide +kernel
theorem dX4_mixedWithCourse_147 : decode cX4_mixedWithCourse 147 = .ok (.iload 7, 2) := by decide +kernel
theorem dX4_mixedWithCourse_149 : decode cX4_mixedWithCourse 149 = .ok (.iconst 2, 1) := by decide +kernel
theorem dX4_mixedWithCourse_150 : decode cX4_mixedWithCourse 150 = .ok (.if_icmp .ge 74, 3) := by decide +kernel
theorem dX4_mixedWithCourse_153 : decode cX4_mixedWithCourse 153 = .ok (.aload_n 0, 1) := by decide +kernel
theorem dX4_mixedWithCourse_154 : decode cX4_mixedWithCourse 154 = .ok (.getfield 16, 3) := by decide +kernel
theorem dX4_mixedWithCourse_157 : decode cX4_mixedWithCourse 157 = .ok (.aload_n 0, 1) := by decide +kernel
theorem dX4_mixedWithCourse_158 : decode cX4_mixedWithCourse 158 = .ok (.getfield 10, 3) := by decide +kernel
theorem dX4_mixedWithCourse_161 : decode cX4_mixedWithCourse 161 = .ok (.invokevirtual 178, 3) := by decide +kernel
theorem dX4_mixedWithCourse_164 : decode cX4_mixedWithCourse 164 = .ok (.aload_n 0, 1) := by decide +kernel
theorem dX4_mixedWithCourse_165 : decode cX4_mixedWithCourse 165 = .ok (.getfield 16, 3) := by decide +kernel
theorem dX4_mixedWithCourse_168 : decode cX4_mixedWithCourse 168 = .ok (.iload_n 3, 1) := by decide +kernel
theorem dX4_mixedWithCourse_169 : decode cX4_mixedWithCourse 169 = .ok (.iload 7, 2) := by decide +kernel
theorem dX4_mixedWithCourse_171 : decode cX4_mixedWithCourse 171 = .ok (.invokevirtual 79, 3) := by decide +kernel
theorem dX4_mixedWithCourse_174 : decode cX4_mixedWithCourse 174 = .ok (.istore 8, 2) := by decide +kernel
theorem dX4_mixedWithCourse_176 : decode cX4_mixedWithCourse 176 = .ok (.lload 4, 2) := by decide +kernel
theorem dX4_mixedWithCourse_178 : decode cX4_mixedWithCourse 178 = .ok (.aload_n 0, 1) := by decide +kernel
theorem dX4_mixedWithCourse_179 : decode cX4_mixedWithCourse 179 = .ok (.getfield 16, 3) := by decide +kernel
theorem dX4_mixedWithCourse_182 : decode cX4_mixedWithCourse 182 = .ok (.iload_n 3, 1) := by decide +kernel
theorem dX4_mixedWithCourse_183 : decode cX4_mixedWithCourse 183 = .ok (.invokevirtual 181, 3) := by decide +kernel
theorem dX4_mixedWithCourse_186 : decode cX4_mixedWithCourse 186 = .ok (.i2l, 1) := by decide +kernel
theorem dX4_mixedWithCourse_187 : decode cX4_mixedWithCourse 187 = .ok (.invokestatic 192, 3) := by decide +kernel
theorem dX4_mixedWithCourse_190 : decode cX4_mixedWithCourse 190 = .ok (.lstore 4, 2) := by decide +kernel
theorem dX4_mixedWithCourse_192 : decode cX4_mixedWithCourse 192 = .ok (.lload 4, 2) := by decide +kernel
theorem dX4_mixedWithCourse_194 : decode cX4_mixedWithCourse 194 = .ok (.iload 8, 2) := by decide +kernel
theorem dX4_mixedWithCourse_196 : decode cX4_mixedWithCourse 196 = .ok (.i2l, 1) := by decide +kernel
theorem dX4_mixedWithCourse_197 : decode cX4_mixedWithCourse 197 = .ok (.invokestatic 192, 3) := by decide +kernel
theorem dX4_mixedWithCourse_200 : decode cX4_mixedWithCourse 200 = .ok (.lstore 4, 2) := by decide +kernel
theorem dX4_mixedWithCourse_202 : decode cX4_mixedWithCourse 202 = .ok (.lload 4, 2) := by decide +kernel
theorem dX4_mixedWithCourse_204 : decode cX4_mixedWithCourse 204 = .ok (.aload_n 0, 1) := by decide +kernel
theorem dX4_mixedWithCourse_205 : decode cX4_mixedWithCourse 205 = .ok (.getfield 16, 3) := by decide +kernel
theorem dX4_mixedWithCourse_208 : decode cX4_mixedWithCourse 208 = .ok (.iload_n 3, 1) := by decide +kernel
theorem dX4_mixedWithCourse_209 : decode cX4_mixedWithCourse 209 = .ok (.invokevirtual 184, 3) := by decide +kernel
theorem dX4_mixedWithCourse_212 : decode cX4_mixedWithCourse 212 = .ok (.i2l, 1) := by decide +kernel
theorem dX4_mixedWithCourse_213 : decode cX4_mixedWithCourse 213 = .ok (.invokestatic 192, 3) := by decide +kernel
theorem dX4_mixedWithCourse_216 : decode cX4_mixedWithCourse 216 = .ok (.lstore 4, 2) := by decide +kernel
theorem dX4_mixedWithCourse_218 : decode cX4_mixedWithCourse 218 = .ok (.iinc 7 1, 3) := by decide +kernel
theorem dX4_mixedWithCourse_221 : decode cX4_mixedWithCourse 221 = .ok (.goto (-74), 3) := by decide +kernel
theorem dX4_mixedWithCourse_224 : decode cX4_mixedWithCourse 224 = .ok (.lload 4, 2) := by decide +kernel
theorem dX4_mixedWithCourse_226 : decode cX4_mixedWithCourse 226 = .ok (.lreturn, 1) := by decide +kernel
theorem dX4_mixed_0 : decode cX4_mixed 0 = .ok (.ldc2_w 211, 3) := by decide +kernel
theorem dX4_mixed_3 : decode cX4_mixed 3 = .ok (.lload_n 0, 1) := by decide +kernel
theorem dX4_mixed_4 : decode cX4_mixed 4 = .ok (.lmul, 1) := by decide +kernel
theorem dX4_mixed_5 : decode cX4_mixed 5 = .ok (.lload_n 2, 1) := by decide +kernel
theorem dX4_mixed_6 : decode cX4_mixed 6 = .ok (.ladd, 1) := by decide +kernel
theorem dX4_mixed_7 : decode cX4_mixed 7 = .ok (.lreturn, 1) := by decide +kernel
theorem dX4_bitsOf_0 : decode cX4_bitsOf 0 = .ok (.dload_n 0, 1) := by decide +kernel
theorem dX4_bitsOf_1 : decode cX4_bitsOf 1 = .ok (.dconst 0, 1) := by decide +kernel
theorem dX4_bitsOf_2 : decode cX4_bitsOf 2 = .ok (.dcmp .l, 1) := by decide +kernel
theorem dX4_bitsOf_3 : decode cX4_bitsOf 3 = .ok (.ifCond .gt 5, 3) := by decide +kernel
theorem dX4_bitsOf_6 : decode cX4_bitsOf 6 = .ok (.lconst 0, 1) := by decide +kernel
theorem dX4_bitsOf_7 : decode cX4_bitsOf 7 = .ok (.lreturn, 1) := by decide +kernel
theorem dX4_bitsOf_8 : decode cX4_bitsOf 8 = .ok (.dload_n 0, 1) := by decide +kernel
theorem dX4_bitsOf_9 : decode cX4_bitsOf 9 = .ok (.dstore_n 2, 1) := by decide +kernel
theorem dX4_bitsOf_10 : decode cX4_bitsOf 10 = .ok (.ldc2_w 213, 3) := by decide +kernel
theorem dX4_bitsOf_13 : decode cX4_bitsOf 13 = .ok (.lstore 4, 2) := by decide +kernel
theorem dX4_bitsOf_15 : decode cX4_bitsOf 15 = .ok (.iconst 0, 1) := by decide +kernel
theorem dX4_bitsOf_16 : decode cX4_bitsOf 16 = .ok (.istore 6, 2) := by decide +kernel
theorem dX4_bitsOf_18 : decode cX4_bitsOf 18 = .ok (.iload 6, 2) := by decide +kernel
theorem dX4_bitsOf_20 : decode cX4_bitsOf 20 = .ok (.bipush 64, 2) := by decide +kernel
theorem dX4_bitsOf_22 : decode cX4_bitsOf 22 = .ok (.if_icmp .ge 27, 3) := by decide +kernel
theorem dX4_bitsOf_25 : decode cX4_bitsOf 25 = .ok (.dload_n 2, 1) := by decide +kernel
theorem dX4_bitsOf_26 : decode cX4_bitsOf 26 = .ok (.dconst 1, 1) := by decide +kernel
theorem dX4_bitsOf_27 : decode cX4_bitsOf 27 = .ok (.dcmp .g, 1) := by decide +kernel
theorem dX4_bitsOf_28 : decode cX4_bitsOf 28 = .ok (.ifCond .ge 21, 3) := by decide +kernel
theorem dX4_bitsOf_31 : decode cX4_bitsOf 31 = .ok (.dload_n 2, 1) := by decide +kernel
theorem dX4_bitsOf_32 : decode cX4_bitsOf 32 = .ok (.ldc2_w 215, 3) := by decide +kernel
theorem dX4_bitsOf_35 : decode cX4_bitsOf 35 = .ok (.dmul, 1) := by decide +kernel
theorem dX4_bitsOf_36 : decode cX4_bitsOf 36 = .ok (.dstore_n 2, 1) := by decide +kernel
theorem dX4_bitsOf_37 : decode cX4_bitsOf 37 = .ok (.lload 4, 2) := by decide +kernel
theorem dX4_bitsOf_39 : decode cX4_bitsOf 39 = .ok (.lconst 1, 1) := by decide +kernel
theorem dX4_bitsOf_40 : decode cX4_bitsOf 40 = .ok (.lsub, 1) := by decide +kernel
theorem dX4_bitsOf_41 : decode cX4_bitsOf 41 = .ok (.lstore 4, 2) := by decide +kernel
theorem dX4_bitsOf_43 : decode cX4_bitsOf 43 = .ok (.iinc 6 1, 3) := by decide +kernel
theorem dX4_bitsOf_46 : decode cX4_bitsOf 46 = .ok (.goto (-28), 3) := by decide +kernel
theorem dX4_bitsOf_49 : decode cX4_bitsOf 49 = .ok (.lload 4, 2) := by decide +kernel
theorem dX4_bitsOf_51 : decode cX4_bitsOf 51 = .ok (.bipush 52, 2) := by decide +kernel
theorem dX4_bitsOf_53 : decode cX4_bitsOf 53 = .ok (.lshl, 1) := by decide +kernel
theorem dX4_bitsOf_54 : decode cX4_bitsOf 54 = .ok (.dload_n 2, 1) := by decide +kernel
theorem dX4_bitsOf_55 : decode cX4_bitsOf 55 = .ok (.dconst 1, 1) := by decide +kernel
theorem dX4_bitsOf_56 : decode cX4_bitsOf 56 = .ok (.dsub, 1) := by decide +kernel
theorem dX4_bitsOf_57 : decode cX4_bitsOf 57 = .ok (.ldc2_w 217, 3) := by decide +kernel
theorem dX4_bitsOf_60 : decode cX4_bitsOf 60 = .ok (.dmul, 1) := by decide +kernel
theorem dX4_bitsOf_61 : decode cX4_bitsOf 61 = .ok (.d2l, 1) := by decide +kernel
theorem dX4_bitsOf_62 : decode cX4_bitsOf 62 = .ok (.ladd, 1) := by decide +kernel
theorem dX4_bitsOf_63 : decode cX4_bitsOf 63 = .ok (.lreturn, 1) := by decide +kernel
theorem dX4_numberOf_0 : decode cX4_numberOf 0 = .ok (.iload_n 0, 1) := by decide +kernel
theorem dX4_numberOf_1 : decode cX4_numberOf 1 = .ok (.ifCond .eq 7, 3) := by decide +kernel
theorem dX4_numberOf_4 : decode cX4_numberOf 4 = .ok (.iconst 1, 1) := by decide +kernel
theorem dX4_numberOf_5 : decode cX4_numberOf 5 = .ok (.goto 4, 3) := by decide +kernel
theorem dX4_numberOf_8 : decode cX4_numberOf 8 = .ok (.iconst 0, 1) := by decide +kernel
theorem dX4_numberOf_9 : decode cX4_numberOf 9 = .ok (.ireturn, 1) := by decide +kernel
theorem dX4_isSettingValue_0 : decode cX4_isSettingValue 0 = .ok (.iload_n 0, 1) := by decide +kernel
theorem dX4_isSettingValue_1 : decode cX4_isSettingValue 1 = .ok (.ifCond .ne 21, 3) := by decide +kernel
theorem dX4_isSettingValue_4 : decode cX4_isSettingValue 4 = .ok (.iload_n 1, 1) := by decide +kernel
theorem dX4_isSettingValue_5 : decode cX4_isSettingValue 5 = .ok (.bipush 24, 2) := by decide +kernel
theorem dX4_isSettingValue_7 : decode cX4_isSettingValue 7 = .ok (.if_icmp .lt 13, 3) := by decide +kernel
theorem dX4_isSettingValue_10 : decode cX4_isSettingValue 10 = .ok (.iload_n 1, 1) := by decide +kernel
theorem dX4_isSettingValue_11 : decode cX4_isSettingValue 11 = .ok (.bipush 60, 2) := by decide +kernel
theorem dX4_isSettingValue_13 : decode cX4_isSettingValue 13 = .ok (.if_icmp .gt 7, 3) := by decide +kernel
theorem dX4_isSettingValue_16 : decode cX4_isSettingValue 16 = .ok (.iconst 1, 1) := by decide +kernel
theorem dX4_isSettingValue_17 : decode cX4_isSettingValue 17 = .ok (.goto 4, 3) := by decide +kernel
theorem dX4_isSettingValue_20 : decode cX4_isSettingValue 20 = .ok (.iconst 0, 1) := by decide +kernel
theorem dX4_isSettingValue_21 : decode cX4_isSettingValue 21 = .ok (.ireturn, 1) := by decide +kernel
theorem dX4_isSettingValue_22 : decode cX4_isSettingValue 22 = .ok (.iload_n 1, 1) := by decide +kernel
theorem dX4_isSettingValue_23 : decode cX4_isSettingValue 23 = .ok (.ifCond .lt 21, 3) := by decide +kernel
theorem dX4_isSettingValue_26 : decode cX4_isSettingValue 26 = .ok (.iload_n 1, 1) := by decide +kernel
theorem dX4_isSettingValue_27 : decode cX4_isSettingValue 27 = .ok (.iload_n 0, 1) := by decide +kernel
theorem dX4_isSettingValue_28 : decode cX4_isSettingValue 28 = .ok (.iconst 1, 1) := by decide +kernel
theorem dX4_isSettingValue_29 : decode cX4_isSettingValue 29 = .ok (.if_icmp .ne 7, 3) := by decide +kernel
theorem dX4_isSettingValue_32 : decode cX4_isSettingValue 32 = .ok (.iconst 3, 1) := by decide +kernel
theorem dX4_isSettingValue_33 : decode cX4_isSettingValue 33 = .ok (.goto 4, 3) := by decide +kernel
theorem dX4_isSettingValue_36 : decode cX4_isSettingValue 36 = .ok (.iconst 2, 1) := by decide +kernel
theorem dX4_isSettingValue_37 : decode cX4_isSettingValue 37 = .ok (.if_icmp .ge 7, 3) := by decide +kernel
theorem dX4_isSettingValue_40 : decode cX4_isSettingValue 40 = .ok (.iconst 1, 1) := by decide +kernel
theorem dX4_isSettingValue_41 : decode cX4_isSettingValue 41 = .ok (.goto 4, 3) := by decide +kernel
theorem dX4_isSettingValue_44 : decode cX4_isSettingValue 44 = .ok (.iconst 0, 1) := by decide +kernel
theorem dX4_isSettingValue_45 : decode cX4_isSettingValue 45 = .ok (.ireturn, 1) := by decide +kernel
set_option maxRecDepth 20000 in
theorem ggX4_needCourse_X4_needIndex : GoodIn wsX4_needCourse wsX4_needIndex := goodIn_ca (goodIn_r _ [4, 5, 6] (by decide +kernel) (by decide +kernel)) (goodIn_sub (fun _ h => List.mem_cons_of_mem _ (List.mem_append_right _ h)) (by decide +kernel))
set_option maxRecDepth 20000 in
theorem gX4_needCourse_X4_needIndex : GoodIn wsX4_needCourse (va_wsS RX4 137 yX4_needIndex wsX4_needIndex) := goodIn_app (goodIn_of _ (by decide +kernel)) ggX4_needCourse_X4_needIndex
theorem dX4_needCourse_0 : decode cX4_needCourse 0 = .ok (.iload_n 0, 1) := by decide +kernel
theorem dX4_needCourse_1 : decode cX4_needCourse 1 = .ok (.ifCond .lt 13, 3) := by decide +kernel
theorem dX4_needCourse_4 : decode cX4_needCourse 4 = .ok (.iload_n 0, 1) := by decide +kernel
theorem dX4_needCourse_5 : decode cX4_needCourse 5 = .ok (.bipush 6, 2) := by decide +kernel
theorem dX4_needCourse_7 : decode cX4_needCourse 7 = .ok (.if_icmp .ge 7, 3) := by decide +kernel
theorem dX4_needCourse_10 : decode cX4_needCourse 10 = .ok (.iconst 1, 1) := by decide +kernel
theorem dX4_needCourse_11 : decode cX4_needCourse 11 = .ok (.goto 4, 3) := by decide +kernel
theorem dX4_needCourse_14 : decode cX4_needCourse 14 = .ok (.iconst 0, 1) := by decide +kernel
theorem dX4_needCourse_15 : decode cX4_needCourse 15 = .ok (.invokestatic 137, 3) := by decide +kernel
theorem dX4_needCourse_18 : decode cX4_needCourse 18 = .ok (.return_, 1) := by decide +kernel
set_option maxRecDepth 20000 in
theorem ggX4_needSetting_X4_needIndex : GoodIn wsX4_needSetting wsX4_needIndex := goodIn_ca (goodIn_r _ [4, 5, 6] (by decide +kernel) (by decide +kernel)) (goodIn_sub (fun _ h => List.mem_cons_of_mem _ (List.mem_append_right _ h)) (by decide +kernel))
set_option maxRecDepth 20000 in
theorem gX4_needSetting_X4_needIndex : GoodIn wsX4_needSetting (va_wsS RX4 137 yX4_needIndex wsX4_needIndex) := goodIn_app (goodIn_of _ (by decide +kernel)) ggX4_needSetting_X4_needIndex
theorem dX4_needSetting_0 : decode cX4_needSetting 0 = .ok (.iload_n 0, 1) := by decide +kernel
theorem dX4_needSetting_1 : decode cX4_needSetting 1 = .ok (.ifCond .lt 12, 3) := by decide +kernel
theorem dX4_needSetting_4 : decode cX4_needSetting 4 = .ok (.iload_n 0, 1) := by decide +kernel
theorem dX4_needSetting_5 : decode cX4_needSetting 5 = .ok (.iconst 3, 1) := by decide +kernel
theorem dX4_needSetting_6 : decode cX4_needSetting 6 = .ok (.if_icmp .ge 7, 3) := by decide +kernel
theorem dX4_needSetting_9 : decode cX4_needSetting 9 = .ok (.iconst 1, 1) := by decide +kernel
theorem dX4_needSetting_10 : decode cX4_needSetting 10 = .ok (.goto 4, 3) := by decide +kernel
theorem dX4_needSetting_13 : decode cX4_needSetting 13 = .ok (.iconst 0, 1) := by decide +kernel
theorem dX4_needSetting_14 : decode cX4_needSetting 14 = .ok (.invokestatic 137, 3) := by decide +kernel
theorem dX4_needSetting_17 : decode cX4_needSetting 17 = .ok (.return_, 1) := by decide +kernel
set_option maxRecDepth 20000 in
theorem ggX4_needSize_X4_needArgument : GoodIn wsX4_needSize wsX4_needArgument := goodIn_ca (goodIn_r _ [4, 5, 6] (by decide +kernel) (by decide +kernel)) (goodIn_sub (fun _ h => List.mem_cons_of_mem _ (List.mem_append_right _ h)) (by decide +kernel))
set_option maxRecDepth 20000 in
theorem gX4_needSize_X4_needArgument : GoodIn wsX4_needSize (va_wsS RX4 44 yX4_needArgument wsX4_needArgument) := goodIn_app (goodIn_of _ (by decide +kernel)) ggX4_needSize_X4_needArgument
theorem dX4_needSize_0 : decode cX4_needSize 0 = .ok (.iload_n 0, 1) := by decide +kernel
theorem dX4_needSize_1 : decode cX4_needSize 1 = .ok (.iconst 1, 1) := by decide +kernel
theorem dX4_needSize_2 : decode cX4_needSize 2 = .ok (.if_icmp .lt 13, 3) := by decide +kernel
theorem dX4_needSize_5 : decode cX4_needSize 5 = .ok (.iload_n 0, 1) := by decide +kernel
theorem dX4_needSize_6 : decode cX4_needSize 6 = .ok (.bipush 6, 2) := by decide +kernel
theorem dX4_needSize_8 : decode cX4_needSize 8 = .ok (.if_icmp .gt 7, 3) := by decide +kernel
theorem dX4_needSize_11 : decode cX4_needSize 11 = .ok (.iconst 1, 1) := by decide +kernel
theorem dX4_needSize_12 : decode cX4_needSize 12 = .ok (.goto 4, 3) := by decide +kernel
theorem dX4_needSize_15 : decode cX4_needSize 15 = .ok (.iconst 0, 1) := by decide +kernel
theorem dX4_needSize_16 : decode cX4_needSize 16 = .ok (.invokestatic 44, 3) := by decide +kernel
theorem dX4_needSize_19 : decode cX4_needSize 19 = .ok (.return_, 1) := by decide +kernel
theorem dX4_needIndex_0 : decode cX4_needIndex 0 = .ok (.iload_n 0, 1) := by decide +kernel
theorem dX4_needIndex_1 : decode cX4_needIndex 1 = .ok (.ifCond .ne 13, 3) := by decide +kernel
theorem dX4_needIndex_4 : decode cX4_needIndex 4 = .ok (.new 219, 3) := by decide +kernel
theorem dX4_needIndex_7 : decode cX4_needIndex 7 = .ok (.dup, 1) := by decide +kernel
theorem dX4_needIndex_8 : decode cX4_needIndex 8 = .ok (.ldc 221, 2) := by decide +kernel
theorem dX4_needIndex_10 : decode cX4_needIndex 10 = .ok (.invokespecial 223, 3) := by decide +kernel
theorem dX4_needIndex_13 : decode cX4_needIndex 13 = .ok (.athrow, 1) := by decide +kernel
theorem dX4_needIndex_14 : decode cX4_needIndex 14 = .ok (.return_, 1) := by decide +kernel
theorem dX4_needArgument_0 : decode cX4_needArgument 0 = .ok (.iload_n 0, 1) := by decide +kernel
theorem dX4_needArgument_1 : decode cX4_needArgument 1 = .ok (.ifCond .ne 13, 3) := by decide +kernel
theorem dX4_needArgument_4 : decode cX4_needArgument 4 = .ok (.new 226, 3) := by decide +kernel
theorem dX4_needArgument_7 : decode cX4_needArgument 7 = .ok (.dup, 1) := by decide +kernel
theorem dX4_needArgument_8 : decode cX4_needArgument 8 = .ok (.ldc 228, 2) := by decide +kernel
theorem dX4_needArgument_10 : decode cX4_needArgument 10 = .ok (.invokespecial 230, 3) := by decide +kernel
theorem dX4_needArgument_13 : decode cX4_needArgument 13 = .ok (.athrow, 1) := by decide +kernel
theorem dX4_needArgument_14 : decode cX4_needArgument 14 = .ok (.return_, 1) := by decide +kernel
theorem dX4_needState_0 : decode cX4_needState 0 = .ok (.iload_n 0, 1) := by decide +kernel
theorem dX4_needState_1 : decode cX4_needState 1 = .ok (.ifCond .ne 13, 3) := by decide +kernel
theorem dX4_needState_4 : decode cX4_needState 4 = .ok (.new 231, 3) := by decide +kernel
theorem dX4_needState_7 : decode cX4_needState 7 = .ok (.dup, 1) := by decide +kernel
theorem dX4_needState_8 : decode cX4_needState 8 = .ok (.ldc 233, 2) := by decide +kernel
theorem dX4_needState_10 : decode cX4_needState 10 = .ok (.invokespecial 235, 3) := by decide +kernel
theorem dX4_needState_13 : decode cX4_needState 13 = .ok (.athrow, 1) := by decide +kernel
theorem dX4_needState_14 : decode cX4_needState 14 = .ok (.return_, 1) := by decide +kernel
theorem dX5_init_0 : decode cX5_init 0 = .ok (.aload_n 0, 1) := by decide +kernel
theorem dX5_init_1 : decode cX5_init 1 = .ok (.invokespecial 1, 3) := by decide +kernel
theorem dX5_init_4 : decode cX5_init 4 = .ok (.aload_n 0, 1) := by decide +kernel
theorem dX5_init_5 : decode cX5_init 5 = .ok (.sipush 376, 3) := by decide +kernel
theorem dX5_init_8 : decode cX5_init 8 = .ok (.newarray .int, 2) := by decide +kernel
theorem dX5_init_10 : decode cX5_init 10 = .ok (.putfield 7, 3) := by decide +kernel
theorem dX5_init_13 : decode cX5_init 13 = .ok (.aload_n 0, 1) := by decide +kernel
theorem dX5_init_14 : decode cX5_init 14 = .ok (.sipush 376, 3) := by decide +kernel
theorem dX5_init_17 : decode cX5_init 17 = .ok (.newarray .int, 2) := by decide +kernel
theorem dX5_init_19 : decode cX5_init 19 = .ok (.putfield 13, 3) := by decide +kernel
theorem dX5_init_22 : decode cX5_init 22 = .ok (.aload_n 0, 1) := by decide +kernel
theorem dX5_init_23 : decode cX5_init 23 = .ok (.sipush 2256, 3) := by decide +kernel
theorem dX5_init_26 : decode cX5_init 26 = .ok (.newarray .int, 2) := by decide +kernel
theorem dX5_init_28 : decode cX5_init 28 = .ok (.putfield 16, 3) := by decide +kernel
theorem dX5_init_31 : decode cX5_init 31 = .ok (.aload_n 0, 1) := by decide +kernel
theorem dX5_init_32 : decode cX5_init 32 = .ok (.bipush 60, 2) := by decide +kernel
theorem dX5_init_34 : decode cX5_init 34 = .ok (.newarray .int, 2) := by decide +kernel
theorem dX5_init_36 : decode cX5_init 36 = .ok (.putfield 19, 3) := by decide +kernel
theorem dX5_init_39 : decode cX5_init 39 = .ok (.aload_n 0, 1) := by decide +kernel
theorem dX5_init_40 : decode cX5_init 40 = .ok (.sipush 180, 3) := by decide +kernel
theorem dX5_init_43 : decode cX5_init 43 = .ok (.newarray .int, 2) := by decide +kernel
theorem dX5_init_45 : decode cX5_init 45 = .ok (.putfield 22, 3) := by decide +kernel
theorem dX5_init_48 : decode cX5_init 48 = .ok (.aload_n 0, 1) := by decide +kernel
theorem dX5_init_49 : decode cX5_init 49 = .ok (.bipush 61, 2) := by decide +kernel
theorem dX5_init_51 : decode cX5_init 51 = .ok (.newarray .int, 2) := by decide +kernel
theorem dX5_init_53 : decode cX5_init 53 = .ok (.putfield 25, 3) := by decide +kernel
theorem dX5_init_56 : decode cX5_init 56 = .ok (.aload_n 0, 1) := by decide +kernel
theorem dX5_init_57 : decode cX5_init 57 = .ok (.getfield 7, 3) := by decide +kernel
theorem dX5_init_60 : decode cX5_init 60 = .ok (.iconst 0, 1) := by decide +kernel
theorem dX5_init_61 : decode cX5_init 61 = .ok (.bipush 32, 2) := by decide +kernel
theorem dX5_init_63 : decode cX5_init 63 = .ok (.iastore, 1) := by decide +kernel
theorem dX5_init_64 : decode cX5_init 64 = .ok (.iconst 1, 1) := by decide +kernel
theorem dX5_init_65 : decode cX5_init 65 = .ok (.istore_n 1, 1) := by decide +kernel
theorem dX5_init_66 : decode cX5_init 66 = .ok (.iload_n 1, 1) := by decide +kernel
theorem dX5_init_67 : decode cX5_init 67 = .ok (.bipush 6, 2) := by decide +kernel
theorem dX5_init_69 : decode cX5_init 69 = .ok (.if_icmp .gt 19, 3) := by decide +kernel
theorem dX5_init_72 : decode cX5_init 72 = .ok (.aload_n 0, 1) := by decide +kernel
theorem dX5_init_73 : decode cX5_init 73 = .ok (.getfield 7, 3) := by decide +kernel
theorem dX5_init_76 : decode cX5_init 76 = .ok (.iconst 3, 1) := by decide +kernel
theorem dX5_init_77 : decode cX5_init 77 = .ok (.iload_n 1, 1) := by decide +kernel
theorem dX5_init_78 : decode cX5_init 78 = .ok (.iadd, 1) := by decide +kernel
theorem dX5_init_79 : decode cX5_init 79 = .ok (.bipush 9, 2) := by decide +kernel
theorem dX5_init_81 : decode cX5_init 81 = .ok (.iastore, 1) := by decide +kernel
theorem dX5_init_82 : decode cX5_init 82 = .ok (.iinc 1 1, 3) := by decide +kernel
theorem dX5_init_85 : decode cX5_init 85 = .ok (.goto (-19), 3) := by decide +kernel
theorem dX5_init_88 : decode cX5_init 88 = .ok (.return_, 1) := by decide +kernel
theorem dX5_thrown_0 : decode cX5_thrown 0 = .ok (.aload_n 0, 1) := by decide +kernel
theorem dX5_thrown_1 : decode cX5_thrown 1 = .ok (.getfield 28, 3) := by decide +kernel
theorem dX5_thrown_4 : decode cX5_thrown 4 = .ok (.ireturn, 1) := by decide +kernel
theorem dX5_fails_0 : decode cX5_fails 0 = .ok (.aload_n 0, 1) := by decide +kernel
theorem dX5_fails_1 : decode cX5_fails 1 = .ok (.iload_n 1, 1) := by decide +kernel
theorem dX5_fails_2 : decode cX5_fails 2 = .ok (.putfield 28, 3) := by decide +kernel
theorem dX5_fails_5 : decode cX5_fails 5 = .ok (.iconst 0, 1) := by decide +kernel
theorem dX5_fails_6 : decode cX5_fails 6 = .ok (.ireturn, 1) := by decide +kernel
theorem dX5_in_0 : decode cX5_in 0 = .ok (.iload_n 0, 1) := by decide +kernel
theorem dX5_in_1 : decode cX5_in 1 = .ok (.iload_n 1, 1) := by decide +kernel
theorem dX5_in_2 : decode cX5_in 2 = .ok (.if_icmp .lt 12, 3) := by decide +kernel
theorem dX5_in_5 : decode cX5_in 5 = .ok (.iload_n 0, 1) := by decide +kernel
theorem dX5_in_6 : decode cX5_in 6 = .ok (.iload_n 2, 1) := by decide +kernel
theorem dX5_in_7 : decode cX5_in 7 = .ok (.if_icmp .gt 7, 3) := by decide +kernel
theorem dX5_in_10 : decode cX5_in 10 = .ok (.iconst 1, 1) := by decide +kernel
theorem dX5_in_11 : decode cX5_in 11 = .ok (.goto 4, 3) := by decide +kernel
theorem dX5_in_14 : decode cX5_in 14 = .ok (.iconst 0, 1) := by decide +kernel
theorem dX5_in_15 : decode cX5_in 15 = .ok (.ireturn, 1) := by decide +kernel
set_option maxRecDepth 20000 in
theorem ggX5_isCourse_X5_in : GoodIn wsX5_isCourse wsX5_in := goodIn_r _ [4] (by decide +kernel) (by decide +kernel)
set_option maxRecDepth 20000 in
theorem gX5_isCourse_X5_in : GoodIn wsX5_isCourse (va_wsS RX5 32 yX5_in wsX5_in) := goodIn_app (goodIn_of _ (by decide +kernel)) ggX5_isCourse_X5_in
theorem dX5_isCourse_0 : decode cX5_isCourse 0 = .ok (.iload_n 0, 1) := by decide +kernel
theorem dX5_isCourse_1 : decode cX5_isCourse 1 = .ok (.iconst 0, 1) := by decide +kernel
theorem dX5_isCourse_2 : decode cX5_isCourse 2 = .ok (.iconst 5, 1) := by decide +kernel
theorem dX5_isCourse_3 : decode cX5_isCourse 3 = .ok (.invokestatic 32, 3) := by decide +kernel
theorem dX5_isCourse_6 : decode cX5_isCourse 6 = .ok (.ireturn, 1) := by decide +kernel
set_option maxRecDepth 20000 in
theorem ggX5_isSize_X5_in : GoodIn wsX5_isSize wsX5_in := goodIn_r _ [4] (by decide +kernel) (by decide +kernel)
set_option maxRecDepth 20000 in
theorem gX5_isSize_X5_in : GoodIn wsX5_isSize (va_wsS RX5 32 yX5_in wsX5_in) := goodIn_app (goodIn_of _ (by decide +kernel)) ggX5_isSize_X5_in
theorem dX5_isSize_0 : decode cX5_isSize 0 = .ok (.iload_n 0, 1) := by decide +kernel
theorem dX5_isSize_1 : decode cX5_isSize 1 = .ok (.iconst 1, 1) := by decide +kernel
theorem dX5_isSize_2 : decode cX5_isSize 2 = .ok (.bipush 6, 2) := by decide +kernel
theorem dX5_isSize_4 : decode cX5_isSize 4 = .ok (.invokestatic 32, 3) := by decide +kernel
theorem dX5_isSize_7 : decode cX5_isSize 7 = .ok (.ireturn, 1) := by decide +kernel
theorem dX5_saves_0 : decode cX5_saves 0 = .ok (.aload_n 0, 1) := by decide +kernel
theorem dX5_saves_1 : decode cX5_saves 1 = .ok (.getfield 36, 3) := by decide +kernel
theorem dX5_saves_4 : decode cX5_saves 4 = .ok (.bipush 6, 2) := by decide +kernel
theorem dX5_saves_6 : decode cX5_saves 6 = .ok (.if_icmp .ne 44, 3) := by decide +kernel
theorem dX5_saves_9 : decode cX5_saves 9 = .ok (.iconst 0, 1) := by decide +kernel
theorem dX5_saves_10 : decode cX5_saves 10 = .ok (.istore_n 1, 1) := by decide +kernel
theorem dX5_saves_11 : decode cX5_saves 11 = .ok (.iload_n 1, 1) := by decide +kernel
theorem dX5_saves_12 : decode cX5_saves 12 = .ok (.sipush 1880, 3) := by decide +kernel
theorem dX5_saves_15 : decode cX5_saves 15 = .ok (.if_icmp .ge 25, 3) := by decide +kernel
theorem dX5_saves_18 : decode cX5_saves 18 = .ok (.aload_n 0, 1) := by decide +kernel
theorem dX5_saves_19 : decode cX5_saves 19 = .ok (.getfield 16, 3) := by decide +kernel
theorem dX5_saves_22 : decode cX5_saves 22 = .ok (.iload_n 1, 1) := by decide +kernel
theorem dX5_saves_23 : decode cX5_saves 23 = .ok (.aload_n 0, 1) := by decide +kernel
theorem dX5_saves_24 : decode cX5_saves 24 = .ok (.getfield 16, 3) := by decide +kernel
theorem dX5_saves_27 : decode cX5_saves 27 = .ok (.iload_n 1, 1) := by decide +kernel
theorem dX5_saves_28 : decode cX5_saves 28 = .ok (.sipush 376, 3) := by decide +kernel
theorem dX5_saves_31 : decode cX5_saves 31 = .ok (.iadd, 1) := by decide +kernel
theorem dX5_saves_32 : decode cX5_saves 32 = .ok (.iaload, 1) := by decide +kernel
theorem dX5_saves_33 : decode cX5_saves 33 = .ok (.iastore, 1) := by decide +kernel
theorem dX5_saves_34 : decode cX5_saves 34 = .ok (.iinc 1 1, 3) := by decide +kernel
theorem dX5_saves_37 : decode cX5_saves 37 = .ok (.goto (-26), 3) := by decide +kernel
theorem dX5_saves_40 : decode cX5_saves 40 = .ok (.aload_n 0, 1) := by decide +kernel
theorem dX5_saves_41 : decode cX5_saves 41 = .ok (.dup, 1) := by decide +kernel
theorem dX5_saves_42 : decode cX5_saves 42 = .ok (.getfield 36, 3) := by decide +kernel
theorem dX5_saves_45 : decode cX5_saves 45 = .ok (.iconst 1, 1) := by decide +kernel
theorem dX5_saves_46 : decode cX5_saves 46 = .ok (.isub, 1) := by decide +kernel
theorem dX5_saves_47 : decode cX5_saves 47 = .ok (.putfield 36, 3) := by decide +kernel
theorem dX5_saves_50 : decode cX5_saves 50 = .ok (.iconst 0, 1) := by decide +kernel
theorem dX5_saves_51 : decode cX5_saves 51 = .ok (.istore_n 1, 1) := by decide +kernel
theorem dX5_saves_52 : decode cX5_saves 52 = .ok (.iload_n 1, 1) := by decide +kernel
theorem dX5_saves_53 : decode cX5_saves 53 = .ok (.sipush 376, 3) := by decide +kernel
theorem dX5_saves_56 : decode cX5_saves 56 = .ok (.if_icmp .ge 30, 3) := by decide +kernel
theorem dX5_saves_59 : decode cX5_saves 59 = .ok (.aload_n 0, 1) := by decide +kernel
theorem dX5_saves_60 : decode cX5_saves 60 = .ok (.getfield 16, 3) := by decide +kernel
theorem dX5_saves_63 : decode cX5_saves 63 = .ok (.sipush 376, 3) := by decide +kernel
theorem dX5_saves_66 : decode cX5_saves 66 = .ok (.aload_n 0, 1) := by decide +kernel
theorem dX5_saves_67 : decode cX5_saves 67 = .ok (.getfield 36, 3) := by decide +kernel
theorem dX5_saves_70 : decode cX5_saves 70 = .ok (.imul, 1) := by decide +kernel
theorem dX5_saves_71 : decode cX5_saves 71 = .ok (.iload_n 1, 1) := by decide +kernel
theorem dX5_saves_72 : decode cX5_saves 72 = .ok (.iadd, 1) := by decide +kernel
theorem dX5_saves_73 : decode cX5_saves 73 = .ok (.aload_n 0, 1) := by decide +kernel
theorem dX5_saves_74 : decode cX5_saves 74 = .ok (.getfield 7, 3) := by decide +kernel
theorem dX5_saves_77 : decode cX5_saves 77 = .ok (.iload_n 1, 1) := by decide +kernel
theorem dX5_saves_78 : decode cX5_saves 78 = .ok (.iaload, 1) := by decide +kernel
theorem dX5_saves_79 : decode cX5_saves 79 = .ok (.iastore, 1) := by decide +kernel
theorem dX5_saves_80 : decode cX5_saves 80 = .ok (.iinc 1 1, 3) := by decide +kernel
theorem dX5_saves_83 : decode cX5_saves 83 = .ok (.goto (-31), 3) := by decide +kernel
theorem dX5_saves_86 : decode cX5_saves 86 = .ok (.aload_n 0, 1) := by decide +kernel
theorem dX5_saves_87 : decode cX5_saves 87 = .ok (.dup, 1) := by decide +kernel
theorem dX5_saves_88 : decode cX5_saves 88 = .ok (.getfield 36, 3) := by decide +kernel
theorem dX5_saves_91 : decode cX5_saves 91 = .ok (.iconst 1, 1) := by decide +kernel
theorem dX5_saves_92 : decode cX5_saves 92 = .ok (.iadd, 1) := by decide +kernel
theorem dX5_saves_93 : decode cX5_saves 93 = .ok (.putfield 36, 3) := by decide +kernel
theorem dX5_saves_96 : decode cX5_saves 96 = .ok (.return_, 1) := by decide +kernel
set_option maxRecDepth 20000 in
theorem ggX5_undo_X5_fails : GoodIn wsX5_undo wsX5_fails := goodIn_r _ [9, 1, 10, 11, 12, 13, 14, 15, 16, 17, 18, 19, 20, 21] (by decide +kernel) (by decide +kernel)
set_option maxRecDepth 20000 in
theorem gX5_undo_X5_fails : GoodIn wsX5_undo (wsV RX5 39 RX5 yX5_fails wsX5_fails) := goodIn_app (goodIn_of _ (by decide +kernel)) ggX5_undo_X5_fails
theorem dX5_undo_0 : decode cX5_undo 0 = .ok (.aload_n 0, 1) := by decide +kernel
theorem dX5_undo_1 : decode cX5_undo 1 = .ok (.iconst 0, 1) := by decide +kernel
theorem dX5_undo_2 : decode cX5_undo 2 = .ok (.putfield 28, 3) := by decide +kernel
theorem dX5_undo_5 : decode cX5_undo 5 = .ok (.aload_n 0, 1) := by decide +kernel
theorem dX5_undo_6 : decode cX5_undo 6 = .ok (.getfield 36, 3) := by decide +kernel
theorem dX5_undo_9 : decode cX5_undo 9 = .ok (.ifCond .ne 9, 3) := by decide +kernel
theorem dX5_undo_12 : decode cX5_undo 12 = .ok (.aload_n 0, 1) := by decide +kernel
theorem dX5_undo_13 : decode cX5_undo 13 = .ok (.iconst 1, 1) := by decide +kernel
theorem dX5_undo_14 : decode cX5_undo 14 = .ok (.invokevirtual 39, 3) := by decide +kernel
theorem dX5_undo_17 : decode cX5_undo 17 = .ok (.ireturn, 1) := by decide +kernel
theorem dX5_undo_18 : decode cX5_undo 18 = .ok (.aload_n 0, 1) := by decide +kernel
theorem dX5_undo_19 : decode cX5_undo 19 = .ok (.dup, 1) := by decide +kernel
theorem dX5_undo_20 : decode cX5_undo 20 = .ok (.getfield 36, 3) := by decide +kernel
theorem dX5_undo_23 : decode cX5_undo 23 = .ok (.iconst 1, 1) := by decide +kernel
theorem dX5_undo_24 : decode cX5_undo 24 = .ok (.isub, 1) := by decide +kernel
theorem dX5_undo_25 : decode cX5_undo 25 = .ok (.putfield 36, 3) := by decide +kernel
theorem dX5_undo_28 : decode cX5_undo 28 = .ok (.iconst 0, 1) := by decide +kernel
theorem dX5_undo_29 : decode cX5_undo 29 = .ok (.istore_n 1, 1) := by decide +kernel
theorem dX5_undo_30 : decode cX5_undo 30 = .ok (.iload_n 1, 1) := by decide +kernel
theorem dX5_undo_31 : decode cX5_undo 31 = .ok (.sipush 376, 3) := by decide +kernel
theorem dX5_undo_34 : decode cX5_undo 34 = .ok (.if_icmp .ge 30, 3) := by decide +kernel
theorem dX5_undo_37 : decode cX5_undo 37 = .ok (.aload_n 0, 1) := by decide +kernel
theorem dX5_undo_38 : decode cX5_undo 38 = .ok (.getfield 7, 3) := by decide +kernel
theorem dX5_undo_41 : decode cX5_undo 41 = .ok (.iload_n 1, 1) := by decide +kernel
theorem dX5_undo_42 : decode cX5_undo 42 = .ok (.aload_n 0, 1) := by decide +kernel
theorem dX5_undo_43 : decode cX5_undo 43 = .ok (.getfield 16, 3) := by decide +kernel
theorem dX5_undo_46 : decode cX5_undo 46 = .ok (.sipush 376, 3) := by decide +kernel
theorem dX5_undo_49 : decode cX5_undo 49 = .ok (.aload_n 0, 1) := by decide +kernel
theorem dX5_undo_50 : decode cX5_undo 50 = .ok (.getfield 36, 3) := by decide +kernel
theorem dX5_undo_53 : decode cX5_undo 53 = .ok (.imul, 1) := by decide +kernel
theorem dX5_undo_54 : decode cX5_undo 54 = .ok (.iload_n 1, 1) := by decide +kernel
theorem dX5_undo_55 : decode cX5_undo 55 = .ok (.iadd, 1) := by decide +kernel
theorem dX5_undo_56 : decode cX5_undo 56 = .ok (.iaload, 1) := by decide +kernel
theorem dX5_undo_57 : decode cX5_undo 57 = .ok (.iastore, 1) := by decide +kernel
theorem dX5_undo_58 : decode cX5_undo 58 = .ok (.iinc 1 1, 3) := by decide +kernel
theorem dX5_undo_61 : decode cX5_undo 61 = .ok (.goto (-31), 3) := by decide +kernel
theorem dX5_undo_64 : decode cX5_undo 64 = .ok (.aload_n 0, 1) := by decide +kernel
theorem dX5_undo_65 : decode cX5_undo 65 = .ok (.getfield 36, 3) := by decide +kernel
theorem dX5_undo_68 : decode cX5_undo 68 = .ok (.ireturn, 1) := by decide +kernel
theorem dX5_tries_0 : decode cX5_tries 0 = .ok (.iconst 0, 1) := by decide +kernel
theorem dX5_tries_1 : decode cX5_tries 1 = .ok (.istore_n 1, 1) := by decide +kernel
theorem dX5_tries_2 : decode cX5_tries 2 = .ok (.iload_n 1, 1) := by decide +kernel
theorem dX5_tries_3 : decode cX5_tries 3 = .ok (.sipush 376, 3) := by decide +kernel
theorem dX5_tries_6 : decode cX5_tries 6 = .ok (.if_icmp .ge 21, 3) := by decide +kernel
theorem dX5_tries_9 : decode cX5_tries 9 = .ok (.aload_n 0, 1) := by decide +kernel
theorem dX5_tries_10 : decode cX5_tries 10 = .ok (.getfield 13, 3) := by decide +kernel
theorem dX5_tries_13 : decode cX5_tries 13 = .ok (.iload_n 1, 1) := by decide +kernel
theorem dX5_tries_14 : decode cX5_tries 14 = .ok (.aload_n 0, 1) := by decide +kernel
theorem dX5_tries_15 : decode cX5_tries 15 = .ok (.getfield 7, 3) := by decide +kernel
theorem dX5_tries_18 : decode cX5_tries 18 = .ok (.iload_n 1, 1) := by decide +kernel
theorem dX5_tries_19 : decode cX5_tries 19 = .ok (.iaload, 1) := by decide +kernel
theorem dX5_tries_20 : decode cX5_tries 20 = .ok (.iastore, 1) := by decide +kernel
theorem dX5_tries_21 : decode cX5_tries 21 = .ok (.iinc 1 1, 3) := by decide +kernel
theorem dX5_tries_24 : decode cX5_tries 24 = .ok (.goto (-22), 3) := by decide +kernel
theorem dX5_tries_27 : decode cX5_tries 27 = .ok (.return_, 1) := by decide +kernel
theorem dX5_cells_0 : decode cX5_cells 0 = .ok (.aload_n 0, 1) := by decide +kernel
theorem dX5_cells_1 : decode cX5_cells 1 = .ok (.iconst 0, 1) := by decide +kernel
theorem dX5_cells_2 : decode cX5_cells 2 = .ok (.iaload, 1) := by decide +kernel
theorem dX5_cells_3 : decode cX5_cells 3 = .ok (.iconst 4, 1) := by decide +kernel
theorem dX5_cells_4 : decode cX5_cells 4 = .ok (.iload_n 1, 1) := by decide +kernel
theorem dX5_cells_5 : decode cX5_cells 5 = .ok (.imul, 1) := by decide +kernel
theorem dX5_cells_6 : decode cX5_cells 6 = .ok (.isub, 1) := by decide +kernel
theorem dX5_cells_7 : decode cX5_cells 7 = .ok (.ireturn, 1) := by decide +kernel
theorem dX5_pebbles_0 : decode cX5_pebbles 0 = .ok (.aload_n 0, 1) := by decide +kernel
theorem dX5_pebbles_1 : decode cX5_pebbles 1 = .ok (.bipush 10, 2) := by decide +kernel
theorem dX5_pebbles_3 : decode cX5_pebbles 3 = .ok (.bipush 61, 2) := by decide +kernel
theorem dX5_pebbles_5 : decode cX5_pebbles 5 = .ok (.iload_n 1, 1) := by decide +kernel
theorem dX5_pebbles_6 : decode cX5_pebbles 6 = .ok (.imul, 1) := by decide +kernel
theorem dX5_pebbles_7 : decode cX5_pebbles 7 = .ok (.iadd, 1) := by decide +kernel
theorem dX5_pebbles_8 : decode cX5_pebbles 8 = .ok (.iaload, 1) := by decide +kernel
theorem dX5_pebbles_9 : decode cX5_pebbles 9 = .ok (.ireturn, 1) := by decide +kernel
theorem dX5_sizeOf_0 : decode cX5_sizeOf 0 = .ok (.aload_n 0, 1) := by decide +kernel
theorem dX5_sizeOf_1 : decode cX5_sizeOf 1 = .ok (.bipush 10, 2) := by decide +kernel
theorem dX5_sizeOf_3 : decode cX5_sizeOf 3 = .ok (.bipush 61, 2) := by decide +kernel
theorem dX5_sizeOf_5 : decode cX5_sizeOf 5 = .ok (.iload_n 1, 1) := by decide +kernel
theorem dX5_sizeOf_6 : decode cX5_sizeOf 6 = .ok (.imul, 1) := by decide +kernel
theorem dX5_sizeOf_7 : decode cX5_sizeOf 7 = .ok (.iadd, 1) := by decide +kernel
theorem dX5_sizeOf_8 : decode cX5_sizeOf 8 = .ok (.iconst 1, 1) := by decide +kernel
theorem dX5_sizeOf_9 : decode cX5_sizeOf 9 = .ok (.iadd, 1) := by decide +kernel
theorem dX5_sizeOf_10 : decode cX5_sizeOf 10 = .ok (.iload_n 2, 1) := by decide +kernel
theorem dX5_sizeOf_11 : decode cX5_sizeOf 11 = .ok (.iadd, 1) := by decide +kernel
theorem dX5_sizeOf_12 : decode cX5_sizeOf 12 = .ok (.iaload, 1) := by decide +kernel
theorem dX5_sizeOf_13 : decode cX5_sizeOf 13 = .ok (.bipush 10, 2) := by decide +kernel
theorem dX5_sizeOf_15 : decode cX5_sizeOf 15 = .ok (.irem, 1) := by decide +kernel
theorem dX5_sizeOf_16 : decode cX5_sizeOf 16 = .ok (.ireturn, 1) := by decide +kernel
set_option maxRecDepth 20000 in
theorem ggX5_taken_X5_pebbles : GoodIn wsX5_taken wsX5_pebbles := goodIn_r _ [4] (by decide +kernel) (by decide +kernel)
set_option maxRecDepth 20000 in
theorem gX5_taken_X5_pebbles : GoodIn wsX5_taken (va_wsS RX5 43 yX5_pebbles wsX5_pebbles) := goodIn_app (goodIn_of _ (by decide +kernel)) ggX5_taken_X5_pebbles
set_option maxRecDepth 20000 in
theorem ggX5_taken_X5_sizeOf : GoodIn wsX5_taken wsX5_sizeOf := goodIn_r _ [7] (by decide +kernel) (by decide +kernel)
set_option maxRecDepth 20000 in
theorem gX5_taken_X5_sizeOf : GoodIn wsX5_taken (va_wsS RX5 47 yX5_sizeOf wsX5_sizeOf) := goodIn_app (goodIn_of _ (by decide +kernel)) ggX5_taken_X5_sizeOf
theorem dX5_taken_0 : decode cX5_taken 0 = .ok (.iconst 0, 1) := by decide +kernel
theorem dX5_taken_1 : decode cX5_taken 1 = .ok (.istore_n 2, 1) := by decide +kernel
theorem dX5_taken_2 : decode cX5_taken 2 = .ok (.iconst 0, 1) := by decide +kernel
theorem dX5_taken_3 : decode cX5_taken 3 = .ok (.istore_n 3, 1) := by decide +kernel
theorem dX5_taken_4 : decode cX5_taken 4 = .ok (.iload_n 3, 1) := by decide +kernel
theorem dX5_taken_5 : decode cX5_taken 5 = .ok (.aload_n 0, 1) := by decide +kernel
theorem dX5_taken_6 : decode cX5_taken 6 = .ok (.iload_n 1, 1) := by decide +kernel
theorem dX5_taken_7 : decode cX5_taken 7 = .ok (.invokestatic 43, 3) := by decide +kernel
theorem dX5_taken_10 : decode cX5_taken 10 = .ok (.if_icmp .ge 18, 3) := by decide +kernel
theorem dX5_taken_13 : decode cX5_taken 13 = .ok (.iload_n 2, 1) := by decide +kernel
theorem dX5_taken_14 : decode cX5_taken 14 = .ok (.aload_n 0, 1) := by decide +kernel
theorem dX5_taken_15 : decode cX5_taken 15 = .ok (.iload_n 1, 1) := by decide +kernel
theorem dX5_taken_16 : decode cX5_taken 16 = .ok (.iload_n 3, 1) := by decide +kernel
theorem dX5_taken_17 : decode cX5_taken 17 = .ok (.invokestatic 47, 3) := by decide +kernel
theorem dX5_taken_20 : decode cX5_taken 20 = .ok (.iadd, 1) := by decide +kernel
theorem dX5_taken_21 : decode cX5_taken 21 = .ok (.istore_n 2, 1) := by decide +kernel
theorem dX5_taken_22 : decode cX5_taken 22 = .ok (.iinc 3 1, 3) := by decide +kernel
theorem dX5_taken_25 : decode cX5_taken 25 = .ok (.goto (-21), 3) := by decide +kernel
theorem dX5_taken_28 : decode cX5_taken 28 = .ok (.iload_n 2, 1) := by decide +kernel
theorem dX5_taken_29 : decode cX5_taken 29 = .ok (.ireturn, 1) := by decide +kernel
set_option maxRecDepth 20000 in
theorem ggX5_isClosed_X5_taken : GoodIn wsX5_isClosed wsX5_taken := goodIn_r _ [4, 5, 6, 3, 7, 8, 9, 10] (by decide +kernel) (by decide +kernel)
set_option maxRecDepth 20000 in
theorem gX5_isClosed_X5_taken : GoodIn wsX5_isClosed (va_wsS RX5 51 yX5_taken wsX5_taken) := goodIn_app (goodIn_of _ (by decide +kernel)) ggX5_isClosed_X5_taken
set_option maxRecDepth 20000 in
theorem ggX5_isClosed_X5_cells : GoodIn wsX5_isClosed wsX5_cells := goodIn_r _ [13] (by decide +kernel) (by decide +kernel)
set_option maxRecDepth 20000 in
theorem gX5_isClosed_X5_cells : GoodIn wsX5_isClosed (va_wsS RX5 54 yX5_cells wsX5_cells) := goodIn_app (goodIn_of _ (by decide +kernel)) ggX5_isClosed_X5_cells
theorem dX5_isClosed_0 : decode cX5_isClosed 0 = .ok (.aload_n 0, 1) := by decide +kernel
theorem dX5_isClosed_1 : decode cX5_isClosed 1 = .ok (.iload_n 1, 1) := by decide +kernel
theorem dX5_isClosed_2 : decode cX5_isClosed 2 = .ok (.invokestatic 51, 3) := by decide +kernel
theorem dX5_isClosed_5 : decode cX5_isClosed 5 = .ok (.aload_n 0, 1) := by decide +kernel
theorem dX5_isClosed_6 : decode cX5_isClosed 6 = .ok (.iload_n 1, 1) := by decide +kernel
theorem dX5_isClosed_7 : decode cX5_isClosed 7 = .ok (.invokestatic 54, 3) := by decide +kernel
theorem dX5_isClosed_10 : decode cX5_isClosed 10 = .ok (.if_icmp .ne 7, 3) := by decide +kernel
theorem dX5_isClosed_13 : decode cX5_isClosed 13 = .ok (.iconst 1, 1) := by decide +kernel
theorem dX5_isClosed_14 : decode cX5_isClosed 14 = .ok (.goto 4, 3) := by decide +kernel
theorem dX5_isClosed_17 : decode cX5_isClosed 17 = .ok (.iconst 0, 1) := by decide +kernel
theorem dX5_isClosed_18 : decode cX5_isClosed 18 = .ok (.ireturn, 1) := by decide +kernel
set_option maxRecDepth 20000 in
theorem ggX5_isJoint_X5_pebbles : GoodIn wsX5_isJoint wsX5_pebbles := goodIn_r _ [4] (by decide +kernel) (by decide +kernel)
set_option maxRecDepth 20000 in
theorem gX5_isJoint_X5_pebbles : GoodIn wsX5_isJoint (va_wsS RX5 43 yX5_pebbles wsX5_pebbles) := goodIn_app (goodIn_of _ (by decide +kernel)) ggX5_isJoint_X5_pebbles
set_option maxRecDepth 20000 in
theorem ggX5_isJoint_X5_sizeOf : GoodIn wsX5_isJoint wsX5_sizeOf := goodIn_r _ [7] (by decide +kernel) (by decide +kernel)
set_option maxRecDepth 20000 in
theorem gX5_isJoint_X5_sizeOf : GoodIn wsX5_isJoint (va_wsS RX5 47 yX5_sizeOf wsX5_sizeOf) := goodIn_app (goodIn_of _ (by decide +kernel)) ggX5_isJoint_X5_sizeOf
set_option maxRecDepth 20000 in
theorem ggX5_isJoint_X5_cells : GoodIn wsX5_isJoint wsX5_cells := goodIn_r _ [10] (by decide +kernel) (by decide +kernel)
set_option maxRecDepth 20000 in
theorem gX5_isJoint_X5_cells : GoodIn wsX5_isJoint (va_wsS RX5 54 yX5_cells wsX5_cells) := goodIn_app (goodIn_of _ (by decide +kernel)) ggX5_isJoint_X5_cells
theorem dX5_isJoint_0 : decode cX5_isJoint 0 = .ok (.iconst 0, 1) := by decide +kernel
theorem dX5_isJoint_1 : decode cX5_isJoint 1 = .ok (.istore_n 3, 1) := by decide +kernel
theorem dX5_isJoint_2 : decode cX5_isJoint 2 = .ok (.iconst 0, 1) := by decide +kernel
theorem dX5_isJoint_3 : decode cX5_isJoint 3 = .ok (.istore 4, 2) := by decide +kernel
theorem dX5_isJoint_5 : decode cX5_isJoint 5 = .ok (.iload 4, 2) := by decide +kernel
theorem dX5_isJoint_7 : decode cX5_isJoint 7 = .ok (.aload_n 0, 1) := by decide +kernel
theorem dX5_isJoint_8 : decode cX5_isJoint 8 = .ok (.iload_n 1, 1) := by decide +kernel
theorem dX5_isJoint_9 : decode cX5_isJoint 9 = .ok (.invokestatic 43, 3) := by decide +kernel
theorem dX5_isJoint_12 : decode cX5_isJoint 12 = .ok (.if_icmp .ge 26, 3) := by decide +kernel
theorem dX5_isJoint_15 : decode cX5_isJoint 15 = .ok (.iload_n 3, 1) := by decide +kernel
theorem dX5_isJoint_16 : decode cX5_isJoint 16 = .ok (.iload_n 2, 1) := by decide +kernel
theorem dX5_isJoint_17 : decode cX5_isJoint 17 = .ok (.if_icmp .ne 5, 3) := by decide +kernel
theorem dX5_isJoint_20 : decode cX5_isJoint 20 = .ok (.iconst 1, 1) := by decide +kernel
theorem dX5_isJoint_21 : decode cX5_isJoint 21 = .ok (.ireturn, 1) := by decide +kernel
theorem dX5_isJoint_22 : decode cX5_isJoint 22 = .ok (.iload_n 3, 1) := by decide +kernel
theorem dX5_isJoint_23 : decode cX5_isJoint 23 = .ok (.aload_n 0, 1) := by decide +kernel
theorem dX5_isJoint_24 : decode cX5_isJoint 24 = .ok (.iload_n 1, 1) := by decide +kernel
theorem dX5_isJoint_25 : decode cX5_isJoint 25 = .ok (.iload 4, 2) := by decide +kernel
theorem dX5_isJoint_27 : decode cX5_isJoint 27 = .ok (.invokestatic 47, 3) := by decide +kernel
theorem dX5_isJoint_30 : decode cX5_isJoint 30 = .ok (.iadd, 1) := by decide +kernel
theorem dX5_isJoint_31 : decode cX5_isJoint 31 = .ok (.istore_n 3, 1) := by decide +kernel
theorem dX5_isJoint_32 : decode cX5_isJoint 32 = .ok (.iinc 4 1, 3) := by decide +kernel
theorem dX5_isJoint_35 : decode cX5_isJoint 35 = .ok (.goto (-30), 3) := by decide +kernel
theorem dX5_isJoint_38 : decode cX5_isJoint 38 = .ok (.iload_n 3, 1) := by decide +kernel
theorem dX5_isJoint_39 : decode cX5_isJoint 39 = .ok (.ifCond .le 21, 3) := by decide +kernel
theorem dX5_isJoint_42 : decode cX5_isJoint 42 = .ok (.iload_n 3, 1) := by decide +kernel
theorem dX5_isJoint_43 : decode cX5_isJoint 43 = .ok (.iload_n 2, 1) := by decide +kernel
theorem dX5_isJoint_44 : decode cX5_isJoint 44 = .ok (.if_icmp .ne 16, 3) := by decide +kernel
theorem dX5_isJoint_47 : decode cX5_isJoint 47 = .ok (.iload_n 3, 1) := by decide +kernel
theorem dX5_isJoint_48 : decode cX5_isJoint 48 = .ok (.aload_n 0, 1) := by decide +kernel
theorem dX5_isJoint_49 : decode cX5_isJoint 49 = .ok (.iload_n 1, 1) := by decide +kernel
theorem dX5_isJoint_50 : decode cX5_isJoint 50 = .ok (.invokestatic 54, 3) := by decide +kernel
theorem dX5_isJoint_53 : decode cX5_isJoint 53 = .ok (.if_icmp .ge 7, 3) := by decide +kernel
theorem dX5_isJoint_56 : decode cX5_isJoint 56 = .ok (.iconst 1, 1) := by decide +kernel
theorem dX5_isJoint_57 : decode cX5_isJoint 57 = .ok (.goto 4, 3) := by decide +kernel
theorem dX5_isJoint_60 : decode cX5_isJoint 60 = .ok (.iconst 0, 1) := by decide +kernel
theorem dX5_isJoint_61 : decode cX5_isJoint 61 = .ok (.ireturn, 1) := by decide +kernel
set_option maxRecDepth 20000 in
theorem ggX5_meets_X5_cells : GoodIn wsX5_meets wsX5_cells := goodIn_r _ [4] (by decide +kernel) (by decide +kernel)
set_option maxRecDepth 20000 in
theorem gX5_meets_X5_cells : GoodIn wsX5_meets (va_wsS RX5 54 yX5_cells wsX5_cells) := goodIn_app (goodIn_of _ (by decide +kernel)) ggX5_meets_X5_cells
theorem dX5_meets_0 : decode cX5_meets 0 = .ok (.iload_n 2, 1) := by decide +kernel
theorem dX5_meets_1 : decode cX5_meets 1 = .ok (.aload_n 0, 1) := by decide +kernel
theorem dX5_meets_2 : decode cX5_meets 2 = .ok (.iload_n 1, 1) := by decide +kernel
theorem dX5_meets_3 : decode cX5_meets 3 = .ok (.iconst 1, 1) := by decide +kernel
theorem dX5_meets_4 : decode cX5_meets 4 = .ok (.isub, 1) := by decide +kernel
theorem dX5_meets_5 : decode cX5_meets 5 = .ok (.invokestatic 54, 3) := by decide +kernel
theorem dX5_meets_8 : decode cX5_meets 8 = .ok (.imul, 1) := by decide +kernel
theorem dX5_meets_9 : decode cX5_meets 9 = .ok (.aload_n 0, 1) := by decide +kernel
theorem dX5_meets_10 : decode cX5_meets 10 = .ok (.iload_n 1, 1) := by decide +kernel
theorem dX5_meets_11 : decode cX5_meets 11 = .ok (.invokestatic 54, 3) := by decide +kernel
theorem dX5_meets_14 : decode cX5_meets 14 = .ok (.idiv, 1) := by decide +kernel
theorem dX5_meets_15 : decode cX5_meets 15 = .ok (.ireturn, 1) := by decide +kernel
set_option maxRecDepth 20000 in
theorem ggX5_runs_X5_meets : GoodIn wsX5_runs wsX5_meets := goodIn_r _ [4, 5, 6, 3, 7] (by decide +kernel) (by decide +kernel)
set_option maxRecDepth 20000 in
theorem gX5_runs_X5_meets : GoodIn wsX5_runs (va_wsS RX5 57 yX5_meets wsX5_meets) := goodIn_app (goodIn_of _ (by decide +kernel)) ggX5_runs_X5_meets
set_option maxRecDepth 20000 in
theorem ggX5_runs_X5_isJoint : GoodIn wsX5_runs wsX5_isJoint := goodIn_r _ [10, 11, 12, 3, 13, 14, 15, 16, 5, 6, 7] (by decide +kernel) (by decide +kernel)
set_option maxRecDepth 20000 in
theorem gX5_runs_X5_isJoint : GoodIn wsX5_runs (va_wsS RX5 60 yX5_isJoint wsX5_isJoint) := goodIn_app (goodIn_of _ (by decide +kernel)) ggX5_runs_X5_isJoint
theorem dX5_runs_0 : decode cX5_runs 0 = .ok (.iload_n 1, 1) := by decide +kernel
theorem dX5_runs_1 : decode cX5_runs 1 = .ok (.iconst 2, 1) := by decide +kernel
theorem dX5_runs_2 : decode cX5_runs 2 = .ok (.if_icmp .lt 7, 3) := by decide +kernel
theorem dX5_runs_5 : decode cX5_runs 5 = .ok (.iload_n 2, 1) := by decide +kernel
theorem dX5_runs_6 : decode cX5_runs 6 = .ok (.ifCond .ne 5, 3) := by decide +kernel
theorem dX5_runs_9 : decode cX5_runs 9 = .ok (.iconst 0, 1) := by decide +kernel
theorem dX5_runs_10 : decode cX5_runs 10 = .ok (.ireturn, 1) := by decide +kernel
theorem dX5_runs_11 : decode cX5_runs 11 = .ok (.aload_n 0, 1) := by decide +kernel
theorem dX5_runs_12 : decode cX5_runs 12 = .ok (.iload_n 1, 1) := by decide +kernel
theorem dX5_runs_13 : decode cX5_runs 13 = .ok (.iload_n 2, 1) := by decide +kernel
theorem dX5_runs_14 : decode cX5_runs 14 = .ok (.invokestatic 57, 3) := by decide +kernel
theorem dX5_runs_17 : decode cX5_runs 17 = .ok (.istore_n 3, 1) := by decide +kernel
theorem dX5_runs_18 : decode cX5_runs 18 = .ok (.aload_n 0, 1) := by decide +kernel
theorem dX5_runs_19 : decode cX5_runs 19 = .ok (.iload_n 1, 1) := by decide +kernel
theorem dX5_runs_20 : decode cX5_runs 20 = .ok (.iconst 1, 1) := by decide +kernel
theorem dX5_runs_21 : decode cX5_runs 21 = .ok (.isub, 1) := by decide +kernel
theorem dX5_runs_22 : decode cX5_runs 22 = .ok (.iload_n 3, 1) := by decide +kernel
theorem dX5_runs_23 : decode cX5_runs 23 = .ok (.invokestatic 60, 3) := by decide +kernel
theorem dX5_runs_26 : decode cX5_runs 26 = .ok (.ifCond .eq 25, 3) := by decide +kernel
theorem dX5_runs_29 : decode cX5_runs 29 = .ok (.aload_n 0, 1) := by decide +kernel
theorem dX5_runs_30 : decode cX5_runs 30 = .ok (.iload_n 1, 1) := by decide +kernel
theorem dX5_runs_31 : decode cX5_runs 31 = .ok (.iconst 2, 1) := by decide +kernel
theorem dX5_runs_32 : decode cX5_runs 32 = .ok (.isub, 1) := by decide +kernel
theorem dX5_runs_33 : decode cX5_runs 33 = .ok (.aload_n 0, 1) := by decide +kernel
theorem dX5_runs_34 : decode cX5_runs 34 = .ok (.iload_n 1, 1) := by decide +kernel
theorem dX5_runs_35 : decode cX5_runs 35 = .ok (.iconst 1, 1) := by decide +kernel
theorem dX5_runs_36 : decode cX5_runs 36 = .ok (.isub, 1) := by decide +kernel
theorem dX5_runs_37 : decode cX5_runs 37 = .ok (.iload_n 3, 1) := by decide +kernel
theorem dX5_runs_38 : decode cX5_runs 38 = .ok (.invokestatic 57, 3) := by decide +kernel
theorem dX5_runs_41 : decode cX5_runs 41 = .ok (.invokestatic 60, 3) := by decide +kernel
theorem dX5_runs_44 : decode cX5_runs 44 = .ok (.ifCond .eq 7, 3) := by decide +kernel
theorem dX5_runs_47 : decode cX5_runs 47 = .ok (.iconst 1, 1) := by decide +kernel
theorem dX5_runs_48 : decode cX5_runs 48 = .ok (.goto 4, 3) := by decide +kernel
theorem dX5_runs_51 : decode cX5_runs 51 = .ok (.iconst 0, 1) := by decide +kernel
theorem dX5_runs_52 : decode cX5_runs 52 = .ok (.ireturn, 1) := by decide +kernel
theorem dX5_greater_0 : decode cX5_greater 0 = .ok (.iload_n 1, 1) := by decide +kernel
theorem dX5_greater_1 : decode cX5_greater 1 = .ok (.iconst 1, 1) := by decide +kernel
theorem dX5_greater_2 : decode cX5_greater 2 = .ok (.iadd, 1) := by decide +kernel
theorem dX5_greater_3 : decode cX5_greater 3 = .ok (.istore_n 2, 1) := by decide +kernel
theorem dX5_greater_4 : decode cX5_greater 4 = .ok (.iload_n 2, 1) := by decide +kernel
theorem dX5_greater_5 : decode cX5_greater 5 = .ok (.bipush 6, 2) := by decide +kernel
theorem dX5_greater_7 : decode cX5_greater 7 = .ok (.if_icmp .gt 17, 3) := by decide +kernel
theorem dX5_greater_10 : decode cX5_greater 10 = .ok (.aload_n 0, 1) := by decide +kernel
theorem dX5_greater_11 : decode cX5_greater 11 = .ok (.iconst 3, 1) := by decide +kernel
theorem dX5_greater_12 : decode cX5_greater 12 = .ok (.iload_n 2, 1) := by decide +kernel
theorem dX5_greater_13 : decode cX5_greater 13 = .ok (.iadd, 1) := by decide +kernel
theorem dX5_greater_14 : decode cX5_greater 14 = .ok (.iaload, 1) := by decide +kernel
theorem dX5_greater_15 : decode cX5_greater 15 = .ok (.ifCond .ne 9, 3) := by decide +kernel
theorem dX5_greater_18 : decode cX5_greater 18 = .ok (.iinc 2 1, 3) := by decide +kernel
theorem dX5_greater_21 : decode cX5_greater 21 = .ok (.goto (-17), 3) := by decide +kernel
theorem dX5_greater_24 : decode cX5_greater 24 = .ok (.iload_n 2, 1) := by decide +kernel
theorem dX5_greater_25 : decode cX5_greater 25 = .ok (.bipush 6, 2) := by decide +kernel
theorem dX5_greater_27 : decode cX5_greater 27 = .ok (.if_icmp .le 7, 3) := by decide +kernel
theorem dX5_greater_30 : decode cX5_greater 30 = .ok (.iconst 0, 1) := by decide +kernel
theorem dX5_greater_31 : decode cX5_greater 31 = .ok (.goto 4, 3) := by decide +kernel
theorem dX5_greater_34 : decode cX5_greater 34 = .ok (.iload_n 2, 1) := by decide +kernel
theorem dX5_greater_35 : decode cX5_greater 35 = .ok (.ireturn, 1) := by decide +kernel
set_option maxRecDepth 20000 in
theorem ggX5_refused_X5_taken : GoodIn wsX5_refused wsX5_taken := goodIn_r _ [4, 5, 6, 3, 7, 8, 9, 10] (by decide +kernel) (by decide +kernel)
set_option maxRecDepth 20000 in
theorem gX5_refused_X5_taken : GoodIn wsX5_refused (va_wsS RX5 51 yX5_taken wsX5_taken) := goodIn_app (goodIn_of _ (by decide +kernel)) ggX5_refused_X5_taken
set_option maxRecDepth 20000 in
theorem ggX5_refused_X5_isClosed : GoodIn wsX5_refused wsX5_isClosed := goodIn_r _ [13, 1, 2, 3, 4, 5, 6, 7, 8, 9, 10, 14, 15, 16] (by decide +kernel) (by decide +kernel)
set_option maxRecDepth 20000 in
theorem gX5_refused_X5_isClosed : GoodIn wsX5_refused (va_wsS RX5 64 yX5_isClosed wsX5_isClosed) := goodIn_app (goodIn_of _ (by decide +kernel)) ggX5_refused_X5_isClosed
set_option maxRecDepth 20000 in
theorem ggX5_refused_X5_cells : GoodIn wsX5_refused wsX5_cells := goodIn_r _ [16] (by decide +kernel) (by decide +kernel)
set_option maxRecDepth 20000 in
theorem gX5_refused_X5_cells : GoodIn wsX5_refused (va_wsS RX5 54 yX5_cells wsX5_cells) := goodIn_app (goodIn_of _ (by decide +kernel)) ggX5_refused_X5_cells
set_option maxRecDepth 20000 in
theorem ggX5_refused_X5_greater : GoodIn wsX5_refused wsX5_greater := goodIn_r _ [19] (by decide +kernel) (by decide +kernel)
set_option maxRecDepth 20000 in
theorem gX5_refused_X5_greater : GoodIn wsX5_refused (va_wsS RX5 68 yX5_greater wsX5_greater) := goodIn_app (goodIn_of _ (by decide +kernel)) ggX5_refused_X5_greater
set_option maxRecDepth 20000 in
theorem ggX5_refused_X5_runs : GoodIn wsX5_refused wsX5_runs := goodIn_r _ [22, 23, 24, 3, 25, 14, 15, 16, 26, 27, 28, 5, 6, 7, 8, 9, 10] (by decide +kernel) (by decide +kernel)
set_option maxRecDepth 20000 in
theorem gX5_refused_X5_runs : GoodIn wsX5_refused (va_wsS RX5 71 yX5_runs wsX5_runs) := goodIn_app (goodIn_of _ (by decide +kernel)) ggX5_refused_X5_runs
theorem dX5_refused_0 : decode cX5_refused 0 = .ok (.aload_n 0, 1) := by decide +kernel
theorem dX5_refused_1 : decode cX5_refused 1 = .ok (.iload_n 1, 1) := by decide +kernel
theorem dX5_refused_2 : decode cX5_refused 2 = .ok (.invokestatic 51, 3) := by decide +kernel
theorem dX5_refused_5 : decode cX5_refused 5 = .ok (.iload_n 2, 1) := by decide +kernel
theorem dX5_refused_6 : decode cX5_refused 6 = .ok (.iadd, 1) := by decide +kernel
theorem dX5_refused_7 : decode cX5_refused 7 = .ok (.istore 4, 2) := by decide +kernel
theorem dX5_refused_9 : decode cX5_refused 9 = .ok (.aload_n 0, 1) := by decide +kernel
theorem dX5_refused_10 : decode cX5_refused 10 = .ok (.iload_n 1, 1) := by decide +kernel
theorem dX5_refused_11 : decode cX5_refused 11 = .ok (.invokestatic 64, 3) := by decide +kernel
theorem dX5_refused_14 : decode cX5_refused 14 = .ok (.ifCond .eq 5, 3) := by decide +kernel
theorem dX5_refused_17 : decode cX5_refused 17 = .ok (.iconst 1, 1) := by decide +kernel
theorem dX5_refused_18 : decode cX5_refused 18 = .ok (.ireturn, 1) := by decide +kernel
theorem dX5_refused_19 : decode cX5_refused 19 = .ok (.iload 4, 2) := by decide +kernel
theorem dX5_refused_21 : decode cX5_refused 21 = .ok (.aload_n 0, 1) := by decide +kernel
theorem dX5_refused_22 : decode cX5_refused 22 = .ok (.iload_n 1, 1) := by decide +kernel
theorem dX5_refused_23 : decode cX5_refused 23 = .ok (.invokestatic 54, 3) := by decide +kernel
theorem dX5_refused_26 : decode cX5_refused 26 = .ok (.if_icmp .le 5, 3) := by decide +kernel
theorem dX5_refused_29 : decode cX5_refused 29 = .ok (.iconst 2, 1) := by decide +kernel
theorem dX5_refused_30 : decode cX5_refused 30 = .ok (.ireturn, 1) := by decide +kernel
theorem dX5_refused_31 : decode cX5_refused 31 = .ok (.iload_n 3, 1) := by decide +kernel
theorem dX5_refused_32 : decode cX5_refused 32 = .ok (.ifCond .eq 14, 3) := by decide +kernel
theorem dX5_refused_35 : decode cX5_refused 35 = .ok (.aload_n 0, 1) := by decide +kernel
theorem dX5_refused_36 : decode cX5_refused 36 = .ok (.iload_n 2, 1) := by decide +kernel
theorem dX5_refused_37 : decode cX5_refused 37 = .ok (.invokestatic 68, 3) := by decide +kernel
theorem dX5_refused_40 : decode cX5_refused 40 = .ok (.ifCond .ne 16, 3) := by decide +kernel
theorem dX5_refused_43 : decode cX5_refused 43 = .ok (.goto 11, 3) := by decide +kernel
theorem dX5_refused_46 : decode cX5_refused 46 = .ok (.aload_n 0, 1) := by decide +kernel
theorem dX5_refused_47 : decode cX5_refused 47 = .ok (.iconst 3, 1) := by decide +kernel
theorem dX5_refused_48 : decode cX5_refused 48 = .ok (.iload_n 2, 1) := by decide +kernel
theorem dX5_refused_49 : decode cX5_refused 49 = .ok (.iadd, 1) := by decide +kernel
theorem dX5_refused_50 : decode cX5_refused 50 = .ok (.iaload, 1) := by decide +kernel
theorem dX5_refused_51 : decode cX5_refused 51 = .ok (.ifCond .ne 5, 3) := by decide +kernel
theorem dX5_refused_54 : decode cX5_refused 54 = .ok (.iconst 3, 1) := by decide +kernel
theorem dX5_refused_55 : decode cX5_refused 55 = .ok (.ireturn, 1) := by decide +kernel
theorem dX5_refused_56 : decode cX5_refused 56 = .ok (.iload 4, 2) := by decide +kernel
theorem dX5_refused_58 : decode cX5_refused 58 = .ok (.aload_n 0, 1) := by decide +kernel
theorem dX5_refused_59 : decode cX5_refused 59 = .ok (.iload_n 1, 1) := by decide +kernel
theorem dX5_refused_60 : decode cX5_refused 60 = .ok (.invokestatic 54, 3) := by decide +kernel
theorem dX5_refused_63 : decode cX5_refused 63 = .ok (.if_icmp .ge 17, 3) := by decide +kernel
theorem dX5_refused_66 : decode cX5_refused 66 = .ok (.aload_n 0, 1) := by decide +kernel
theorem dX5_refused_67 : decode cX5_refused 67 = .ok (.iload_n 1, 1) := by decide +kernel
theorem dX5_refused_68 : decode cX5_refused 68 = .ok (.iload 4, 2) := by decide +kernel
theorem dX5_refused_70 : decode cX5_refused 70 = .ok (.invokestatic 71, 3) := by decide +kernel
theorem dX5_refused_73 : decode cX5_refused 73 = .ok (.ifCond .eq 7, 3) := by decide +kernel
theorem dX5_refused_76 : decode cX5_refused 76 = .ok (.iconst 4, 1) := by decide +kernel
theorem dX5_refused_77 : decode cX5_refused 77 = .ok (.goto 4, 3) := by decide +kernel
theorem dX5_refused_80 : decode cX5_refused 80 = .ok (.iconst 0, 1) := by decide +kernel
theorem dX5_refused_81 : decode cX5_refused 81 = .ok (.ireturn, 1) := by decide +kernel
set_option maxRecDepth 20000 in
theorem ggX5_lays_X5_greater : GoodIn wsX5_lays wsX5_greater := goodIn_r _ [4] (by decide +kernel) (by decide +kernel)
set_option maxRecDepth 20000 in
theorem gX5_lays_X5_greater : GoodIn wsX5_lays (va_wsS RX5 68 yX5_greater wsX5_greater) := goodIn_app (goodIn_of _ (by decide +kernel)) ggX5_lays_X5_greater
set_option maxRecDepth 20000 in
theorem ggX5_lays_X5_pebbles : GoodIn wsX5_lays wsX5_pebbles := goodIn_r _ [7] (by decide +kernel) (by decide +kernel)
set_option maxRecDepth 20000 in
theorem gX5_lays_X5_pebbles : GoodIn wsX5_lays (va_wsS RX5 43 yX5_pebbles wsX5_pebbles) := goodIn_app (goodIn_of _ (by decide +kernel)) ggX5_lays_X5_pebbles
theorem dX5_lays_0 : decode cX5_lays 0 = .ok (.iload_n 3, 1) := by decide +kernel
theorem dX5_lays_1 : decode cX5_lays 1 = .ok (.ifCond .eq 11, 3) := by decide +kernel
theorem dX5_lays_4 : decode cX5_lays 4 = .ok (.aload_n 0, 1) := by decide +kernel
theorem dX5_lays_5 : decode cX5_lays 5 = .ok (.iload_n 2, 1) := by decide +kernel
theorem dX5_lays_6 : decode cX5_lays 6 = .ok (.invokestatic 68, 3) := by decide +kernel
theorem dX5_lays_9 : decode cX5_lays 9 = .ok (.goto 4, 3) := by decide +kernel
theorem dX5_lays_12 : decode cX5_lays 12 = .ok (.iload_n 2, 1) := by decide +kernel
theorem dX5_lays_13 : decode cX5_lays 13 = .ok (.istore 4, 2) := by decide +kernel
theorem dX5_lays_15 : decode cX5_lays 15 = .ok (.aload_n 0, 1) := by decide +kernel
theorem dX5_lays_16 : decode cX5_lays 16 = .ok (.iconst 3, 1) := by decide +kernel
theorem dX5_lays_17 : decode cX5_lays 17 = .ok (.iload 4, 2) := by decide +kernel
theorem dX5_lays_19 : decode cX5_lays 19 = .ok (.iadd, 1) := by decide +kernel
theorem dX5_lays_20 : decode cX5_lays 20 = .ok (.dup2, 1) := by decide +kernel
theorem dX5_lays_21 : decode cX5_lays 21 = .ok (.iaload, 1) := by decide +kernel
theorem dX5_lays_22 : decode cX5_lays 22 = .ok (.iconst 1, 1) := by decide +kernel
theorem dX5_lays_23 : decode cX5_lays 23 = .ok (.isub, 1) := by decide +kernel
theorem dX5_lays_24 : decode cX5_lays 24 = .ok (.iastore, 1) := by decide +kernel
theorem dX5_lays_25 : decode cX5_lays 25 = .ok (.aload_n 0, 1) := by decide +kernel
theorem dX5_lays_26 : decode cX5_lays 26 = .ok (.iconst 3, 1) := by decide +kernel
theorem dX5_lays_27 : decode cX5_lays 27 = .ok (.dup2, 1) := by decide +kernel
theorem dX5_lays_28 : decode cX5_lays 28 = .ok (.iaload, 1) := by decide +kernel
theorem dX5_lays_29 : decode cX5_lays 29 = .ok (.iload 4, 2) := by decide +kernel
theorem dX5_lays_31 : decode cX5_lays 31 = .ok (.iload_n 2, 1) := by decide +kernel
theorem dX5_lays_32 : decode cX5_lays 32 = .ok (.isub, 1) := by decide +kernel
theorem dX5_lays_33 : decode cX5_lays 33 = .ok (.iadd, 1) := by decide +kernel
theorem dX5_lays_34 : decode cX5_lays 34 = .ok (.iastore, 1) := by decide +kernel
theorem dX5_lays_35 : decode cX5_lays 35 = .ok (.aload_n 0, 1) := by decide +kernel
theorem dX5_lays_36 : decode cX5_lays 36 = .ok (.bipush 10, 2) := by decide +kernel
theorem dX5_lays_38 : decode cX5_lays 38 = .ok (.bipush 61, 2) := by decide +kernel
theorem dX5_lays_40 : decode cX5_lays 40 = .ok (.iload_n 1, 1) := by decide +kernel
theorem dX5_lays_41 : decode cX5_lays 41 = .ok (.imul, 1) := by decide +kernel
theorem dX5_lays_42 : decode cX5_lays 42 = .ok (.iadd, 1) := by decide +kernel
theorem dX5_lays_43 : decode cX5_lays 43 = .ok (.iconst 1, 1) := by decide +kernel
theorem dX5_lays_44 : decode cX5_lays 44 = .ok (.iadd, 1) := by decide +kernel
theorem dX5_lays_45 : decode cX5_lays 45 = .ok (.aload_n 0, 1) := by decide +kernel
theorem dX5_lays_46 : decode cX5_lays 46 = .ok (.iload_n 1, 1) := by decide +kernel
theorem dX5_lays_47 : decode cX5_lays 47 = .ok (.invokestatic 43, 3) := by decide +kernel
theorem dX5_lays_50 : decode cX5_lays 50 = .ok (.iadd, 1) := by decide +kernel
theorem dX5_lays_51 : decode cX5_lays 51 = .ok (.iload_n 2, 1) := by decide +kernel
theorem dX5_lays_52 : decode cX5_lays 52 = .ok (.iload_n 3, 1) := by decide +kernel
theorem dX5_lays_53 : decode cX5_lays 53 = .ok (.ifCond .eq 8, 3) := by decide +kernel
theorem dX5_lays_56 : decode cX5_lays 56 = .ok (.bipush 10, 2) := by decide +kernel
theorem dX5_lays_58 : decode cX5_lays 58 = .ok (.goto 4, 3) := by decide +kernel
theorem dX5_lays_61 : decode cX5_lays 61 = .ok (.iconst 0, 1) := by decide +kernel
theorem dX5_lays_62 : decode cX5_lays 62 = .ok (.iadd, 1) := by decide +kernel
theorem dX5_lays_63 : decode cX5_lays 63 = .ok (.iastore, 1) := by decide +kernel
theorem dX5_lays_64 : decode cX5_lays 64 = .ok (.aload_n 0, 1) := by decide +kernel
theorem dX5_lays_65 : decode cX5_lays 65 = .ok (.bipush 10, 2) := by decide +kernel
theorem dX5_lays_67 : decode cX5_lays 67 = .ok (.bipush 61, 2) := by decide +kernel
theorem dX5_lays_69 : decode cX5_lays 69 = .ok (.iload_n 1, 1) := by decide +kernel
theorem dX5_lays_70 : decode cX5_lays 70 = .ok (.imul, 1) := by decide +kernel
theorem dX5_lays_71 : decode cX5_lays 71 = .ok (.iadd, 1) := by decide +kernel
theorem dX5_lays_72 : decode cX5_lays 72 = .ok (.dup2, 1) := by decide +kernel
theorem dX5_lays_73 : decode cX5_lays 73 = .ok (.iaload, 1) := by decide +kernel
theorem dX5_lays_74 : decode cX5_lays 74 = .ok (.iconst 1, 1) := by decide +kernel
theorem dX5_lays_75 : decode cX5_lays 75 = .ok (.iadd, 1) := by decide +kernel
theorem dX5_lays_76 : decode cX5_lays 76 = .ok (.iastore, 1) := by decide +kernel
theorem dX5_lays_77 : decode cX5_lays 77 = .ok (.iload 4, 2) := by decide +kernel
theorem dX5_lays_79 : decode cX5_lays 79 = .ok (.iload_n 2, 1) := by decide +kernel
theorem dX5_lays_80 : decode cX5_lays 80 = .ok (.isub, 1) := by decide +kernel
theorem dX5_lays_81 : decode cX5_lays 81 = .ok (.ireturn, 1) := by decide +kernel
set_option maxRecDepth 20000 in
theorem ggX5_byRule_X5_refused : GoodIn wsX5_byRule wsX5_refused := goodIn_r _ [4, 5, 6, 3, 7, 8, 9, 10, 11, 12, 13, 14, 15, 16, 17, 18, 19, 20, 21, 22, 23, 24, 25, 26, 27, 28, 29, 30, 31] (by decide +kernel) (by decide +kernel)
set_option maxRecDepth 20000 in
theorem gX5_byRule_X5_refused : GoodIn wsX5_byRule (va_wsS RX5 74 yX5_refused wsX5_refused) := goodIn_app (goodIn_of _ (by decide +kernel)) ggX5_byRule_X5_refused
theorem dX5_byRule_0 : decode cX5_byRule 0 = .ok (.iconst 0, 1) := by decide +kernel
theorem dX5_byRule_1 : decode cX5_byRule 1 = .ok (.istore_n 2, 1) := by decide +kernel
theorem dX5_byRule_2 : decode cX5_byRule 2 = .ok (.iconst 1, 1) := by decide +kernel
theorem dX5_byRule_3 : decode cX5_byRule 3 = .ok (.istore_n 3, 1) := by decide +kernel
theorem dX5_byRule_4 : decode cX5_byRule 4 = .ok (.iload_n 3, 1) := by decide +kernel
theorem dX5_byRule_5 : decode cX5_byRule 5 = .ok (.bipush 6, 2) := by decide +kernel
theorem dX5_byRule_7 : decode cX5_byRule 7 = .ok (.if_icmp .gt 67, 3) := by decide +kernel
theorem dX5_byRule_10 : decode cX5_byRule 10 = .ok (.iload_n 2, 1) := by decide +kernel
theorem dX5_byRule_11 : decode cX5_byRule 11 = .ok (.ifCond .eq 29, 3) := by decide +kernel
theorem dX5_byRule_14 : decode cX5_byRule 14 = .ok (.aload_n 0, 1) := by decide +kernel
theorem dX5_byRule_15 : decode cX5_byRule 15 = .ok (.iconst 1, 1) := by decide +kernel
theorem dX5_byRule_16 : decode cX5_byRule 16 = .ok (.iaload, 1) := by decide +kernel
theorem dX5_byRule_17 : decode cX5_byRule 17 = .ok (.ifCond .eq 23, 3) := by decide +kernel
theorem dX5_byRule_20 : decode cX5_byRule 20 = .ok (.aload_n 0, 1) := by decide +kernel
theorem dX5_byRule_21 : decode cX5_byRule 21 = .ok (.iconst 1, 1) := by decide +kernel
theorem dX5_byRule_22 : decode cX5_byRule 22 = .ok (.iaload, 1) := by decide +kernel
theorem dX5_byRule_23 : decode cX5_byRule 23 = .ok (.iconst 2, 1) := by decide +kernel
theorem dX5_byRule_24 : decode cX5_byRule 24 = .ok (.if_icmp .ne 20, 3) := by decide +kernel
theorem dX5_byRule_27 : decode cX5_byRule 27 = .ok (.aload_n 0, 1) := by decide +kernel
theorem dX5_byRule_28 : decode cX5_byRule 28 = .ok (.iconst 3, 1) := by decide +kernel
theorem dX5_byRule_29 : decode cX5_byRule 29 = .ok (.iload_n 3, 1) := by decide +kernel
theorem dX5_byRule_30 : decode cX5_byRule 30 = .ok (.iadd, 1) := by decide +kernel
theorem dX5_byRule_31 : decode cX5_byRule 31 = .ok (.iaload, 1) := by decide +kernel
theorem dX5_byRule_32 : decode cX5_byRule 32 = .ok (.aload_n 0, 1) := by decide +kernel
