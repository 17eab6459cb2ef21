set_option maxRecDepth 20000 in
theorem ggX6_init_X3_init : GoodIn wsX6_init wsX3_init := goodIn_r _ [27, 28, 2, 3, 29, 30, 31, 32, 33, 34, 74, 75, 76, 77, 78, 79, 80, 81] (by decide +kernel) (by decide +kernel)
set_option maxRecDepth 20000 in
theorem ggX6_init_X0_init : GoodIn wsX6_init wsX0_init := goodIn_r _ [36, 37, 2, 3, 38, 39, 89, 90] (by decide +kernel) (by decide +kernel)
set_option maxRecDepth 20000 in
theorem ggX6_init_X4_init : GoodIn wsX6_init wsX4_init := goodIn_r _ [41, 42, 2, 3, 32, 43, 91, 92] (by decide +kernel) (by decide +kernel)
set_option maxRecDepth 20000 in
theorem ggX6_init_X1_init : GoodIn wsX6_init wsX1_init := goodIn_r _ [45, 46, 2, 3, 29, 47, 32, 48, 49, 93, 94, 95, 96] (by decide +kernel) (by decide +kernel)
set_option maxRecDepth 20000 in
theorem ggX6_init_X5_init : GoodIn wsX6_init wsX5_init := goodIn_r _ [51, 52, 2, 3, 29, 53, 54, 55, 56, 32, 57, 58, 59, 97, 98, 99, 100, 101, 102, 103, 104, 105, 106, 107, 108] (by decide +kernel) (by decide +kernel)
set_option maxRecDepth 20000 in
theorem ggX6_init_X3_restart : GoodIn wsX6_init wsX3_restart := goodIn_r _ [63, 64, 65, 30, 31, 66, 67, 68, 69, 70, 71, 72, 73, 74, 75, 76, 77, 78, 79, 80, 81] (by decide +kernel) (by decide +kernel)
set_option maxRecDepth 20000 in
theorem gX6_init_X3_restart : GoodIn wsX6_init (wsV RX6 51 RX3 yX3_restart wsX3_restart) := goodIn_app (goodIn_of _ (by decide +kernel)) ggX6_init_X3_restart
theorem dX6_init_0 : decode cX6_init 0 = .ok (.aload_n 0, 1) := by decide +kernel
theorem dX6_init_1 : decode cX6_init 1 = .ok (.invokespecial 1, 3) := by decide +kernel
theorem dX6_init_4 : decode cX6_init 4 = .ok (.aload_n 0, 1) := by decide +kernel
theorem dX6_init_5 : decode cX6_init 5 = .ok (.new 7, 3) := by decide +kernel
theorem dX6_init_8 : decode cX6_init 8 = .ok (.dup, 1) := by decide +kernel
theorem dX6_init_9 : decode cX6_init 9 = .ok (.invokespecial 9, 3) := by decide +kernel
theorem dX6_init_12 : decode cX6_init 12 = .ok (.putfield 10, 3) := by decide +kernel
theorem dX6_init_15 : decode cX6_init 15 = .ok (.aload_n 0, 1) := by decide +kernel
theorem dX6_init_16 : decode cX6_init 16 = .ok (.new 16, 3) := by decide +kernel
theorem dX6_init_19 : decode cX6_init 19 = .ok (.dup, 1) := by decide +kernel
theorem dX6_init_20 : decode cX6_init 20 = .ok (.invokespecial 18, 3) := by decide +kernel
theorem dX6_init_23 : decode cX6_init 23 = .ok (.putfield 19, 3) := by decide +kernel
theorem dX6_init_26 : decode cX6_init 26 = .ok (.aload_n 0, 1) := by decide +kernel
theorem dX6_init_27 : decode cX6_init 27 = .ok (.new 23, 3) := by decide +kernel
theorem dX6_init_30 : decode cX6_init 30 = .ok (.dup, 1) := by decide +kernel
theorem dX6_init_31 : decode cX6_init 31 = .ok (.invokespecial 25, 3) := by decide +kernel
theorem dX6_init_34 : decode cX6_init 34 = .ok (.putfield 26, 3) := by decide +kernel
theorem dX6_init_37 : decode cX6_init 37 = .ok (.aload_n 0, 1) := by decide +kernel
theorem dX6_init_38 : decode cX6_init 38 = .ok (.new 30, 3) := by decide +kernel
theorem dX6_init_41 : decode cX6_init 41 = .ok (.dup, 1) := by decide +kernel
theorem dX6_init_42 : decode cX6_init 42 = .ok (.invokespecial 32, 3) := by decide +kernel
theorem dX6_init_45 : decode cX6_init 45 = .ok (.putfield 33, 3) := by decide +kernel
theorem dX6_init_48 : decode cX6_init 48 = .ok (.aload_n 0, 1) := by decide +kernel
theorem dX6_init_49 : decode cX6_init 49 = .ok (.new 37, 3) := by decide +kernel
theorem dX6_init_52 : decode cX6_init 52 = .ok (.dup, 1) := by decide +kernel
theorem dX6_init_53 : decode cX6_init 53 = .ok (.invokespecial 39, 3) := by decide +kernel
theorem dX6_init_56 : decode cX6_init 56 = .ok (.putfield 40, 3) := by decide +kernel
theorem dX6_init_59 : decode cX6_init 59 = .ok (.aload_n 0, 1) := by decide +kernel
theorem dX6_init_60 : decode cX6_init 60 = .ok (.new 37, 3) := by decide +kernel
theorem dX6_init_63 : decode cX6_init 63 = .ok (.dup, 1) := by decide +kernel
theorem dX6_init_64 : decode cX6_init 64 = .ok (.invokespecial 39, 3) := by decide +kernel
theorem dX6_init_67 : decode cX6_init 67 = .ok (.putfield 44, 3) := by decide +kernel
theorem dX6_init_70 : decode cX6_init 70 = .ok (.aload_n 0, 1) := by decide +kernel
theorem dX6_init_71 : decode cX6_init 71 = .ok (.iconst 1, 1) := by decide +kernel
theorem dX6_init_72 : decode cX6_init 72 = .ok (.putfield 47, 3) := by decide +kernel
theorem dX6_init_75 : decode cX6_init 75 = .ok (.aload_n 0, 1) := by decide +kernel
theorem dX6_init_76 : decode cX6_init 76 = .ok (.getfield 10, 3) := by decide +kernel
theorem dX6_init_79 : decode cX6_init 79 = .ok (.iconst 4, 1) := by decide +kernel
theorem dX6_init_80 : decode cX6_init 80 = .ok (.invokevirtual 51, 3) := by decide +kernel
theorem dX6_init_83 : decode cX6_init 83 = .ok (.return_, 1) := by decide +kernel
set_option maxRecDepth 20000 in
theorem ggX6_begin_X6_checkRange : GoodIn wsX6_begin wsX6_checkRange := goodIn_ca (goodIn_r _ [5, 6, 7] (by decide +kernel) (by decide +kernel)) (goodIn_sub (fun _ h => List.mem_cons_of_mem _ (List.mem_append_right _ h)) (by decide +kernel))
set_option maxRecDepth 20000 in
theorem gX6_begin_X6_checkRange : GoodIn wsX6_begin (va_wsS RX6 55 yX6_checkRange wsX6_checkRange) := goodIn_app (goodIn_of _ (by decide +kernel)) ggX6_begin_X6_checkRange
set_option maxRecDepth 20000 in
theorem ggX6_begin_X6_saveBeforeChange : GoodIn wsX6_begin wsX6_saveBeforeChange := goodIn_r _ [11, 12, 1, 13, 14, 15, 16, 17, 18, 19, 20, 21, 22, 23, 24, 25, 26, 27, 28, 29, 30, 31, 32, 33, 34, 35, 36, 37, 38, 39, 40, 41, 42, 43, 44, 45, 46, 59, 60, 61, 62, 63, 64, 65, 74, 75, 66, 67, 68, 69, 70, 71, 72, 73] (by decide +kernel) (by decide +kernel)
set_option maxRecDepth 20000 in
theorem gX6_begin_X6_saveBeforeChange : GoodIn wsX6_begin (wsV RX6 63 RX6 yX6_saveBeforeChange wsX6_saveBeforeChange) := goodIn_app (goodIn_of _ (by decide +kernel)) ggX6_begin_X6_saveBeforeChange
set_option maxRecDepth 20000 in
theorem ggX6_begin_X3_restart : GoodIn wsX6_begin wsX3_restart := goodIn_r _ [50, 43, 44, 34, 35, 51, 52, 53, 54, 55, 56, 57, 58, 66, 67, 68, 69, 70, 71, 72, 73] (by decide +kernel) (by decide +kernel)
set_option maxRecDepth 20000 in
theorem gX6_begin_X3_restart : GoodIn wsX6_begin (wsV RX6 51 RX3 yX3_restart wsX3_restart) := goodIn_app (goodIn_of _ (by decide +kernel)) ggX6_begin_X3_restart
theorem dX6_begin_0 : decode cX6_begin 0 = .ok (.iload_n 1, 1) := by decide +kernel
theorem dX6_begin_1 : decode cX6_begin 1 = .ok (.iconst 1, 1) := by decide +kernel
theorem dX6_begin_2 : decode cX6_begin 2 = .ok (.bipush 6, 2) := by decide +kernel
theorem dX6_begin_4 : decode cX6_begin 4 = .ok (.invokestatic 55, 3) := by decide +kernel
theorem dX6_begin_7 : decode cX6_begin 7 = .ok (.aload_n 0, 1) := by decide +kernel
theorem dX6_begin_8 : decode cX6_begin 8 = .ok (.getfield 10, 3) := by decide +kernel
theorem dX6_begin_11 : decode cX6_begin 11 = .ok (.getfield 59, 3) := by decide +kernel
theorem dX6_begin_14 : decode cX6_begin 14 = .ok (.istore_n 2, 1) := by decide +kernel
theorem dX6_begin_15 : decode cX6_begin 15 = .ok (.aload_n 0, 1) := by decide +kernel
theorem dX6_begin_16 : decode cX6_begin 16 = .ok (.invokevirtual 63, 3) := by decide +kernel
theorem dX6_begin_19 : decode cX6_begin 19 = .ok (.aload_n 0, 1) := by decide +kernel
theorem dX6_begin_20 : decode cX6_begin 20 = .ok (.getfield 10, 3) := by decide +kernel
theorem dX6_begin_23 : decode cX6_begin 23 = .ok (.iload_n 1, 1) := by decide +kernel
theorem dX6_begin_24 : decode cX6_begin 24 = .ok (.invokevirtual 51, 3) := by decide +kernel
theorem dX6_begin_27 : decode cX6_begin 27 = .ok (.iload_n 2, 1) := by decide +kernel
theorem dX6_begin_28 : decode cX6_begin 28 = .ok (.ireturn, 1) := by decide +kernel
set_option maxRecDepth 20000 in
theorem ggX6_set_X6_checkOutput : GoodIn wsX6_set wsX6_checkOutput := goodIn_ca (goodIn_r _ [5, 6, 7, 8, 9, 4, 10] (by decide +kernel) (by decide +kernel)) (goodIn_sub (fun _ h => List.mem_cons_of_mem _ (List.mem_append_left _ (List.mem_append_right _ h))) (by decide +kernel))
set_option maxRecDepth 20000 in
theorem gX6_set_X6_checkOutput : GoodIn wsX6_set (va_wsS RX6 66 yX6_checkOutput wsX6_checkOutput) := goodIn_app (goodIn_of _ (by decide +kernel)) ggX6_set_X6_checkOutput
set_option maxRecDepth 20000 in
theorem ggX6_set_X6_checkRow : GoodIn wsX6_set wsX6_checkRow := goodIn_ca (goodIn_r _ [14, 6, 7, 1, 15, 16, 17, 18, 19, 20, 80, 81, 82, 83, 84, 85, 86, 87, 88, 89, 90, 91, 92, 93, 94] (by decide +kernel) (by decide +kernel)) (goodIn_sub (fun _ h => List.mem_cons_of_mem _ (List.mem_append_left _ (List.mem_append_right _ h))) (by decide +kernel))
set_option maxRecDepth 20000 in
theorem gX6_set_X6_checkRow : GoodIn wsX6_set (wsV RX6 69 RX6 yX6_checkRow wsX6_checkRow) := goodIn_app (goodIn_of _ (by decide +kernel)) ggX6_set_X6_checkRow
set_option maxRecDepth 20000 in
theorem ggX6_set_X6_checkRange : GoodIn wsX6_set wsX6_checkRange := goodIn_ca (goodIn_r _ [23, 24, 25] (by decide +kernel) (by decide +kernel)) (goodIn_sub (fun _ h => List.mem_cons_of_mem _ (List.mem_append_right _ h)) (by decide +kernel))
set_option maxRecDepth 20000 in
theorem gX6_set_X6_checkRange : GoodIn wsX6_set (va_wsS RX6 55 yX6_checkRange wsX6_checkRange) := goodIn_app (goodIn_of _ (by decide +kernel)) ggX6_set_X6_checkRange
set_option maxRecDepth 20000 in
theorem ggX6_set_X3_truthAt : GoodIn wsX6_set wsX3_truthAt := goodIn_r _ [29, 30, 31, 32, 18, 33, 34, 9, 4, 10, 35, 36, 37, 38, 39, 87, 88, 89, 90, 91, 92, 93, 94] (by decide +kernel) (by decide +kernel)
set_option maxRecDepth 20000 in
theorem gX6_set_X3_truthAt : GoodIn wsX6_set (wsV RX6 72 RX3 yX3_truthAt wsX3_truthAt) := goodIn_app (goodIn_of _ (by decide +kernel)) ggX6_set_X3_truthAt
set_option maxRecDepth 20000 in
theorem ggX6_set_X6_saveBeforeChange : GoodIn wsX6_set wsX6_saveBeforeChange := goodIn_r _ [43, 44, 1, 45, 46, 47, 48, 49, 50, 51, 52, 53, 54, 18, 55, 56, 57, 58, 59, 60, 61, 62, 63, 64, 39, 34, 65, 66, 67, 68, 69, 70, 71, 20, 72, 73, 74, 80, 81, 82, 83, 84, 85, 86, 95, 96, 87, 88, 89, 90, 91, 92, 93, 94] (by decide +kernel) (by decide +kernel)
set_option maxRecDepth 20000 in
theorem gX6_set_X6_saveBeforeChange : GoodIn wsX6_set (wsV RX6 63 RX6 yX6_saveBeforeChange wsX6_saveBeforeChange) := goodIn_app (goodIn_of _ (by decide +kernel)) ggX6_set_X6_saveBeforeChange
set_option maxRecDepth 20000 in
theorem ggX6_set_X3_give : GoodIn wsX6_set wsX3_give := goodIn_r _ [78, 39, 79, 34, 9, 4, 10, 87, 88, 89, 90, 91, 92, 93, 94] (by decide +kernel) (by decide +kernel)
set_option maxRecDepth 20000 in
theorem gX6_set_X3_give : GoodIn wsX6_set (wsV RX6 76 RX3 yX3_give wsX3_give) := goodIn_app (goodIn_of _ (by decide +kernel)) ggX6_set_X3_give
theorem dX6_set_0 : decode cX6_set 0 = .ok (.iload_n 1, 1) := by decide +kernel
theorem dX6_set_1 : decode cX6_set 1 = .ok (.invokestatic 66, 3) := by decide +kernel
theorem dX6_set_4 : decode cX6_set 4 = .ok (.aload_n 0, 1) := by decide +kernel
theorem dX6_set_5 : decode cX6_set 5 = .ok (.iload_n 2, 1) := by decide +kernel
theorem dX6_set_6 : decode cX6_set 6 = .ok (.invokevirtual 69, 3) := by decide +kernel
theorem dX6_set_9 : decode cX6_set 9 = .ok (.iload_n 3, 1) := by decide +kernel
theorem dX6_set_10 : decode cX6_set 10 = .ok (.iconst 0, 1) := by decide +kernel
theorem dX6_set_11 : decode cX6_set 11 = .ok (.iconst 2, 1) := by decide +kernel
theorem dX6_set_12 : decode cX6_set 12 = .ok (.invokestatic 55, 3) := by decide +kernel
theorem dX6_set_15 : decode cX6_set 15 = .ok (.aload_n 0, 1) := by decide +kernel
theorem dX6_set_16 : decode cX6_set 16 = .ok (.getfield 10, 3) := by decide +kernel
theorem dX6_set_19 : decode cX6_set 19 = .ok (.iload_n 1, 1) := by decide +kernel
theorem dX6_set_20 : decode cX6_set 20 = .ok (.iload_n 2, 1) := by decide +kernel
theorem dX6_set_21 : decode cX6_set 21 = .ok (.invokevirtual 72, 3) := by decide +kernel
theorem dX6_set_24 : decode cX6_set 24 = .ok (.istore 4, 2) := by decide +kernel
theorem dX6_set_26 : decode cX6_set 26 = .ok (.aload_n 0, 1) := by decide +kernel
theorem dX6_set_27 : decode cX6_set 27 = .ok (.invokevirtual 63, 3) := by decide +kernel
theorem dX6_set_30 : decode cX6_set 30 = .ok (.aload_n 0, 1) := by decide +kernel
theorem dX6_set_31 : decode cX6_set 31 = .ok (.getfield 10, 3) := by decide +kernel
theorem dX6_set_34 : decode cX6_set 34 = .ok (.iload_n 1, 1) := by decide +kernel
theorem dX6_set_35 : decode cX6_set 35 = .ok (.lconst 1, 1) := by decide +kernel
theorem dX6_set_36 : decode cX6_set 36 = .ok (.iload_n 2, 1) := by decide +kernel
theorem dX6_set_37 : decode cX6_set 37 = .ok (.lshl, 1) := by decide +kernel
theorem dX6_set_38 : decode cX6_set 38 = .ok (.iload_n 3, 1) := by decide +kernel
theorem dX6_set_39 : decode cX6_set 39 = .ok (.invokevirtual 76, 3) := by decide +kernel
theorem dX6_set_42 : decode cX6_set 42 = .ok (.iload 4, 2) := by decide +kernel
theorem dX6_set_44 : decode cX6_set 44 = .ok (.ireturn, 1) := by decide +kernel
set_option maxRecDepth 20000 in
theorem ggX6_invert_X6_checkOutput : GoodIn wsX6_invert wsX6_checkOutput := goodIn_ca (goodIn_r _ [5, 6, 7, 8, 9, 4, 10] (by decide +kernel) (by decide +kernel)) (goodIn_sub (fun _ h => List.mem_cons_of_mem _ (List.mem_append_right _ h)) (by decide +kernel))
set_option maxRecDepth 20000 in
theorem gX6_invert_X6_checkOutput : GoodIn wsX6_invert (va_wsS RX6 66 yX6_checkOutput wsX6_checkOutput) := goodIn_app (goodIn_of _ (by decide +kernel)) ggX6_invert_X6_checkOutput
set_option maxRecDepth 20000 in
theorem ggX6_invert_X6_saveBeforeChange : GoodIn wsX6_invert wsX6_saveBeforeChange := goodIn_r _ [14, 15, 1, 16, 17, 18, 19, 20, 21, 22, 23, 24, 25, 26, 27, 28, 29, 30, 31, 32, 33, 34, 35, 36, 37, 38, 39, 40, 41, 42, 43, 44, 45, 46, 47, 48, 49, 65, 66, 67, 68, 69, 70, 71, 72, 73, 74, 75, 76, 77, 78, 79, 80, 81] (by decide +kernel) (by decide +kernel)
set_option maxRecDepth 20000 in
theorem gX6_invert_X6_saveBeforeChange : GoodIn wsX6_invert (wsV RX6 63 RX6 yX6_saveBeforeChange wsX6_saveBeforeChange) := goodIn_app (goodIn_of _ (by decide +kernel)) ggX6_invert_X6_saveBeforeChange
set_option maxRecDepth 20000 in
theorem ggX6_invert_X3_turnAround : GoodIn wsX6_invert wsX3_turnAround := goodIn_r _ [53, 38, 37, 9, 4, 10, 74, 75, 76, 77, 78, 79, 80, 81] (by decide +kernel) (by decide +kernel)
set_option maxRecDepth 20000 in
theorem gX6_invert_X3_turnAround : GoodIn wsX6_invert (wsV RX6 80 RX3 yX3_turnAround wsX3_turnAround) := goodIn_app (goodIn_of _ (by decide +kernel)) ggX6_invert_X3_turnAround
set_option maxRecDepth 20000 in
theorem ggX6_invert_X3_onesOf : GoodIn wsX6_invert wsX3_onesOf := goodIn_r _ [57, 38, 9, 4, 10, 74, 75, 76, 77, 78, 79, 80, 81] (by decide +kernel) (by decide +kernel)
set_option maxRecDepth 20000 in
theorem gX6_invert_X3_onesOf : GoodIn wsX6_invert (wsV RX6 83 RX3 yX3_onesOf wsX3_onesOf) := goodIn_app (goodIn_of _ (by decide +kernel)) ggX6_invert_X3_onesOf
set_option maxRecDepth 20000 in
theorem ggX6_invert_J13_bitCount_95d88 : GoodIn wsX6_invert wsJ13_bitCount_95d88 := goodIn_r _ [61, 62, 63, 64] (by decide +kernel) (by decide +kernel)
set_option maxRecDepth 20000 in
theorem gX6_invert_J13_bitCount_95d88 : GoodIn wsX6_invert (va_wsS RX6 87 yJ13_bitCount_95d88 wsJ13_bitCount_95d88) := goodIn_app (goodIn_of _ (by decide +kernel)) ggX6_invert_J13_bitCount_95d88
theorem dX6_invert_0 : decode cX6_invert 0 = .ok (.iload_n 1, 1) := by decide +kernel
theorem dX6_invert_1 : decode cX6_invert 1 = .ok (.invokestatic 66, 3) := by decide +kernel
theorem dX6_invert_4 : decode cX6_invert 4 = .ok (.aload_n 0, 1) := by decide +kernel
theorem dX6_invert_5 : decode cX6_invert 5 = .ok (.invokevirtual 63, 3) := by decide +kernel
theorem dX6_invert_8 : decode cX6_invert 8 = .ok (.aload_n 0, 1) := by decide +kernel
theorem dX6_invert_9 : decode cX6_invert 9 = .ok (.getfield 10, 3) := by decide +kernel
theorem dX6_invert_12 : decode cX6_invert 12 = .ok (.iload_n 1, 1) := by decide +kernel
theorem dX6_invert_13 : decode cX6_invert 13 = .ok (.invokevirtual 80, 3) := by decide +kernel
theorem dX6_invert_16 : decode cX6_invert 16 = .ok (.aload_n 0, 1) := by decide +kernel
theorem dX6_invert_17 : decode cX6_invert 17 = .ok (.getfield 10, 3) := by decide +kernel
theorem dX6_invert_20 : decode cX6_invert 20 = .ok (.iload_n 1, 1) := by decide +kernel
theorem dX6_invert_21 : decode cX6_invert 21 = .ok (.invokevirtual 83, 3) := by decide +kernel
theorem dX6_invert_24 : decode cX6_invert 24 = .ok (.invokestatic 87, 3) := by decide +kernel
theorem dX6_invert_27 : decode cX6_invert 27 = .ok (.ireturn, 1) := by decide +kernel
set_option maxRecDepth 20000 in
theorem ggX6_join_X6_checkOutput : GoodIn wsX6_join wsX6_checkOutput := goodIn_ca (goodIn_r _ [7, 8, 9, 10, 11, 6, 12] (by decide +kernel) (by decide +kernel)) (goodIn_sub (fun _ h => List.mem_cons_of_mem _ (List.mem_append_right _ h)) (by decide +kernel))
set_option maxRecDepth 20000 in
theorem gX6_join_X6_checkOutput : GoodIn wsX6_join (va_wsS RX6 66 yX6_checkOutput wsX6_checkOutput) := goodIn_app (goodIn_of _ (by decide +kernel)) ggX6_join_X6_checkOutput
set_option maxRecDepth 20000 in
theorem ggX6_join_X6_saveBeforeChange : GoodIn wsX6_join wsX6_saveBeforeChange := goodIn_r _ [16, 17, 3, 18, 19, 20, 21, 22, 23, 24, 25, 26, 27, 28, 29, 30, 31, 32, 33, 34, 35, 36, 37, 38, 39, 40, 41, 42, 43, 44, 45, 46, 47, 48, 49, 50, 51, 72, 73, 74, 75, 76, 77, 78, 79, 80, 81, 82, 83, 84, 85, 86, 87, 88] (by decide +kernel) (by decide +kernel)
set_option maxRecDepth 20000 in
theorem gX6_join_X6_saveBeforeChange : GoodIn wsX6_join (wsV RX6 63 RX6 yX6_saveBeforeChange wsX6_saveBeforeChange) := goodIn_app (goodIn_of _ (by decide +kernel)) ggX6_join_X6_saveBeforeChange
set_option maxRecDepth 20000 in
theorem ggX6_join_X3_takeIn : GoodIn wsX6_join wsX3_takeIn := goodIn_r _ [55, 40, 39, 11, 6, 12, 56, 57, 58, 28, 59, 60, 61, 62, 63, 81, 82, 83, 84, 85, 86, 87, 88] (by decide +kernel) (by decide +kernel)
set_option maxRecDepth 20000 in
theorem gX6_join_X3_takeIn : GoodIn wsX6_join (wsV RX6 100 RX3 yX3_takeIn wsX3_takeIn) := goodIn_app (goodIn_of _ (by decide +kernel)) ggX6_join_X3_takeIn
set_option maxRecDepth 20000 in
theorem ggX6_join_X3_onesOf : GoodIn wsX6_join wsX3_onesOf := goodIn_r _ [59, 40, 11, 6, 12, 81, 82, 83, 84, 85, 86, 87, 88] (by decide +kernel) (by decide +kernel)
set_option maxRecDepth 20000 in
theorem gX6_join_X3_onesOf : GoodIn wsX6_join (wsV RX6 83 RX3 yX3_onesOf wsX3_onesOf) := goodIn_app (goodIn_of _ (by decide +kernel)) ggX6_join_X3_onesOf
set_option maxRecDepth 20000 in
theorem ggX6_join_J13_bitCount_95d88 : GoodIn wsX6_join wsJ13_bitCount_95d88 := goodIn_r _ [68, 69, 70, 71] (by decide +kernel) (by decide +kernel)
set_option maxRecDepth 20000 in
theorem gX6_join_J13_bitCount_95d88 : GoodIn wsX6_join (va_wsS RX6 87 yJ13_bitCount_95d88 wsJ13_bitCount_95d88) := goodIn_app (goodIn_of _ (by decide +kernel)) ggX6_join_J13_bitCount_95d88
theorem dX6_join_0 : decode cX6_join 0 = .ok (.iload_n 1, 1) := by decide +kernel
theorem dX6_join_1 : decode cX6_join 1 = .ok (.invokestatic 66, 3) := by decide +kernel
theorem dX6_join_4 : decode cX6_join 4 = .ok (.iload_n 2, 1) := by decide +kernel
theorem dX6_join_5 : decode cX6_join 5 = .ok (.invokestatic 66, 3) := by decide +kernel
theorem dX6_join_8 : decode cX6_join 8 = .ok (.iload_n 1, 1) := by decide +kernel
theorem dX6_join_9 : decode cX6_join 9 = .ok (.iload_n 2, 1) := by decide +kernel
theorem dX6_join_10 : decode cX6_join 10 = .ok (.if_icmp .ne 13, 3) := by decide +kernel
theorem dX6_join_13 : decode cX6_join 13 = .ok (.new 93, 3) := by decide +kernel
theorem dX6_join_16 : decode cX6_join 16 = .ok (.dup, 1) := by decide +kernel
theorem dX6_join_17 : decode cX6_join 17 = .ok (.ldc 95, 2) := by decide +kernel
theorem dX6_join_19 : decode cX6_join 19 = .ok (.invokespecial 97, 3) := by decide +kernel
theorem dX6_join_22 : decode cX6_join 22 = .ok (.athrow, 1) := by decide +kernel
theorem dX6_join_23 : decode cX6_join 23 = .ok (.aload_n 0, 1) := by decide +kernel
theorem dX6_join_24 : decode cX6_join 24 = .ok (.invokevirtual 63, 3) := by decide +kernel
theorem dX6_join_27 : decode cX6_join 27 = .ok (.aload_n 0, 1) := by decide +kernel
theorem dX6_join_28 : decode cX6_join 28 = .ok (.getfield 10, 3) := by decide +kernel
theorem dX6_join_31 : decode cX6_join 31 = .ok (.iload_n 1, 1) := by decide +kernel
theorem dX6_join_32 : decode cX6_join 32 = .ok (.iload_n 2, 1) := by decide +kernel
theorem dX6_join_33 : decode cX6_join 33 = .ok (.invokevirtual 100, 3) := by decide +kernel
theorem dX6_join_36 : decode cX6_join 36 = .ok (.aload_n 0, 1) := by decide +kernel
theorem dX6_join_37 : decode cX6_join 37 = .ok (.getfield 10, 3) := by decide +kernel
theorem dX6_join_40 : decode cX6_join 40 = .ok (.iload_n 1, 1) := by decide +kernel
theorem dX6_join_41 : decode cX6_join 41 = .ok (.invokevirtual 83, 3) := by decide +kernel
theorem dX6_join_44 : decode cX6_join 44 = .ok (.invokestatic 87, 3) := by decide +kernel
theorem dX6_join_47 : decode cX6_join 47 = .ok (.ireturn, 1) := by decide +kernel
set_option maxRecDepth 20000 in
theorem ggX6_forget_X6_checkInput : GoodIn wsX6_forget wsX6_checkInput := goodIn_ca (goodIn_r _ [8, 9, 10, 3, 78, 79, 80, 81, 82, 83, 84, 85, 86, 87, 88, 89, 90, 91, 92] (by decide +kernel) (by decide +kernel)) (goodIn_sub (fun _ h => List.mem_cons_of_mem _ (List.mem_append_right _ h)) (by decide +kernel))
set_option maxRecDepth 20000 in
theorem gX6_forget_X6_checkInput : GoodIn wsX6_forget (wsV RX6 104 RX6 yX6_checkInput wsX6_checkInput) := goodIn_app (goodIn_of _ (by decide +kernel)) ggX6_forget_X6_checkInput
set_option maxRecDepth 20000 in
theorem ggX6_forget_X3_remembers : GoodIn wsX6_forget wsX3_remembers := goodIn_r _ [15, 16, 85, 86, 87, 88, 89, 90, 91, 92] (by decide +kernel) (by decide +kernel)
set_option maxRecDepth 20000 in
theorem gX6_forget_X3_remembers : GoodIn wsX6_forget (wsV RX6 107 RX3 yX3_remembers wsX3_remembers) := goodIn_app (goodIn_of _ (by decide +kernel)) ggX6_forget_X3_remembers
set_option maxRecDepth 20000 in
theorem ggX6_forget_X6_saveBeforeChange : GoodIn wsX6_forget wsX6_saveBeforeChange := goodIn_r _ [20, 21, 3, 22, 23, 24, 25, 26, 27, 28, 29, 30, 31, 14, 32, 33, 34, 35, 36, 37, 38, 39, 40, 41, 42, 43, 44, 45, 46, 47, 48, 49, 50, 51, 16, 52, 53, 78, 79, 80, 81, 82, 83, 84, 93, 94, 85, 86, 87, 88, 89, 90, 91, 92] (by decide +kernel) (by decide +kernel)
set_option maxRecDepth 20000 in
theorem gX6_forget_X6_saveBeforeChange : GoodIn wsX6_forget (wsV RX6 63 RX6 yX6_saveBeforeChange wsX6_saveBeforeChange) := goodIn_app (goodIn_of _ (by decide +kernel)) ggX6_forget_X6_saveBeforeChange
set_option maxRecDepth 20000 in
theorem ggX6_forget_X3_forgotten : GoodIn wsX6_forget wsX3_forgotten := goodIn_r _ [57, 51, 16, 58, 59, 60, 61, 85, 86, 87, 88, 89, 90, 91, 92] (by decide +kernel) (by decide +kernel)
set_option maxRecDepth 20000 in
theorem gX6_forget_X3_forgotten : GoodIn wsX6_forget (wsV RX6 119 RX3 yX3_forgotten wsX3_forgotten) := goodIn_app (goodIn_of _ (by decide +kernel)) ggX6_forget_X3_forgotten
set_option maxRecDepth 20000 in
theorem ggX6_forget_X3_undecidedPairs : GoodIn wsX6_forget wsX3_undecidedPairs := goodIn_r _ [65, 43, 42, 66, 67, 60, 68, 69, 70, 71, 72, 73, 74, 75, 76, 77, 85, 86, 87, 88, 89, 90, 91, 92] (by decide +kernel) (by decide +kernel)
set_option maxRecDepth 20000 in
theorem gX6_forget_X3_undecidedPairs : GoodIn wsX6_forget (wsV RX6 123 RX3 yX3_undecidedPairs wsX3_undecidedPairs) := goodIn_app (goodIn_of _ (by decide +kernel)) ggX6_forget_X3_undecidedPairs
theorem dX6_forget_0 : decode cX6_forget 0 = .ok (.aload_n 0, 1) := by decide +kernel
theorem dX6_forget_1 : decode cX6_forget 1 = .ok (.iload_n 1, 1) := by decide +kernel
theorem dX6_forget_2 : decode cX6_forget 2 = .ok (.invokevirtual 104, 3) := by decide +kernel
theorem dX6_forget_5 : decode cX6_forget 5 = .ok (.aload_n 0, 1) := by decide +kernel
theorem dX6_forget_6 : decode cX6_forget 6 = .ok (.getfield 10, 3) := by decide +kernel
theorem dX6_forget_9 : decode cX6_forget 9 = .ok (.iload_n 1, 1) := by decide +kernel
theorem dX6_forget_10 : decode cX6_forget 10 = .ok (.invokevirtual 107, 3) := by decide +kernel
theorem dX6_forget_13 : decode cX6_forget 13 = .ok (.ifCond .ne 13, 3) := by decide +kernel
theorem dX6_forget_16 : decode cX6_forget 16 = .ok (.new 111, 3) := by decide +kernel
theorem dX6_forget_19 : decode cX6_forget 19 = .ok (.dup, 1) := by decide +kernel
theorem dX6_forget_20 : decode cX6_forget 20 = .ok (.ldc 113, 2) := by decide +kernel
theorem dX6_forget_22 : decode cX6_forget 22 = .ok (.invokespecial 115, 3) := by decide +kernel
theorem dX6_forget_25 : decode cX6_forget 25 = .ok (.athrow, 1) := by decide +kernel
theorem dX6_forget_26 : decode cX6_forget 26 = .ok (.aload_n 0, 1) := by decide +kernel
theorem dX6_forget_27 : decode cX6_forget 27 = .ok (.invokevirtual 63, 3) := by decide +kernel
theorem dX6_forget_30 : decode cX6_forget 30 = .ok (.aload_n 0, 1) := by decide +kernel
theorem dX6_forget_31 : decode cX6_forget 31 = .ok (.getfield 10, 3) := by decide +kernel
theorem dX6_forget_34 : decode cX6_forget 34 = .ok (.dup, 1) := by decide +kernel
theorem dX6_forget_35 : decode cX6_forget 35 = .ok (.getfield 116, 3) := by decide +kernel
theorem dX6_forget_38 : decode cX6_forget 38 = .ok (.iconst 1, 1) := by decide +kernel
theorem dX6_forget_39 : decode cX6_forget 39 = .ok (.iload_n 1, 1) := by decide +kernel
theorem dX6_forget_40 : decode cX6_forget 40 = .ok (.ishl, 1) := by decide +kernel
theorem dX6_forget_41 : decode cX6_forget 41 = .ok (.iconst (-1), 1) := by decide +kernel
theorem dX6_forget_42 : decode cX6_forget 42 = .ok (.ixor, 1) := by decide +kernel
theorem dX6_forget_43 : decode cX6_forget 43 = .ok (.iand, 1) := by decide +kernel
theorem dX6_forget_44 : decode cX6_forget 44 = .ok (.putfield 116, 3) := by decide +kernel
theorem dX6_forget_47 : decode cX6_forget 47 = .ok (.aload_n 0, 1) := by decide +kernel
theorem dX6_forget_48 : decode cX6_forget 48 = .ok (.getfield 10, 3) := by decide +kernel
theorem dX6_forget_51 : decode cX6_forget 51 = .ok (.aload_n 0, 1) := by decide +kernel
theorem dX6_forget_52 : decode cX6_forget 52 = .ok (.getfield 10, 3) := by decide +kernel
theorem dX6_forget_55 : decode cX6_forget 55 = .ok (.invokevirtual 119, 3) := by decide +kernel
theorem dX6_forget_58 : decode cX6_forget 58 = .ok (.invokevirtual 123, 3) := by decide +kernel
theorem dX6_forget_61 : decode cX6_forget 61 = .ok (.ireturn, 1) := by decide +kernel
set_option maxRecDepth 20000 in
theorem ggX6_remember_X6_checkInput : GoodIn wsX6_remember wsX6_checkInput := goodIn_ca (goodIn_r _ [8, 9, 10, 3, 78, 79, 80, 81, 82, 83, 84, 85, 86, 87, 88, 89, 90, 91, 92] (by decide +kernel) (by decide +kernel)) (goodIn_sub (fun _ h => List.mem_cons_of_mem _ (List.mem_append_right _ h)) (by decide +kernel))
set_option maxRecDepth 20000 in
theorem gX6_remember_X6_checkInput : GoodIn wsX6_remember (wsV RX6 104 RX6 yX6_checkInput wsX6_checkInput) := goodIn_app (goodIn_of _ (by decide +kernel)) ggX6_remember_X6_checkInput
set_option maxRecDepth 20000 in
theorem ggX6_remember_X3_remembers : GoodIn wsX6_remember wsX3_remembers := goodIn_r _ [15, 16, 85, 86, 87, 88, 89, 90, 91, 92] (by decide +kernel) (by decide +kernel)
set_option maxRecDepth 20000 in
theorem gX6_remember_X3_remembers : GoodIn wsX6_remember (wsV RX6 107 RX3 yX3_remembers wsX3_remembers) := goodIn_app (goodIn_of _ (by decide +kernel)) ggX6_remember_X3_remembers
set_option maxRecDepth 20000 in
theorem ggX6_remember_X6_saveBeforeChange : GoodIn wsX6_remember wsX6_saveBeforeChange := goodIn_r _ [20, 21, 3, 22, 23, 24, 25, 26, 27, 28, 29, 30, 31, 14, 32, 33, 34, 35, 36, 37, 38, 39, 40, 41, 42, 43, 44, 45, 46, 47, 48, 49, 50, 51, 16, 52, 53, 78, 79, 80, 81, 82, 83, 84, 93, 94, 85, 86, 87, 88, 89, 90, 91, 92] (by decide +kernel) (by decide +kernel)
set_option maxRecDepth 20000 in
theorem gX6_remember_X6_saveBeforeChange : GoodIn wsX6_remember (wsV RX6 63 RX6 yX6_saveBeforeChange wsX6_saveBeforeChange) := goodIn_app (goodIn_of _ (by decide +kernel)) ggX6_remember_X6_saveBeforeChange
set_option maxRecDepth 20000 in
theorem ggX6_remember_X3_forgotten : GoodIn wsX6_remember wsX3_forgotten := goodIn_r _ [57, 51, 16, 58, 59, 60, 61, 85, 86, 87, 88, 89, 90, 91, 92] (by decide +kernel) (by decide +kernel)
set_option maxRecDepth 20000 in
theorem gX6_remember_X3_forgotten : GoodIn wsX6_remember (wsV RX6 119 RX3 yX3_forgotten wsX3_forgotten) := goodIn_app (goodIn_of _ (by decide +kernel)) ggX6_remember_X3_forgotten
set_option maxRecDepth 20000 in
theorem ggX6_remember_X3_undecidedPairs : GoodIn wsX6_remember wsX3_undecidedPairs := goodIn_r _ [65, 43, 42, 66, 67, 60, 68, 69, 70, 71, 72, 73, 74, 75, 76, 77, 85, 86, 87, 88, 89, 90, 91, 92] (by decide +kernel) (by decide +kernel)
set_option maxRecDepth 20000 in
theorem gX6_remember_X3_undecidedPairs : GoodIn wsX6_remember (wsV RX6 123 RX3 yX3_undecidedPairs wsX3_undecidedPairs) := goodIn_app (goodIn_of _ (by decide +kernel)) ggX6_remember_X3_undecidedPairs
theorem dX6_remember_0 : decode cX6_remember 0 = .ok (.aload_n 0, 1) := by decide +kernel
theorem dX6_remember_1 : decode cX6_remember 1 = .ok (.iload_n 1, 1) := by decide +kernel
theorem dX6_remember_2 : decode cX6_remember 2 = .ok (.invokevirtual 104, 3) := by decide +kernel
theorem dX6_remember_5 : decode cX6_remember 5 = .ok (.aload_n 0, 1) := by decide +kernel
theorem dX6_remember_6 : decode cX6_remember 6 = .ok (.getfield 10, 3) := by decide +kernel
theorem dX6_remember_9 : decode cX6_remember 9 = .ok (.iload_n 1, 1) := by decide +kernel
theorem dX6_remember_10 : decode cX6_remember 10 = .ok (.invokevirtual 107, 3) := by decide +kernel
theorem dX6_remember_13 : decode cX6_remember 13 = .ok (.ifCond .eq 13, 3) := by decide +kernel
theorem dX6_remember_16 : decode cX6_remember 16 = .ok (.new 111, 3) := by decide +kernel
theorem dX6_remember_19 : decode cX6_remember 19 = .ok (.dup, 1) := by decide +kernel
theorem dX6_remember_20 : decode cX6_remember 20 = .ok (.ldc 127, 2) := by decide +kernel
theorem dX6_remember_22 : decode cX6_remember 22 = .ok (.invokespecial 115, 3) := by decide +kernel
theorem dX6_remember_25 : decode cX6_remember 25 = .ok (.athrow, 1) := by decide +kernel
theorem dX6_remember_26 : decode cX6_remember 26 = .ok (.aload_n 0, 1) := by decide +kernel
theorem dX6_remember_27 : decode cX6_remember 27 = .ok (.invokevirtual 63, 3) := by decide +kernel
theorem dX6_remember_30 : decode cX6_remember 30 = .ok (.aload_n 0, 1) := by decide +kernel
theorem dX6_remember_31 : decode cX6_remember 31 = .ok (.getfield 10, 3) := by decide +kernel
theorem dX6_remember_34 : decode cX6_remember 34 = .ok (.dup, 1) := by decide +kernel
theorem dX6_remember_35 : decode cX6_remember 35 = .ok (.getfield 116, 3) := by decide +kernel
theorem dX6_remember_38 : decode cX6_remember 38 = .ok (.iconst 1, 1) := by decide +kernel
theorem dX6_remember_39 : decode cX6_remember 39 = .ok (.iload_n 1, 1) := by decide +kernel
theorem dX6_remember_40 : decode cX6_remember 40 = .ok (.ishl, 1) := by decide +kernel
theorem dX6_remember_41 : decode cX6_remember 41 = .ok (.ior, 1) := by decide +kernel
theorem dX6_remember_42 : decode cX6_remember 42 = .ok (.putfield 116, 3) := by decide +kernel
theorem dX6_remember_45 : decode cX6_remember 45 = .ok (.aload_n 0, 1) := by decide +kernel
theorem dX6_remember_46 : decode cX6_remember 46 = .ok (.getfield 10, 3) := by decide +kernel
theorem dX6_remember_49 : decode cX6_remember 49 = .ok (.aload_n 0, 1) := by decide +kernel
theorem dX6_remember_50 : decode cX6_remember 50 = .ok (.getfield 10, 3) := by decide +kernel
theorem dX6_remember_53 : decode cX6_remember 53 = .ok (.invokevirtual 119, 3) := by decide +kernel
theorem dX6_remember_56 : decode cX6_remember 56 = .ok (.invokevirtual 123, 3) := by decide +kernel
theorem dX6_remember_59 : decode cX6_remember 59 = .ok (.ireturn, 1) := by decide +kernel
set_option maxRecDepth 20000 in
theorem ggX6_pass_X6_checkRange : GoodIn wsX6_pass wsX6_checkRange := goodIn_ca (goodIn_r _ [5, 6, 7] (by decide +kernel) (by decide +kernel)) (goodIn_sub (fun _ h => List.mem_cons_of_mem _ (List.mem_append_right _ h)) (by decide +kernel))
set_option maxRecDepth 20000 in
theorem gX6_pass_X6_checkRange : GoodIn wsX6_pass (va_wsS RX6 55 yX6_checkRange wsX6_checkRange) := goodIn_app (goodIn_of _ (by decide +kernel)) ggX6_pass_X6_checkRange
set_option maxRecDepth 20000 in
theorem ggX6_pass_X6_saveBeforeChange : GoodIn wsX6_pass wsX6_saveBeforeChange := goodIn_r _ [11, 12, 1, 13, 14, 15, 16, 17, 18, 19, 20, 21, 22, 23, 24, 25, 26, 27, 28, 29, 30, 31, 32, 33, 34, 35, 36, 37, 38, 39, 40, 41, 42, 43, 44, 45, 46, 86, 87, 88, 89, 90, 91, 92, 101, 102, 93, 94, 95, 96, 97, 98, 99, 100] (by decide +kernel) (by decide +kernel)
set_option maxRecDepth 20000 in
theorem gX6_pass_X6_saveBeforeChange : GoodIn wsX6_pass (wsV RX6 63 RX6 yX6_saveBeforeChange wsX6_saveBeforeChange) := goodIn_app (goodIn_of _ (by decide +kernel)) ggX6_pass_X6_saveBeforeChange
set_option maxRecDepth 20000 in
theorem ggX6_pass_X3_leastMissed : GoodIn wsX6_pass wsX3_leastMissed := goodIn_r _ [50, 43, 51, 52, 53, 23, 54, 44, 55, 56, 57, 58, 59, 60, 61, 62, 63, 64, 65, 66, 35, 34, 67, 68, 69, 70, 71, 72, 73, 74, 75, 76, 77, 78, 93, 94, 95, 96, 97, 98, 99, 100] (by decide +kernel) (by decide +kernel)
set_option maxRecDepth 20000 in
theorem gX6_pass_X3_leastMissed : GoodIn wsX6_pass (wsV RX6 129 RX3 yX3_leastMissed wsX3_leastMissed) := goodIn_app (goodIn_of _ (by decide +kernel)) ggX6_pass_X3_leastMissed
set_option maxRecDepth 20000 in
theorem ggX6_pass_J6_bitCount_0f7a4 : GoodIn wsX6_pass wsJ6_bitCount_0f7a4 := goodIn_r _ [82, 83, 84, 85] (by decide +kernel) (by decide +kernel)
set_option maxRecDepth 20000 in
theorem gX6_pass_J6_bitCount_0f7a4 : GoodIn wsX6_pass (va_wsS RX6 135 yJ6_bitCount_0f7a4 wsJ6_bitCount_0f7a4) := goodIn_app (goodIn_of _ (by decide +kernel)) ggX6_pass_J6_bitCount_0f7a4
theorem dX6_pass_0 : decode cX6_pass 0 = .ok (.iload_n 1, 1) := by decide +kernel
theorem dX6_pass_1 : decode cX6_pass 1 = .ok (.iconst 1, 1) := by decide +kernel
theorem dX6_pass_2 : decode cX6_pass 2 = .ok (.bipush 6, 2) := by decide +kernel
theorem dX6_pass_4 : decode cX6_pass 4 = .ok (.invokestatic 55, 3) := by decide +kernel
theorem dX6_pass_7 : decode cX6_pass 7 = .ok (.aload_n 0, 1) := by decide +kernel
theorem dX6_pass_8 : decode cX6_pass 8 = .ok (.invokevirtual 63, 3) := by decide +kernel
theorem dX6_pass_11 : decode cX6_pass 11 = .ok (.iconst 0, 1) := by decide +kernel
theorem dX6_pass_12 : decode cX6_pass 12 = .ok (.istore_n 2, 1) := by decide +kernel
theorem dX6_pass_13 : decode cX6_pass 13 = .ok (.iload_n 2, 1) := by decide +kernel
theorem dX6_pass_14 : decode cX6_pass 14 = .ok (.iload_n 1, 1) := by decide +kernel
theorem dX6_pass_15 : decode cX6_pass 15 = .ok (.if_icmp .ge 55, 3) := by decide +kernel
theorem dX6_pass_18 : decode cX6_pass 18 = .ok (.aload_n 0, 1) := by decide +kernel
theorem dX6_pass_19 : decode cX6_pass 19 = .ok (.getfield 10, 3) := by decide +kernel
theorem dX6_pass_22 : decode cX6_pass 22 = .ok (.getfield 116, 3) := by decide +kernel
theorem dX6_pass_25 : decode cX6_pass 25 = .ok (.ifCond .eq 45, 3) := by decide +kernel
theorem dX6_pass_28 : decode cX6_pass 28 = .ok (.aload_n 0, 1) := by decide +kernel
theorem dX6_pass_29 : decode cX6_pass 29 = .ok (.getfield 10, 3) := by decide +kernel
theorem dX6_pass_32 : decode cX6_pass 32 = .ok (.dup, 1) := by decide +kernel
theorem dX6_pass_33 : decode cX6_pass 33 = .ok (.getfield 116, 3) := by decide +kernel
theorem dX6_pass_36 : decode cX6_pass 36 = .ok (.iconst 1, 1) := by decide +kernel
theorem dX6_pass_37 : decode cX6_pass 37 = .ok (.aload_n 0, 1) := by decide +kernel
theorem dX6_pass_38 : decode cX6_pass 38 = .ok (.getfield 10, 3) := by decide +kernel
theorem dX6_pass_41 : decode cX6_pass 41 = .ok (.invokevirtual 129, 3) := by decide +kernel
theorem dX6_pass_44 : decode cX6_pass 44 = .ok (.ishl, 1) := by decide +kernel
theorem dX6_pass_45 : decode cX6_pass 45 = .ok (.iconst (-1), 1) := by decide +kernel
theorem dX6_pass_46 : decode cX6_pass 46 = .ok (.ixor, 1) := by decide +kernel
theorem dX6_pass_47 : decode cX6_pass 47 = .ok (.iand, 1) := by decide +kernel
theorem dX6_pass_48 : decode cX6_pass 48 = .ok (.putfield 116, 3) := by decide +kernel
theorem dX6_pass_51 : decode cX6_pass 51 = .ok (.aload_n 0, 1) := by decide +kernel
theorem dX6_pass_52 : decode cX6_pass 52 = .ok (.getfield 10, 3) := by decide +kernel
theorem dX6_pass_55 : decode cX6_pass 55 = .ok (.dup, 1) := by decide +kernel
theorem dX6_pass_56 : decode cX6_pass 56 = .ok (.getfield 132, 3) := by decide +kernel
theorem dX6_pass_59 : decode cX6_pass 59 = .ok (.iconst 1, 1) := by decide +kernel
theorem dX6_pass_60 : decode cX6_pass 60 = .ok (.iadd, 1) := by decide +kernel
theorem dX6_pass_61 : decode cX6_pass 61 = .ok (.putfield 132, 3) := by decide +kernel
theorem dX6_pass_64 : decode cX6_pass 64 = .ok (.iinc 2 1, 3) := by decide +kernel
theorem dX6_pass_67 : decode cX6_pass 67 = .ok (.goto (-54), 3) := by decide +kernel
theorem dX6_pass_70 : decode cX6_pass 70 = .ok (.aload_n 0, 1) := by decide +kernel
theorem dX6_pass_71 : decode cX6_pass 71 = .ok (.getfield 10, 3) := by decide +kernel
theorem dX6_pass_74 : decode cX6_pass 74 = .ok (.getfield 116, 3) := by decide +kernel
theorem dX6_pass_77 : decode cX6_pass 77 = .ok (.invokestatic 135, 3) := by decide +kernel
theorem dX6_pass_80 : decode cX6_pass 80 = .ok (.ireturn, 1) := by decide +kernel
set_option maxRecDepth 20000 in
theorem ggX6_ask_X6_checkRow : GoodIn wsX6_ask wsX6_checkRow := goodIn_ca (goodIn_r _ [7, 8, 9, 2, 10, 11, 12, 13, 14, 15, 169, 170, 171, 172, 173, 174, 175, 176, 177, 178, 179, 180, 181, 182, 183] (by decide +kernel) (by decide +kernel)) (goodIn_sub (fun _ h => List.mem_cons_of_mem _ (List.mem_append_right _ h)) (by decide +kernel))
set_option maxRecDepth 20000 in
theorem gX6_ask_X6_checkRow : GoodIn wsX6_ask (wsV RX6 69 RX6 yX6_checkRow wsX6_checkRow) := goodIn_app (goodIn_of _ (by decide +kernel)) ggX6_ask_X6_checkRow
set_option maxRecDepth 20000 in
theorem ggX6_ask_X6_viewOfPresent : GoodIn wsX6_ask wsX6_viewOfPresent := goodIn_r _ [19, 20, 21, 2, 22, 23, 24, 25, 26, 27, 28, 29, 30, 31, 32, 33, 34, 35, 36, 37, 38, 39, 40, 41, 13, 42, 43, 44, 6, 45, 46, 47, 48, 49, 50, 51, 52, 53, 54, 55, 56, 57, 58, 59, 60, 61, 62, 63, 64, 65, 66, 67, 68, 69, 70, 71, 72, 73, 74, 75, 76, 77, 78, 79, 80, 81, 82, 83, 84, 85, 86, 87, 88, 89, 90, 91, 92, 93, 94, 95, 96, 97, 98, 99, 100, 101, 102, 103, 104, 105, 106, 107, 108, 109, 110, 111, 112, 113, 114, 115, 116, 117, 118, 119, 120, 121, 169, 170, 171, 172, 173, 174, 175, 176, 177, 178, 179, 180, 181, 182, 183, 184, 185, 186, 187, 188, 189, 190, 191, 192, 193, 194, 195, 196, 197, 198, 199] (by decide +kernel) (by decide +kernel)
set_option maxRecDepth 20000 in
theorem gX6_ask_X6_viewOfPresent : GoodIn wsX6_ask (wsV RX6 139 RX6 yX6_viewOfPresent wsX6_viewOfPresent) := goodIn_app (goodIn_of _ (by decide +kernel)) ggX6_ask_X6_viewOfPresent
set_option maxRecDepth 20000 in
theorem ggX6_ask_X0_keep : GoodIn wsX6_ask wsX0_keep := goodIn_r _ [126, 127, 128, 129, 130, 13, 131, 132, 133, 125, 134, 135, 136, 137, 138, 139, 140, 43, 55, 141, 142, 143, 144, 145, 146, 147, 15, 148, 149, 150, 200, 201, 176, 177, 178, 179, 180, 181, 182, 183] (by decide +kernel) (by decide +kernel)
set_option maxRecDepth 20000 in
theorem gX6_ask_X0_keep : GoodIn wsX6_ask (wsV RX6 143 RX0 yX0_keep wsX0_keep) := goodIn_app (goodIn_of _ (by decide +kernel)) ggX6_ask_X0_keep
set_option maxRecDepth 20000 in
theorem ggX6_ask_X5_answerAt : GoodIn wsX6_ask wsX5_answerAt := goodIn_r _ [154, 155, 156, 157, 26, 158, 96, 44, 6, 45, 184, 185, 186, 187, 188, 189, 190, 191, 192, 193, 194, 195] (by decide +kernel) (by decide +kernel)
set_option maxRecDepth 20000 in
theorem gX6_ask_X5_answerAt : GoodIn wsX6_ask (wsV RX6 150 RX5 yX5_answerAt wsX5_answerAt) := goodIn_app (goodIn_of _ (by decide +kernel)) ggX6_ask_X5_answerAt
set_option maxRecDepth 20000 in
theorem ggX6_ask_X3_truthAt : GoodIn wsX6_ask wsX3_truthAt := goodIn_r _ [162, 163, 52, 53, 13, 54, 55, 44, 6, 45, 164, 40, 41, 42, 43, 176, 177, 178, 179, 180, 181, 182, 183] (by decide +kernel) (by decide +kernel)
set_option maxRecDepth 20000 in
theorem gX6_ask_X3_truthAt : GoodIn wsX6_ask (wsV RX6 72 RX3 yX3_truthAt wsX3_truthAt) := goodIn_app (goodIn_of _ (by decide +kernel)) ggX6_ask_X3_truthAt
set_option maxRecDepth 20000 in
theorem ggX6_ask_X5_decidedAt : GoodIn wsX6_ask wsX5_decidedAt := goodIn_r _ [168, 33, 32, 30, 44, 6, 45, 184, 185, 186, 187, 188, 189, 190, 191, 192, 193, 194, 195] (by decide +kernel) (by decide +kernel)
set_option maxRecDepth 20000 in
theorem gX6_ask_X5_decidedAt : GoodIn wsX6_ask (wsV RX6 153 RX5 yX5_decidedAt wsX5_decidedAt) := goodIn_app (goodIn_of _ (by decide +kernel)) ggX6_ask_X5_decidedAt
theorem dX6_ask_0 : decode cX6_ask 0 = .ok (.aload_n 0, 1) := by decide +kernel
theorem dX6_ask_1 : decode cX6_ask 1 = .ok (.iload_n 1, 1) := by decide +kernel
theorem dX6_ask_2 : decode cX6_ask 2 = .ok (.invokevirtual 69, 3) := by decide +kernel
theorem dX6_ask_5 : decode cX6_ask 5 = .ok (.aload_n 0, 1) := by decide +kernel
theorem dX6_ask_6 : decode cX6_ask 6 = .ok (.invokevirtual 139, 3) := by decide +kernel
theorem dX6_ask_9 : decode cX6_ask 9 = .ok (.astore_n 2, 1) := by decide +kernel
theorem dX6_ask_10 : decode cX6_ask 10 = .ok (.aload_n 0, 1) := by decide +kernel
theorem dX6_ask_11 : decode cX6_ask 11 = .ok (.getfield 19, 3) := by decide +kernel
theorem dX6_ask_14 : decode cX6_ask 14 = .ok (.aload_n 0, 1) := by decide +kernel
theorem dX6_ask_15 : decode cX6_ask 15 = .ok (.getfield 10, 3) := by decide +kernel
theorem dX6_ask_18 : decode cX6_ask 18 = .ok (.invokevirtual 143, 3) := by decide +kernel
theorem dX6_ask_21 : decode cX6_ask 21 = .ok (.aload_n 0, 1) := by decide +kernel
theorem dX6_ask_22 : decode cX6_ask 22 = .ok (.getfield 10, 3) := by decide +kernel
theorem dX6_ask_25 : decode cX6_ask 25 = .ok (.dup, 1) := by decide +kernel
theorem dX6_ask_26 : decode cX6_ask 26 = .ok (.getfield 147, 3) := by decide +kernel
theorem dX6_ask_29 : decode cX6_ask 29 = .ok (.iconst 1, 1) := by decide +kernel
theorem dX6_ask_30 : decode cX6_ask 30 = .ok (.iadd, 1) := by decide +kernel
theorem dX6_ask_31 : decode cX6_ask 31 = .ok (.putfield 147, 3) := by decide +kernel
theorem dX6_ask_34 : decode cX6_ask 34 = .ok (.iconst 0, 1) := by decide +kernel
theorem dX6_ask_35 : decode cX6_ask 35 = .ok (.istore_n 3, 1) := by decide +kernel
theorem dX6_ask_36 : decode cX6_ask 36 = .ok (.iconst 0, 1) := by decide +kernel
theorem dX6_ask_37 : decode cX6_ask 37 = .ok (.istore 4, 2) := by decide +kernel
theorem dX6_ask_39 : decode cX6_ask 39 = .ok (.iload 4, 2) := by decide +kernel
theorem dX6_ask_41 : decode cX6_ask 41 = .ok (.iconst 4, 1) := by decide +kernel
theorem dX6_ask_42 : decode cX6_ask 42 = .ok (.if_icmp .ge 90, 3) := by decide +kernel
theorem dX6_ask_45 : decode cX6_ask 45 = .ok (.aload_n 2, 1) := by decide +kernel
theorem dX6_ask_46 : decode cX6_ask 46 = .ok (.iload 4, 2) := by decide +kernel
theorem dX6_ask_48 : decode cX6_ask 48 = .ok (.iload_n 1, 1) := by decide +kernel
theorem dX6_ask_49 : decode cX6_ask 49 = .ok (.invokevirtual 150, 3) := by decide +kernel
theorem dX6_ask_52 : decode cX6_ask 52 = .ok (.istore 5, 2) := by decide +kernel
theorem dX6_ask_54 : decode cX6_ask 54 = .ok (.aload_n 0, 1) := by decide +kernel
theorem dX6_ask_55 : decode cX6_ask 55 = .ok (.getfield 10, 3) := by decide +kernel
theorem dX6_ask_58 : decode cX6_ask 58 = .ok (.iload 4, 2) := by decide +kernel
theorem dX6_ask_60 : decode cX6_ask 60 = .ok (.iload_n 1, 1) := by decide +kernel
theorem dX6_ask_61 : decode cX6_ask 61 = .ok (.invokevirtual 72, 3) := by decide +kernel
theorem dX6_ask_64 : decode cX6_ask 64 = .ok (.istore 6, 2) := by decide +kernel
theorem dX6_ask_66 : decode cX6_ask 66 = .ok (.aload_n 2, 1) := by decide +kernel
theorem dX6_ask_67 : decode cX6_ask 67 = .ok (.iload 4, 2) := by decide +kernel
theorem dX6_ask_69 : decode cX6_ask 69 = .ok (.iload_n 1, 1) := by decide +kernel
theorem dX6_ask_70 : decode cX6_ask 70 = .ok (.invokevirtual 153, 3) := by decide +kernel
theorem dX6_ask_73 : decode cX6_ask 73 = .ok (.iconst 3, 1) := by decide +kernel
theorem dX6_ask_74 : decode cX6_ask 74 = .ok (.if_icmp .ne 17, 3) := by decide +kernel
theorem dX6_ask_77 : decode cX6_ask 77 = .ok (.aload_n 0, 1) := by decide +kernel
theorem dX6_ask_78 : decode cX6_ask 78 = .ok (.getfield 10, 3) := by decide +kernel
theorem dX6_ask_81 : decode cX6_ask 81 = .ok (.getfield 156, 3) := by decide +kernel
theorem dX6_ask_84 : decode cX6_ask 84 = .ok (.iload 4, 2) := by decide +kernel
theorem dX6_ask_86 : decode cX6_ask 86 = .ok (.dup2, 1) := by decide +kernel
theorem dX6_ask_87 : decode cX6_ask 87 = .ok (.iaload, 1) := by decide +kernel
theorem dX6_ask_88 : decode cX6_ask 88 = .ok (.iconst 1, 1) := by decide +kernel
theorem dX6_ask_89 : decode cX6_ask 89 = .ok (.iadd, 1) := by decide +kernel
theorem dX6_ask_90 : decode cX6_ask 90 = .ok (.iastore, 1) := by decide +kernel
theorem dX6_ask_91 : decode cX6_ask 91 = .ok (.iload 6, 2) := by decide +kernel
theorem dX6_ask_93 : decode cX6_ask 93 = .ok (.iconst 2, 1) := by decide +kernel
theorem dX6_ask_94 : decode cX6_ask 94 = .ok (.if_icmp .eq 24, 3) := by decide +kernel
theorem dX6_ask_97 : decode cX6_ask 97 = .ok (.iload 6, 2) := by decide +kernel
theorem dX6_ask_99 : decode cX6_ask 99 = .ok (.iload 5, 2) := by decide +kernel
theorem dX6_ask_101 : decode cX6_ask 101 = .ok (.if_icmp .eq 17, 3) := by decide +kernel
theorem dX6_ask_104 : decode cX6_ask 104 = .ok (.aload_n 0, 1) := by decide +kernel
theorem dX6_ask_105 : decode cX6_ask 105 = .ok (.getfield 10, 3) := by decide +kernel
theorem dX6_ask_108 : decode cX6_ask 108 = .ok (.getfield 160, 3) := by decide +kernel
theorem dX6_ask_111 : decode cX6_ask 111 = .ok (.iload 4, 2) := by decide +kernel
theorem dX6_ask_113 : decode cX6_ask 113 = .ok (.dup2, 1) := by decide +kernel
theorem dX6_ask_114 : decode cX6_ask 114 = .ok (.iaload, 1) := by decide +kernel
theorem dX6_ask_115 : decode cX6_ask 115 = .ok (.iconst 1, 1) := by decide +kernel
theorem dX6_ask_116 : decode cX6_ask 116 = .ok (.iadd, 1) := by decide +kernel
theorem dX6_ask_117 : decode cX6_ask 117 = .ok (.iastore, 1) := by decide +kernel
theorem dX6_ask_118 : decode cX6_ask 118 = .ok (.iload_n 3, 1) := by decide +kernel
theorem dX6_ask_119 : decode cX6_ask 119 = .ok (.iload 5, 2) := by decide +kernel
theorem dX6_ask_121 : decode cX6_ask 121 = .ok (.iload 4, 2) := by decide +kernel
theorem dX6_ask_123 : decode cX6_ask 123 = .ok (.ishl, 1) := by decide +kernel
theorem dX6_ask_124 : decode cX6_ask 124 = .ok (.ior, 1) := by decide +kernel
theorem dX6_ask_125 : decode cX6_ask 125 = .ok (.istore_n 3, 1) := by decide +kernel
theorem dX6_ask_126 : decode cX6_ask 126 = .ok (.iinc 4 1, 3) := by decide +kernel
theorem dX6_ask_129 : decode cX6_ask 129 = .ok (.goto (-90), 3) := by decide +kernel
theorem dX6_ask_132 : decode cX6_ask 132 = .ok (.iload_n 3, 1) := by decide +kernel
theorem dX6_ask_133 : decode cX6_ask 133 = .ok (.ireturn, 1) := by decide +kernel
set_option maxRecDepth 20000 in
theorem ggX6_at_X6_checkOutput : GoodIn wsX6_at wsX6_checkOutput := goodIn_ca (goodIn_r _ [4, 5, 6, 7, 8, 3, 9] (by decide +kernel) (by decide +kernel)) (goodIn_sub (fun _ h => List.mem_cons_of_mem _ (List.mem_append_left _ (List.mem_append_right _ h))) (by decide +kernel))
set_option maxRecDepth 20000 in
theorem gX6_at_X6_checkOutput : GoodIn wsX6_at (va_wsS RX6 66 yX6_checkOutput wsX6_checkOutput) := goodIn_app (goodIn_of _ (by decide +kernel)) ggX6_at_X6_checkOutput
set_option maxRecDepth 20000 in
theorem ggX6_at_X6_checkRow : GoodIn wsX6_at wsX6_checkRow := goodIn_ca (goodIn_r _ [13, 5, 6, 14, 15, 16, 17, 18, 19, 20, 152, 153, 154, 155, 156, 157, 158, 159, 160, 161, 162, 163, 164, 165, 166] (by decide +kernel) (by decide +kernel)) (goodIn_sub (fun _ h => List.mem_cons_of_mem _ (List.mem_append_left _ (List.mem_append_right _ h))) (by decide +kernel))
set_option maxRecDepth 20000 in
theorem gX6_at_X6_checkRow : GoodIn wsX6_at (wsV RX6 69 RX6 yX6_checkRow wsX6_checkRow) := goodIn_app (goodIn_of _ (by decide +kernel)) ggX6_at_X6_checkRow
set_option maxRecDepth 20000 in
theorem ggX6_at_X6_checkRange : GoodIn wsX6_at wsX6_checkRange := goodIn_ca (goodIn_r _ [23, 24, 25] (by decide +kernel) (by decide +kernel)) (goodIn_sub (fun _ h => List.mem_cons_of_mem _ (List.mem_append_right _ h)) (by decide +kernel))
set_option maxRecDepth 20000 in
theorem gX6_at_X6_checkRange : GoodIn wsX6_at (va_wsS RX6 55 yX6_checkRange wsX6_checkRange) := goodIn_app (goodIn_of _ (by decide +kernel)) ggX6_at_X6_checkRange
set_option maxRecDepth 20000 in
theorem ggX6_at_X6_viewOfPresent : GoodIn wsX6_at wsX6_viewOfPresent := goodIn_r _ [29, 30, 31, 14, 32, 33, 34, 35, 36, 37, 38, 39, 40, 41, 42, 43, 44, 45, 46, 47, 48, 49, 50, 51, 18, 52, 53, 8, 3, 9, 54, 55, 56, 57, 58, 59, 60, 61, 62, 63, 64, 65, 66, 67, 68, 69, 70, 71, 72, 73, 74, 75, 76, 77, 78, 79, 80, 81, 82, 83, 84, 85, 86, 87, 88, 89, 90, 91, 92, 93, 94, 95, 96, 97, 98, 99, 100, 101, 102, 103, 104, 105, 106, 107, 108, 109, 110, 111, 112, 113, 114, 115, 116, 117, 118, 119, 120, 121, 122, 123, 124, 125, 126, 127, 128, 129, 152, 153, 154, 155, 156, 157, 158, 159, 160, 161, 162, 163, 164, 165, 166, 167, 168, 169, 170, 171, 172, 173, 174, 175, 176, 177, 178, 179, 180, 181, 182] (by decide +kernel) (by decide +kernel)
set_option maxRecDepth 20000 in
theorem gX6_at_X6_viewOfPresent : GoodIn wsX6_at (wsV RX6 139 RX6 yX6_viewOfPresent wsX6_viewOfPresent) := goodIn_app (goodIn_of _ (by decide +kernel)) ggX6_at_X6_viewOfPresent
set_option maxRecDepth 20000 in
theorem ggX6_at_X6_rowNumber : GoodIn wsX6_at wsX6_rowNumber := goodIn_r _ [133, 14, 134, 135, 136, 18, 137, 138, 60, 61, 62, 63, 8, 3, 9, 139, 50, 51, 52, 53, 140, 141, 142, 36, 143, 43, 42, 40, 144, 145, 146, 147, 148, 149, 150, 151, 104, 152, 153, 154, 155, 156, 157, 158, 159, 160, 161, 162, 163, 164, 165, 166, 167, 168, 169, 170, 171, 172, 173, 174, 175, 176, 177, 178] (by decide +kernel) (by decide +kernel)
set_option maxRecDepth 20000 in
theorem gX6_at_X6_rowNumber : GoodIn wsX6_at (wsV RX6 195 RX6 yX6_rowNumber wsX6_rowNumber) := goodIn_app (goodIn_of _ (by decide +kernel)) ggX6_at_X6_rowNumber
theorem dX6_at_0 : decode cX6_at 0 = .ok (.iload_n 1, 1) := by decide +kernel
theorem dX6_at_1 : decode cX6_at 1 = .ok (.invokestatic 66, 3) := by decide +kernel
theorem dX6_at_4 : decode cX6_at 4 = .ok (.aload_n 0, 1) := by decide +kernel
theorem dX6_at_5 : decode cX6_at 5 = .ok (.iload_n 2, 1) := by decide +kernel
theorem dX6_at_6 : decode cX6_at 6 = .ok (.invokevirtual 69, 3) := by decide +kernel
theorem dX6_at_9 : decode cX6_at 9 = .ok (.iload_n 3, 1) := by decide +kernel
theorem dX6_at_10 : decode cX6_at 10 = .ok (.iconst 0, 1) := by decide +kernel
theorem dX6_at_11 : decode cX6_at 11 = .ok (.iconst 2, 1) := by decide +kernel
theorem dX6_at_12 : decode cX6_at 12 = .ok (.invokestatic 55, 3) := by decide +kernel
theorem dX6_at_15 : decode cX6_at 15 = .ok (.aload_n 0, 1) := by decide +kernel
theorem dX6_at_16 : decode cX6_at 16 = .ok (.aload_n 0, 1) := by decide +kernel
theorem dX6_at_17 : decode cX6_at 17 = .ok (.invokevirtual 139, 3) := by decide +kernel
theorem dX6_at_20 : decode cX6_at 20 = .ok (.iload_n 1, 1) := by decide +kernel
theorem dX6_at_21 : decode cX6_at 21 = .ok (.iload_n 2, 1) := by decide +kernel
theorem dX6_at_22 : decode cX6_at 22 = .ok (.iload_n 3, 1) := by decide +kernel
theorem dX6_at_23 : decode cX6_at 23 = .ok (.invokevirtual 195, 3) := by decide +kernel
theorem dX6_at_26 : decode cX6_at 26 = .ok (.ireturn, 1) := by decide +kernel
set_option maxRecDepth 20000 in
theorem ggX6_output_X6_checkOutput : GoodIn wsX6_output wsX6_checkOutput := goodIn_ca (goodIn_r _ [4, 5, 6, 7, 8, 3, 9] (by decide +kernel) (by decide +kernel)) (goodIn_sub (fun _ h => List.mem_cons_of_mem _ (List.mem_append_left _ (List.mem_append_right _ h))) (by decide +kernel))
set_option maxRecDepth 20000 in
theorem gX6_output_X6_checkOutput : GoodIn wsX6_output (va_wsS RX6 66 yX6_checkOutput wsX6_checkOutput) := goodIn_app (goodIn_of _ (by decide +kernel)) ggX6_output_X6_checkOutput
set_option maxRecDepth 20000 in
theorem ggX6_output_X6_checkRange : GoodIn wsX6_output wsX6_checkRange := goodIn_ca (goodIn_r _ [12, 13, 14] (by decide +kernel) (by decide +kernel)) (goodIn_sub (fun _ h => List.mem_cons_of_mem _ (List.mem_append_right _ h)) (by decide +kernel))
set_option maxRecDepth 20000 in
theorem gX6_output_X6_checkRange : GoodIn wsX6_output (va_wsS RX6 55 yX6_checkRange wsX6_checkRange) := goodIn_app (goodIn_of _ (by decide +kernel)) ggX6_output_X6_checkRange
set_option maxRecDepth 20000 in
theorem ggX6_output_X6_viewOfPresent : GoodIn wsX6_output wsX6_viewOfPresent := goodIn_r _ [18, 19, 20, 21, 22, 23, 24, 25, 26, 27, 28, 29, 30, 31, 32, 33, 34, 35, 36, 37, 38, 39, 40, 41, 42, 43, 44, 8, 3, 9, 45, 46, 47, 48, 49, 50, 51, 52, 53, 54, 55, 56, 57, 58, 59, 60, 61, 62, 63, 64, 65, 66, 67, 68, 69, 70, 71, 72, 73, 74, 75, 76, 77, 78, 79, 80, 81, 82, 83, 84, 85, 86, 87, 88, 89, 90, 91, 92, 93, 94, 95, 96, 97, 98, 99, 100, 101, 102, 103, 104, 105, 106, 107, 108, 109, 110, 111, 112, 113, 114, 115, 116, 117, 118, 119, 120, 163, 164, 165, 166, 167, 168, 169, 170, 171, 172, 173, 174, 175, 176, 177, 178, 179, 180, 181, 182, 183, 184, 185, 186, 187, 188, 189, 190, 191, 192, 193] (by decide +kernel) (by decide +kernel)
set_option maxRecDepth 20000 in
theorem gX6_output_X6_viewOfPresent : GoodIn wsX6_output (wsV RX6 139 RX6 yX6_viewOfPresent wsX6_viewOfPresent) := goodIn_app (goodIn_of _ (by decide +kernel)) ggX6_output_X6_viewOfPresent
set_option maxRecDepth 20000 in
theorem ggX6_output_X6_outputNumber : GoodIn wsX6_output wsX6_outputNumber := goodIn_r _ [124, 21, 125, 51, 52, 42, 53, 54, 8, 3, 9, 126, 56, 57, 58, 59, 60, 61, 127, 128, 129, 130, 131, 132, 40, 41, 43, 44, 133, 134, 135, 136, 137, 138, 139, 140, 141, 142, 143, 144, 145, 26, 146, 32, 28, 30, 33, 34, 96, 55, 147, 148, 149, 150, 151, 152, 153, 154, 155, 156, 157, 158, 94, 120, 103, 104, 105, 106, 107, 108, 159, 160, 161, 162, 163, 164, 165, 166, 167, 168, 169, 170, 171, 172, 173, 174, 175, 176, 177, 178, 179, 180, 181, 182, 183, 184, 185, 186, 187, 188, 189] (by decide +kernel) (by decide +kernel)
set_option maxRecDepth 20000 in
theorem gX6_output_X6_outputNumber : GoodIn wsX6_output (wsV RX6 199 RX6 yX6_outputNumber wsX6_outputNumber) := goodIn_app (goodIn_of _ (by decide +kernel)) ggX6_output_X6_outputNumber
theorem dX6_output_0 : decode cX6_output 0 = .ok (.iload_n 1, 1) := by decide +kernel
theorem dX6_output_1 : decode cX6_output 1 = .ok (.invokestatic 66, 3) := by decide +kernel
theorem dX6_output_4 : decode cX6_output 4 = .ok (.iload_n 2, 1) := by decide +kernel
theorem dX6_output_5 : decode cX6_output 5 = .ok (.iconst 0, 1) := by decide +kernel
theorem dX6_output_6 : decode cX6_output 6 = .ok (.bipush 10, 2) := by decide +kernel
theorem dX6_output_8 : decode cX6_output 8 = .ok (.invokestatic 55, 3) := by decide +kernel
theorem dX6_output_11 : decode cX6_output 11 = .ok (.aload_n 0, 1) := by decide +kernel
theorem dX6_output_12 : decode cX6_output 12 = .ok (.aload_n 0, 1) := by decide +kernel
theorem dX6_output_13 : decode cX6_output 13 = .ok (.invokevirtual 139, 3) := by decide +kernel
theorem dX6_output_16 : decode cX6_output 16 = .ok (.iload_n 1, 1) := by decide +kernel
theorem dX6_output_17 : decode cX6_output 17 = .ok (.iload_n 2, 1) := by decide +kernel
theorem dX6_output_18 : decode cX6_output 18 = .ok (.invokevirtual 199, 3) := by decide +kernel
theorem dX6_output_21 : decode cX6_output 21 = .ok (.ireturn, 1) := by decide +kernel
set_option maxRecDepth 20000 in
theorem ggX6_product_X6_checkOutput : GoodIn wsX6_product wsX6_checkOutput := goodIn_ca (goodIn_r _ [4, 5, 6, 7, 8, 3, 9] (by decide +kernel) (by decide +kernel)) (goodIn_sub (fun _ h => List.mem_cons_of_mem _ (List.mem_append_left _ (List.mem_append_right _ h))) (by decide +kernel))
set_option maxRecDepth 20000 in
theorem gX6_product_X6_checkOutput : GoodIn wsX6_product (va_wsS RX6 66 yX6_checkOutput wsX6_checkOutput) := goodIn_app (goodIn_of _ (by decide +kernel)) ggX6_product_X6_checkOutput
set_option maxRecDepth 20000 in
theorem ggX6_product_X6_checkRange : GoodIn wsX6_product wsX6_checkRange := goodIn_ca (goodIn_r _ [12, 13, 14] (by decide +kernel) (by decide +kernel)) (goodIn_sub (fun _ h => List.mem_cons_of_mem _ (List.mem_append_right _ h)) (by decide +kernel))
set_option maxRecDepth 20000 in
theorem gX6_product_X6_checkRange : GoodIn wsX6_product (va_wsS RX6 55 yX6_checkRange wsX6_checkRange) := goodIn_app (goodIn_of _ (by decide +kernel)) ggX6_product_X6_checkRange
set_option maxRecDepth 20000 in
theorem ggX6_product_X6_viewOfPresent : GoodIn wsX6_product wsX6_viewOfPresent := goodIn_r _ [18, 19, 20, 21, 22, 23, 24, 25, 26, 27, 28, 29, 30, 31, 32, 33, 34, 35, 36, 37, 38, 39, 40, 41, 42, 43, 44, 8, 3, 9, 45, 46, 47, 48, 49, 50, 51, 52, 53, 54, 55, 56, 57, 58, 59, 60, 61, 62, 63, 64, 65, 66, 67, 68, 69, 70, 71, 72, 73, 74, 75, 76, 77, 78, 79, 80, 81, 82, 83, 84, 85, 86, 87, 88, 89, 90, 91, 92, 93, 94, 95, 96, 97, 98, 99, 100, 101, 102, 103, 104, 105, 106, 107, 108, 109, 110, 111, 112, 113, 114, 115, 116, 117, 118, 119, 120, 130, 131, 132, 133, 134, 135, 136, 137, 138, 139, 140, 141, 142, 143, 144, 145, 146, 147, 148, 149, 150, 151, 152, 153, 154, 155, 156, 157, 158, 159, 160] (by decide +kernel) (by decide +kernel)
set_option maxRecDepth 20000 in
theorem gX6_product_X6_viewOfPresent : GoodIn wsX6_product (wsV RX6 139 RX6 yX6_viewOfPresent wsX6_viewOfPresent) := goodIn_app (goodIn_of _ (by decide +kernel)) ggX6_product_X6_viewOfPresent
set_option maxRecDepth 20000 in
theorem ggX6_product_X5_productNumber : GoodIn wsX6_product wsX5_productNumber := goodIn_r _ [124, 28, 125, 126, 127, 26, 128, 96, 94, 8, 3, 9, 129, 86, 37, 87, 88, 36, 38, 89, 46, 47, 48, 49, 55, 56, 57, 58, 59, 60, 61, 116, 117, 118, 119, 120, 103, 104, 105, 106, 107, 108, 145, 146, 147, 148, 149, 150, 151, 152, 153, 154, 155, 156] (by decide +kernel) (by decide +kernel)
set_option maxRecDepth 20000 in
theorem gX6_product_X5_productNumber : GoodIn wsX6_product (wsV RX6 203 RX5 yX5_productNumber wsX5_productNumber) := goodIn_app (goodIn_of _ (by decide +kernel)) ggX6_product_X5_productNumber
theorem dX6_product_0 : decode cX6_product 0 = .ok (.iload_n 1, 1) := by decide +kernel
theorem dX6_product_1 : decode cX6_product 1 = .ok (.invokestatic 66, 3) := by decide +kernel
theorem dX6_product_4 : decode cX6_product 4 = .ok (.iload_n 2, 1) := by decide +kernel
theorem dX6_product_5 : decode cX6_product 5 = .ok (.iconst 0, 1) := by decide +kernel
theorem dX6_product_6 : decode cX6_product 6 = .ok (.bipush 63, 2) := by decide +kernel
theorem dX6_product_8 : decode cX6_product 8 = .ok (.invokestatic 55, 3) := by decide +kernel
theorem dX6_product_11 : decode cX6_product 11 = .ok (.iload_n 3, 1) := by decide +kernel
theorem dX6_product_12 : decode cX6_product 12 = .ok (.iconst 0, 1) := by decide +kernel
theorem dX6_product_13 : decode cX6_product 13 = .ok (.iconst 3, 1) := by decide +kernel
theorem dX6_product_14 : decode cX6_product 14 = .ok (.invokestatic 55, 3) := by decide +kernel
theorem dX6_product_17 : decode cX6_product 17 = .ok (.aload_n 0, 1) := by decide +kernel
theorem dX6_product_18 : decode cX6_product 18 = .ok (.invokevirtual 139, 3) := by decide +kernel
theorem dX6_product_21 : decode cX6_product 21 = .ok (.iload_n 1, 1) := by decide +kernel
theorem dX6_product_22 : decode cX6_product 22 = .ok (.iload_n 2, 1) := by decide +kernel
theorem dX6_product_23 : decode cX6_product 23 = .ok (.iload_n 3, 1) := by decide +kernel
theorem dX6_product_24 : decode cX6_product 24 = .ok (.invokevirtual 203, 3) := by decide +kernel
theorem dX6_product_27 : decode cX6_product 27 = .ok (.ireturn, 1) := by decide +kernel
set_option maxRecDepth 20000 in
theorem ggX6_count_X6_checkRange : GoodIn wsX6_count wsX6_checkRange := goodIn_ca (goodIn_r _ [4, 5, 6] (by decide +kernel) (by decide +kernel)) (goodIn_sub (fun _ h => List.mem_cons_of_mem _ (List.mem_append_right _ h)) (by decide +kernel))
set_option maxRecDepth 20000 in
theorem gX6_count_X6_checkRange : GoodIn wsX6_count (va_wsS RX6 55 yX6_checkRange wsX6_checkRange) := goodIn_app (goodIn_of _ (by decide +kernel)) ggX6_count_X6_checkRange
set_option maxRecDepth 20000 in
theorem ggX6_count_X6_viewOfPresent : GoodIn wsX6_count wsX6_viewOfPresent := goodIn_r _ [10, 11, 12, 13, 14, 15, 16, 17, 18, 19, 20, 21, 22, 23, 24, 25, 26, 27, 28, 29, 30, 31, 32, 33, 34, 35, 36, 37, 3, 38, 39, 40, 41, 42, 43, 44, 45, 46, 47, 48, 49, 50, 51, 52, 53, 54, 55, 56, 57, 58, 59, 60, 61, 62, 63, 64, 65, 66, 67, 68, 69, 70, 71, 72, 73, 74, 75, 76, 77, 78, 79, 80, 81, 82, 83, 84, 85, 86, 87, 88, 89, 90, 91, 92, 93, 94, 95, 96, 97, 98, 99, 100, 101, 102, 103, 104, 105, 106, 107, 108, 109, 110, 111, 112, 113, 114, 123, 124, 125, 126, 127, 128, 129, 130, 131, 132, 133, 134, 135, 136, 137, 138, 139, 140, 141, 142, 143, 144, 145, 146, 147, 148, 149, 150, 151, 152, 153] (by decide +kernel) (by decide +kernel)
set_option maxRecDepth 20000 in
theorem gX6_count_X6_viewOfPresent : GoodIn wsX6_count (wsV RX6 139 RX6 yX6_viewOfPresent wsX6_viewOfPresent) := goodIn_app (goodIn_of _ (by decide +kernel)) ggX6_count_X6_viewOfPresent
set_option maxRecDepth 20000 in
theorem ggX6_count_X6_mazeNumber : GoodIn wsX6_count wsX6_mazeNumber := goodIn_r _ [118, 13, 119, 120, 121, 34, 122, 123, 124, 125, 126, 127, 128, 129, 130, 131, 132, 133, 134, 135, 136, 137, 138, 139, 140, 141, 142, 143, 144, 145, 146, 147, 148, 149, 154, 155] (by decide +kernel) (by decide +kernel)
set_option maxRecDepth 20000 in
theorem gX6_count_X6_mazeNumber : GoodIn wsX6_count (wsV RX6 207 RX6 yX6_mazeNumber wsX6_mazeNumber) := goodIn_app (goodIn_of _ (by decide +kernel)) ggX6_count_X6_mazeNumber
theorem dX6_count_0 : decode cX6_count 0 = .ok (.iload_n 1, 1) := by decide +kernel
theorem dX6_count_1 : decode cX6_count 1 = .ok (.iconst 0, 1) := by decide +kernel
theorem dX6_count_2 : decode cX6_count 2 = .ok (.bipush 10, 2) := by decide +kernel
theorem dX6_count_4 : decode cX6_count 4 = .ok (.invokestatic 55, 3) := by decide +kernel
theorem dX6_count_7 : decode cX6_count 7 = .ok (.aload_n 0, 1) := by decide +kernel
theorem dX6_count_8 : decode cX6_count 8 = .ok (.aload_n 0, 1) := by decide +kernel
theorem dX6_count_9 : decode cX6_count 9 = .ok (.invokevirtual 139, 3) := by decide +kernel
theorem dX6_count_12 : decode cX6_count 12 = .ok (.iload_n 1, 1) := by decide +kernel
theorem dX6_count_13 : decode cX6_count 13 = .ok (.invokevirtual 207, 3) := by decide +kernel
theorem dX6_count_16 : decode cX6_count 16 = .ok (.ireturn, 1) := by decide +kernel
theorem dX6_isOutput_0 : decode cX6_isOutput 0 = .ok (.iload_n 0, 1) := by decide +kernel
theorem dX6_isOutput_1 : decode cX6_isOutput 1 = .ok (.ifCond .lt 12, 3) := by decide +kernel
theorem dX6_isOutput_4 : decode cX6_isOutput 4 = .ok (.iload_n 0, 1) := by decide +kernel
theorem dX6_isOutput_5 : decode cX6_isOutput 5 = .ok (.iconst 4, 1) := by decide +kernel
theorem dX6_isOutput_6 : decode cX6_isOutput 6 = .ok (.if_icmp .ge 7, 3) := by decide +kernel
theorem dX6_isOutput_9 : decode cX6_isOutput 9 = .ok (.iconst 1, 1) := by decide +kernel
theorem dX6_isOutput_10 : decode cX6_isOutput 10 = .ok (.goto 4, 3) := by decide +kernel
theorem dX6_isOutput_13 : decode cX6_isOutput 13 = .ok (.iconst 0, 1) := by decide +kernel
theorem dX6_isOutput_14 : decode cX6_isOutput 14 = .ok (.ireturn, 1) := by decide +kernel
set_option maxRecDepth 20000 in
theorem ggX6_checkOutput_X6_isOutput : GoodIn wsX6_checkOutput wsX6_isOutput := goodIn_r _ [6] (by decide +kernel) (by decide +kernel)
set_option maxRecDepth 20000 in
theorem gX6_checkOutput_X6_isOutput : GoodIn wsX6_checkOutput (va_wsS RX6 251 yX6_isOutput wsX6_isOutput) := goodIn_app (goodIn_of _ (by decide +kernel)) ggX6_checkOutput_X6_isOutput
theorem dX6_checkOutput_0 : decode cX6_checkOutput 0 = .ok (.iload_n 0, 1) := by decide +kernel
theorem dX6_checkOutput_1 : decode cX6_checkOutput 1 = .ok (.invokestatic 251, 3) := by decide +kernel
theorem dX6_checkOutput_4 : decode cX6_checkOutput 4 = .ok (.ifCond .ne 14, 3) := by decide +kernel
theorem dX6_checkOutput_7 : decode cX6_checkOutput 7 = .ok (.new 254, 3) := by decide +kernel
theorem dX6_checkOutput_10 : decode cX6_checkOutput 10 = .ok (.dup, 1) := by decide +kernel
theorem dX6_checkOutput_11 : decode cX6_checkOutput 11 = .ok (.ldc_w 256, 3) := by decide +kernel
theorem dX6_checkOutput_14 : decode cX6_checkOutput 14 = .ok (.invokespecial 258, 3) := by decide +kernel
theorem dX6_checkOutput_17 : decode cX6_checkOutput 17 = .ok (.athrow, 1) := by decide +kernel
theorem dX6_checkOutput_18 : decode cX6_checkOutput 18 = .ok (.return_, 1) := by decide +kernel
set_option maxRecDepth 20000 in
theorem ggX6_checkRow_X3_rowCount : GoodIn wsX6_checkRow wsX3_rowCount := goodIn_r _ [8, 9, 17, 18, 19, 20, 21, 22, 23, 24] (by decide +kernel) (by decide +kernel)
set_option maxRecDepth 20000 in
theorem gX6_checkRow_X3_rowCount : GoodIn wsX6_checkRow (wsV RX6 259 RX3 yX3_rowCount wsX3_rowCount) := goodIn_app (goodIn_of _ (by decide +kernel)) ggX6_checkRow_X3_rowCount
theorem dX6_checkRow_0 : decode cX6_checkRow 0 = .ok (.iload_n 1, 1) := by decide +kernel
theorem dX6_checkRow_1 : decode cX6_checkRow 1 = .ok (.ifCond .lt 14, 3) := by decide +kernel
theorem dX6_checkRow_4 : decode cX6_checkRow 4 = .ok (.iload_n 1, 1) := by decide +kernel
theorem dX6_checkRow_5 : decode cX6_checkRow 5 = .ok (.aload_n 0, 1) := by decide +kernel
theorem dX6_checkRow_6 : decode cX6_checkRow 6 = .ok (.getfield 10, 3) := by decide +kernel
theorem dX6_checkRow_9 : decode cX6_checkRow 9 = .ok (.invokevirtual 259, 3) := by decide +kernel
theorem dX6_checkRow_12 : decode cX6_checkRow 12 = .ok (.if_icmp .lt 14, 3) := by decide +kernel
theorem dX6_checkRow_15 : decode cX6_checkRow 15 = .ok (.new 254, 3) := by decide +kernel
theorem dX6_checkRow_18 : decode cX6_checkRow 18 = .ok (.dup, 1) := by decide +kernel
theorem dX6_checkRow_19 : decode cX6_checkRow 19 = .ok (.ldc_w 262, 3) := by decide +kernel
theorem dX6_checkRow_22 : decode cX6_checkRow 22 = .ok (.invokespecial 258, 3) := by decide +kernel
theorem dX6_checkRow_25 : decode cX6_checkRow 25 = .ok (.athrow, 1) := by decide +kernel
theorem dX6_checkRow_26 : decode cX6_checkRow 26 = .ok (.return_, 1) := by decide +kernel
theorem dX6_checkInput_0 : decode cX6_checkInput 0 = .ok (.iload_n 1, 1) := by decide +kernel
theorem dX6_checkInput_1 : decode cX6_checkInput 1 = .ok (.ifCond .lt 14, 3) := by decide +kernel
theorem dX6_checkInput_4 : decode cX6_checkInput 4 = .ok (.iload_n 1, 1) := by decide +kernel
theorem dX6_checkInput_5 : decode cX6_checkInput 5 = .ok (.aload_n 0, 1) := by decide +kernel
theorem dX6_checkInput_6 : decode cX6_checkInput 6 = .ok (.getfield 10, 3) := by decide +kernel
theorem dX6_checkInput_9 : decode cX6_checkInput 9 = .ok (.getfield 59, 3) := by decide +kernel
theorem dX6_checkInput_12 : decode cX6_checkInput 12 = .ok (.if_icmp .lt 14, 3) := by decide +kernel
theorem dX6_checkInput_15 : decode cX6_checkInput 15 = .ok (.new 254, 3) := by decide +kernel
theorem dX6_checkInput_18 : decode cX6_checkInput 18 = .ok (.dup, 1) := by decide +kernel
theorem dX6_checkInput_19 : decode cX6_checkInput 19 = .ok (.ldc_w 264, 3) := by decide +kernel
theorem dX6_checkInput_22 : decode cX6_checkInput 22 = .ok (.invokespecial 258, 3) := by decide +kernel
theorem dX6_checkInput_25 : decode cX6_checkInput 25 = .ok (.athrow, 1) := by decide +kernel
theorem dX6_checkInput_26 : decode cX6_checkInput 26 = .ok (.return_, 1) := by decide +kernel
theorem dX6_checkRange_0 : decode cX6_checkRange 0 = .ok (.iload_n 0, 1) := by decide +kernel
theorem dX6_checkRange_1 : decode cX6_checkRange 1 = .ok (.iload_n 1, 1) := by decide +kernel
theorem dX6_checkRange_2 : decode cX6_checkRange 2 = .ok (.if_icmp .lt 8, 3) := by decide +kernel
theorem dX6_checkRange_5 : decode cX6_checkRange 5 = .ok (.iload_n 0, 1) := by decide +kernel
theorem dX6_checkRange_6 : decode cX6_checkRange 6 = .ok (.iload_n 2, 1) := by decide +kernel
theorem dX6_checkRange_7 : decode cX6_checkRange 7 = .ok (.if_icmp .le 14, 3) := by decide +kernel
theorem dX6_checkRange_10 : decode cX6_checkRange 10 = .ok (.new 93, 3) := by decide +kernel
theorem dX6_checkRange_13 : decode cX6_checkRange 13 = .ok (.dup, 1) := by decide +kernel
theorem dX6_checkRange_14 : decode cX6_checkRange 14 = .ok (.ldc_w 266, 3) := by decide +kernel
theorem dX6_checkRange_17 : decode cX6_checkRange 17 = .ok (.invokespecial 97, 3) := by decide +kernel
theorem dX6_checkRange_20 : decode cX6_checkRange 20 = .ok (.athrow, 1) := by decide +kernel
theorem dX6_checkRange_21 : decode cX6_checkRange 21 = .ok (.return_, 1) := by decide +kernel
set_option maxRecDepth 20000 in
theorem ggX6_saveBeforeChange_X0_keep : GoodIn wsX6_saveBeforeChange wsX0_keep := goodIn_r _ [8, 9, 10, 11, 12, 13, 14, 15, 16, 7, 17, 18, 19, 20, 21, 22, 23, 24, 25, 26, 27, 28, 29, 30, 31, 32, 33, 34, 35, 36, 44, 45, 46, 47, 48, 49, 50, 51, 52, 53] (by decide +kernel) (by decide +kernel)
set_option maxRecDepth 20000 in
theorem gX6_saveBeforeChange_X0_keep : GoodIn wsX6_saveBeforeChange (wsV RX6 143 RX0 yX0_keep wsX0_keep) := goodIn_app (goodIn_of _ (by decide +kernel)) ggX6_saveBeforeChange_X0_keep
theorem dX6_saveBeforeChange_0 : decode cX6_saveBeforeChange 0 = .ok (.aload_n 0, 1) := by decide +kernel
theorem dX6_saveBeforeChange_1 : decode cX6_saveBeforeChange 1 = .ok (.getfield 19, 3) := by decide +kernel
theorem dX6_saveBeforeChange_4 : decode cX6_saveBeforeChange 4 = .ok (.aload_n 0, 1) := by decide +kernel
theorem dX6_saveBeforeChange_5 : decode cX6_saveBeforeChange 5 = .ok (.getfield 10, 3) := by decide +kernel
theorem dX6_saveBeforeChange_8 : decode cX6_saveBeforeChange 8 = .ok (.invokevirtual 143, 3) := by decide +kernel
theorem dX6_saveBeforeChange_11 : decode cX6_saveBeforeChange 11 = .ok (.aload_n 0, 1) := by decide +kernel
theorem dX6_saveBeforeChange_12 : decode cX6_saveBeforeChange 12 = .ok (.iconst 1, 1) := by decide +kernel
theorem dX6_saveBeforeChange_13 : decode cX6_saveBeforeChange 13 = .ok (.putfield 47, 3) := by decide +kernel
theorem dX6_saveBeforeChange_16 : decode cX6_saveBeforeChange 16 = .ok (.return_, 1) := by decide +kernel
set_option maxRecDepth 20000 in
theorem ggX6_viewOfPresent_X5_look : GoodIn wsX6_viewOfPresent wsX5_look := goodIn_r _ [9, 10, 11, 12, 13, 14, 15, 16, 17, 18, 19, 20, 21, 22, 23, 24, 25, 26, 27, 28, 29, 30, 31, 32, 33, 34, 35, 36, 37, 38, 39, 40, 41, 42, 43, 44, 45, 46, 47, 48, 49, 50, 51, 52, 53, 54, 55, 56, 57, 58, 59, 60, 61, 62, 63, 64, 65, 66, 67, 68, 69, 70, 71, 72, 73, 74, 75, 76, 77, 8, 78, 79, 80, 81, 82, 83, 84, 85, 86, 87, 88, 89, 90, 91, 92, 93, 94, 95, 96, 97, 98, 99, 100, 101, 102, 103, 104, 105, 113, 114, 115, 116, 117, 118, 119, 120, 121, 122, 123, 124, 125, 126, 127, 128, 129, 130, 131, 132, 133, 134, 135, 136] (by decide +kernel) (by decide +kernel)
set_option maxRecDepth 20000 in
theorem gX6_viewOfPresent_X5_look : GoodIn wsX6_viewOfPresent (wsV RX6 268 RX5 yX5_look wsX5_look) := goodIn_app (goodIn_of _ (by decide +kernel)) ggX6_viewOfPresent_X5_look
theorem dX6_viewOfPresent_0 : decode cX6_viewOfPresent 0 = .ok (.aload_n 0, 1) := by decide +kernel
theorem dX6_viewOfPresent_1 : decode cX6_viewOfPresent 1 = .ok (.getfield 47, 3) := by decide +kernel
theorem dX6_viewOfPresent_4 : decode cX6_viewOfPresent 4 = .ok (.ifCond .eq 30, 3) := by decide +kernel
theorem dX6_viewOfPresent_7 : decode cX6_viewOfPresent 7 = .ok (.aload_n 0, 1) := by decide +kernel
theorem dX6_viewOfPresent_8 : decode cX6_viewOfPresent 8 = .ok (.getfield 40, 3) := by decide +kernel
theorem dX6_viewOfPresent_11 : decode cX6_viewOfPresent 11 = .ok (.aload_n 0, 1) := by decide +kernel
theorem dX6_viewOfPresent_12 : decode cX6_viewOfPresent 12 = .ok (.getfield 10, 3) := by decide +kernel
theorem dX6_viewOfPresent_15 : decode cX6_viewOfPresent 15 = .ok (.aload_n 0, 1) := by decide +kernel
theorem dX6_viewOfPresent_16 : decode cX6_viewOfPresent 16 = .ok (.getfield 10, 3) := by decide +kernel
theorem dX6_viewOfPresent_19 : decode cX6_viewOfPresent 19 = .ok (.getfield 116, 3) := by decide +kernel
theorem dX6_viewOfPresent_22 : decode cX6_viewOfPresent 22 = .ok (.aload_n 0, 1) := by decide +kernel
theorem dX6_viewOfPresent_23 : decode cX6_viewOfPresent 23 = .ok (.getfield 33, 3) := by decide +kernel
theorem dX6_viewOfPresent_26 : decode cX6_viewOfPresent 26 = .ok (.invokevirtual 268, 3) := by decide +kernel
theorem dX6_viewOfPresent_29 : decode cX6_viewOfPresent 29 = .ok (.aload_n 0, 1) := by decide +kernel
theorem dX6_viewOfPresent_30 : decode cX6_viewOfPresent 30 = .ok (.iconst 0, 1) := by decide +kernel
theorem dX6_viewOfPresent_31 : decode cX6_viewOfPresent 31 = .ok (.putfield 47, 3) := by decide +kernel
theorem dX6_viewOfPresent_34 : decode cX6_viewOfPresent 34 = .ok (.aload_n 0, 1) := by decide +kernel
theorem dX6_viewOfPresent_35 : decode cX6_viewOfPresent 35 = .ok (.getfield 40, 3) := by decide +kernel
theorem dX6_viewOfPresent_38 : decode cX6_viewOfPresent 38 = .ok (.areturn, 1) := by decide +kernel
set_option maxRecDepth 20000 in
theorem ggX6_rowNumber_X3_truthAt : GoodIn wsX6_rowNumber wsX3_truthAt := goodIn_r _ [6, 7, 8, 9, 5, 10, 11, 12, 13, 14, 15, 16, 17, 18, 19, 44, 45, 46, 47, 48, 49, 50, 51] (by decide +kernel) (by decide +kernel)
set_option maxRecDepth 20000 in
theorem gX6_rowNumber_X3_truthAt : GoodIn wsX6_rowNumber (wsV RX6 72 RX3 yX3_truthAt wsX3_truthAt) := goodIn_app (goodIn_of _ (by decide +kernel)) ggX6_rowNumber_X3_truthAt
set_option maxRecDepth 20000 in
theorem ggX6_rowNumber_X5_decidedAt : GoodIn wsX6_rowNumber wsX5_decidedAt := goodIn_r _ [24, 25, 26, 27, 12, 13, 14, 52, 53, 54, 55, 56, 57, 58, 59, 60, 61, 62, 63] (by decide +kernel) (by decide +kernel)
set_option maxRecDepth 20000 in
theorem gX6_rowNumber_X5_decidedAt : GoodIn wsX6_rowNumber (wsV RX6 153 RX5 yX5_decidedAt wsX5_decidedAt) := goodIn_app (goodIn_of _ (by decide +kernel)) ggX6_rowNumber_X5_decidedAt
set_option maxRecDepth 20000 in
theorem ggX6_rowNumber_X5_answerAt : GoodIn wsX6_rowNumber wsX5_answerAt := goodIn_r _ [31, 32, 33, 34, 23, 35, 36, 12, 13, 14, 52, 53, 54, 55, 56, 57, 58, 59, 60, 61, 62, 63] (by decide +kernel) (by decide +kernel)
set_option maxRecDepth 20000 in
theorem gX6_rowNumber_X5_answerAt : GoodIn wsX6_rowNumber (wsV RX6 150 RX5 yX5_answerAt wsX5_answerAt) := goodIn_app (goodIn_of _ (by decide +kernel)) ggX6_rowNumber_X5_answerAt
theorem dX6_rowNumber_0 : decode cX6_rowNumber 0 = .ok (.iload 4, 2) := by decide +kernel
theorem dX6_rowNumber_2 : decode cX6_rowNumber 2 = .ok (.lookupswitch 43 #[(0, 26), (1, 36)], 26) := by decide +kernel
theorem dX6_rowNumber_28 : decode cX6_rowNumber 28 = .ok (.aload_n 0, 1) := by decide +kernel
theorem dX6_rowNumber_29 : decode cX6_rowNumber 29 = .ok (.getfield 10, 3) := by decide +kernel
theorem dX6_rowNumber_32 : decode cX6_rowNumber 32 = .ok (.iload_n 2, 1) := by decide +kernel
theorem dX6_rowNumber_33 : decode cX6_rowNumber 33 = .ok (.iload_n 3, 1) := by decide +kernel
theorem dX6_rowNumber_34 : decode cX6_rowNumber 34 = .ok (.invokevirtual 72, 3) := by decide +kernel
theorem dX6_rowNumber_37 : decode cX6_rowNumber 37 = .ok (.ireturn, 1) := by decide +kernel
theorem dX6_rowNumber_38 : decode cX6_rowNumber 38 = .ok (.aload_n 1, 1) := by decide +kernel
theorem dX6_rowNumber_39 : decode cX6_rowNumber 39 = .ok (.iload_n 2, 1) := by decide +kernel
theorem dX6_rowNumber_40 : decode cX6_rowNumber 40 = .ok (.iload_n 3, 1) := by decide +kernel
theorem dX6_rowNumber_41 : decode cX6_rowNumber 41 = .ok (.invokevirtual 153, 3) := by decide +kernel
theorem dX6_rowNumber_44 : decode cX6_rowNumber 44 = .ok (.ireturn, 1) := by decide +kernel
theorem dX6_rowNumber_45 : decode cX6_rowNumber 45 = .ok (.aload_n 1, 1) := by decide +kernel
theorem dX6_rowNumber_46 : decode cX6_rowNumber 46 = .ok (.iload_n 2, 1) := by decide +kernel
theorem dX6_rowNumber_47 : decode cX6_rowNumber 47 = .ok (.iload_n 3, 1) := by decide +kernel
theorem dX6_rowNumber_48 : decode cX6_rowNumber 48 = .ok (.invokevirtual 150, 3) := by decide +kernel
theorem dX6_rowNumber_51 : decode cX6_rowNumber 51 = .ok (.ireturn, 1) := by decide +kernel
set_option maxRecDepth 20000 in
theorem ggX6_outputNumber_X3_onesOf : GoodIn wsX6_outputNumber wsX3_onesOf := goodIn_r _ [6, 7, 8, 9, 10, 81, 82, 83, 84, 85, 86, 87, 88] (by decide +kernel) (by decide +kernel)
set_option maxRecDepth 20000 in
theorem gX6_outputNumber_X3_onesOf : GoodIn wsX6_outputNumber (wsV RX6 83 RX3 yX3_onesOf wsX3_onesOf) := goodIn_app (goodIn_of _ (by decide +kernel)) ggX6_outputNumber_X3_onesOf
set_option maxRecDepth 20000 in
theorem ggX6_outputNumber_J13_bitCount_95d88 : GoodIn wsX6_outputNumber wsJ13_bitCount_95d88 := goodIn_r _ [14, 15, 16, 17] (by decide +kernel) (by decide +kernel)
set_option maxRecDepth 20000 in
theorem gX6_outputNumber_J13_bitCount_95d88 : GoodIn wsX6_outputNumber (va_wsS RX6 87 yJ13_bitCount_95d88 wsJ13_bitCount_95d88) := goodIn_app (goodIn_of _ (by decide +kernel)) ggX6_outputNumber_J13_bitCount_95d88
set_option maxRecDepth 20000 in
theorem ggX6_outputNumber_X3_rowCount : GoodIn wsX6_outputNumber wsX3_rowCount := goodIn_r _ [21, 22, 81, 82, 83, 84, 85, 86, 87, 88] (by decide +kernel) (by decide +kernel)
set_option maxRecDepth 20000 in
theorem gX6_outputNumber_X3_rowCount : GoodIn wsX6_outputNumber (wsV RX6 259 RX3 yX3_rowCount wsX3_rowCount) := goodIn_app (goodIn_of _ (by decide +kernel)) ggX6_outputNumber_X3_rowCount
set_option maxRecDepth 20000 in
theorem ggX6_outputNumber_X3_zerosOf : GoodIn wsX6_outputNumber wsX3_zerosOf := goodIn_r _ [26, 27, 8, 9, 10, 81, 82, 83, 84, 85, 86, 87, 88] (by decide +kernel) (by decide +kernel)
set_option maxRecDepth 20000 in
theorem gX6_outputNumber_X3_zerosOf : GoodIn wsX6_outputNumber (wsV RX6 272 RX3 yX3_zerosOf wsX3_zerosOf) := goodIn_app (goodIn_of _ (by decide +kernel)) ggX6_outputNumber_X3_zerosOf
set_option maxRecDepth 20000 in
theorem ggX6_outputNumber_X3_alarmsOf : GoodIn wsX6_outputNumber wsX3_alarmsOf := goodIn_r _ [31, 32, 8, 9, 10, 81, 82, 83, 84, 85, 86, 87, 88] (by decide +kernel) (by decide +kernel)
set_option maxRecDepth 20000 in
theorem gX6_outputNumber_X3_alarmsOf : GoodIn wsX6_outputNumber (wsV RX6 275 RX3 yX3_alarmsOf wsX3_alarmsOf) := goodIn_app (goodIn_of _ (by decide +kernel)) ggX6_outputNumber_X3_alarmsOf
set_option maxRecDepth 20000 in
theorem ggX6_outputNumber_X3_faultsOf : GoodIn wsX6_outputNumber wsX3_faultsOf := goodIn_r _ [36, 37, 8, 9, 10, 81, 82, 83, 84, 85, 86, 87, 88] (by decide +kernel) (by decide +kernel)
set_option maxRecDepth 20000 in
theorem gX6_outputNumber_X3_faultsOf : GoodIn wsX6_outputNumber (wsV RX6 278 RX3 yX3_faultsOf wsX3_faultsOf) := goodIn_app (goodIn_of _ (by decide +kernel)) ggX6_outputNumber_X3_faultsOf
set_option maxRecDepth 20000 in
theorem ggX6_outputNumber_X5_outputNumber : GoodIn wsX6_outputNumber wsX5_outputNumber := goodIn_r _ [42, 43, 44, 45, 46, 47, 48, 8, 9, 10, 49, 12, 13, 14, 15, 16, 17, 50, 51, 52, 41, 53, 54, 55, 56, 57, 58, 59, 60, 61, 62, 63, 64, 65, 66, 67, 68, 69, 70, 71, 72, 73, 89, 90, 91, 92, 93, 94, 95, 96, 97, 98, 99, 100] (by decide +kernel) (by decide +kernel)
set_option maxRecDepth 20000 in
theorem gX6_outputNumber_X5_outputNumber : GoodIn wsX6_outputNumber (wsV RX6 281 RX5 yX5_outputNumber wsX5_outputNumber) := goodIn_app (goodIn_of _ (by decide +kernel)) ggX6_outputNumber_X5_outputNumber
theorem dX6_outputNumber_0 : decode cX6_outputNumber 0 = .ok (.iload_n 3, 1) := by decide +kernel
theorem dX6_outputNumber_1 : decode cX6_outputNumber 1 = .ok (.tableswitch 114 0 9 #[55, 67, 114, 114, 114, 114, 114, 114, 96, 105], 55) := by decide +kernel
theorem dX6_outputNumber_56 : decode cX6_outputNumber 56 = .ok (.aload_n 0, 1) := by decide +kernel
theorem dX6_outputNumber_57 : decode cX6_outputNumber 57 = .ok (.getfield 10, 3) := by decide +kernel
theorem dX6_outputNumber_60 : decode cX6_outputNumber 60 = .ok (.iload_n 2, 1) := by decide +kernel
theorem dX6_outputNumber_61 : decode cX6_outputNumber 61 = .ok (.invokevirtual 83, 3) := by decide +kernel
theorem dX6_outputNumber_64 : decode cX6_outputNumber 64 = .ok (.invokestatic 87, 3) := by decide +kernel
theorem dX6_outputNumber_67 : decode cX6_outputNumber 67 = .ok (.ireturn, 1) := by decide +kernel
theorem dX6_outputNumber_68 : decode cX6_outputNumber 68 = .ok (.aload_n 0, 1) := by decide +kernel
theorem dX6_outputNumber_69 : decode cX6_outputNumber 69 = .ok (.getfield 10, 3) := by decide +kernel
theorem dX6_outputNumber_72 : decode cX6_outputNumber 72 = .ok (.invokevirtual 259, 3) := by decide +kernel
theorem dX6_outputNumber_75 : decode cX6_outputNumber 75 = .ok (.aload_n 0, 1) := by decide +kernel
theorem dX6_outputNumber_76 : decode cX6_outputNumber 76 = .ok (.getfield 10, 3) := by decide +kernel
theorem dX6_outputNumber_79 : decode cX6_outputNumber 79 = .ok (.iload_n 2, 1) := by decide +kernel
theorem dX6_outputNumber_80 : decode cX6_outputNumber 80 = .ok (.invokevirtual 83, 3) := by decide +kernel
theorem dX6_outputNumber_83 : decode cX6_outputNumber 83 = .ok (.aload_n 0, 1) := by decide +kernel
theorem dX6_outputNumber_84 : decode cX6_outputNumber 84 = .ok (.getfield 10, 3) := by decide +kernel
theorem dX6_outputNumber_87 : decode cX6_outputNumber 87 = .ok (.iload_n 2, 1) := by decide +kernel
theorem dX6_outputNumber_88 : decode cX6_outputNumber 88 = .ok (.invokevirtual 272, 3) := by decide +kernel
theorem dX6_outputNumber_91 : decode cX6_outputNumber 91 = .ok (.lor, 1) := by decide +kernel
theorem dX6_outputNumber_92 : decode cX6_outputNumber 92 = .ok (.invokestatic 87, 3) := by decide +kernel
theorem dX6_outputNumber_95 : decode cX6_outputNumber 95 = .ok (.isub, 1) := by decide +kernel
theorem dX6_outputNumber_96 : decode cX6_outputNumber 96 = .ok (.ireturn, 1) := by decide +kernel
theorem dX6_outputNumber_97 : decode cX6_outputNumber 97 = .ok (.aload_n 0, 1) := by decide +kernel
theorem dX6_outputNumber_98 : decode cX6_outputNumber 98 = .ok (.getfield 10, 3) := by decide +kernel
theorem dX6_outputNumber_101 : decode cX6_outputNumber 101 = .ok (.iload_n 2, 1) := by decide +kernel
theorem dX6_outputNumber_102 : decode cX6_outputNumber 102 = .ok (.invokevirtual 275, 3) := by decide +kernel
theorem dX6_outputNumber_105 : decode cX6_outputNumber 105 = .ok (.ireturn, 1) := by decide +kernel
theorem dX6_outputNumber_106 : decode cX6_outputNumber 106 = .ok (.aload_n 0, 1) := by decide +kernel
theorem dX6_outputNumber_107 : decode cX6_outputNumber 107 = .ok (.getfield 10, 3) := by decide +kernel
theorem dX6_outputNumber_110 : decode cX6_outputNumber 110 = .ok (.iload_n 2, 1) := by decide +kernel
theorem dX6_outputNumber_111 : decode cX6_outputNumber 111 = .ok (.invokevirtual 278, 3) := by decide +kernel
theorem dX6_outputNumber_114 : decode cX6_outputNumber 114 = .ok (.ireturn, 1) := by decide +kernel
theorem dX6_outputNumber_115 : decode cX6_outputNumber 115 = .ok (.aload_n 1, 1) := by decide +kernel
theorem dX6_outputNumber_116 : decode cX6_outputNumber 116 = .ok (.iload_n 2, 1) := by decide +kernel
theorem dX6_outputNumber_117 : decode cX6_outputNumber 117 = .ok (.iload_n 3, 1) := by decide +kernel
theorem dX6_outputNumber_118 : decode cX6_outputNumber 118 = .ok (.invokevirtual 281, 3) := by decide +kernel
theorem dX6_outputNumber_121 : decode cX6_outputNumber 121 = .ok (.ireturn, 1) := by decide +kernel
set_option maxRecDepth 20000 in
theorem ggX6_mazeNumber_X3_sum : GoodIn wsX6_mazeNumber wsX3_sum := goodIn_r _ [6] (by decide +kernel) (by decide +kernel)
set_option maxRecDepth 20000 in
theorem gX6_mazeNumber_X3_sum : GoodIn wsX6_mazeNumber (va_wsS RX6 294 yX3_sum wsX3_sum) := goodIn_app (goodIn_of _ (by decide +kernel)) ggX6_mazeNumber_X3_sum
theorem dX6_mazeNumber_0 : decode cX6_mazeNumber 0 = .ok (.iload_n 2, 1) := by decide +kernel
theorem dX6_mazeNumber_1 : decode cX6_mazeNumber 1 = .ok (.tableswitch 129 0 9 #[55, 63, 71, 76, 81, 86, 91, 99, 110, 121], 55) := by decide +kernel
theorem dX6_mazeNumber_56 : decode cX6_mazeNumber 56 = .ok (.aload_n 0, 1) := by decide +kernel
theorem dX6_mazeNumber_57 : decode cX6_mazeNumber 57 = .ok (.getfield 10, 3) := by decide +kernel
theorem dX6_mazeNumber_60 : decode cX6_mazeNumber 60 = .ok (.getfield 59, 3) := by decide +kernel
theorem dX6_mazeNumber_63 : decode cX6_mazeNumber 63 = .ok (.ireturn, 1) := by decide +kernel
theorem dX6_mazeNumber_64 : decode cX6_mazeNumber 64 = .ok (.aload_n 0, 1) := by decide +kernel
theorem dX6_mazeNumber_65 : decode cX6_mazeNumber 65 = .ok (.getfield 10, 3) := by decide +kernel
theorem dX6_mazeNumber_68 : decode cX6_mazeNumber 68 = .ok (.getfield 116, 3) := by decide +kernel
theorem dX6_mazeNumber_71 : decode cX6_mazeNumber 71 = .ok (.ireturn, 1) := by decide +kernel
theorem dX6_mazeNumber_72 : decode cX6_mazeNumber 72 = .ok (.aload_n 1, 1) := by decide +kernel
theorem dX6_mazeNumber_73 : decode cX6_mazeNumber 73 = .ok (.getfield 283, 3) := by decide +kernel
theorem dX6_mazeNumber_76 : decode cX6_mazeNumber 76 = .ok (.ireturn, 1) := by decide +kernel
theorem dX6_mazeNumber_77 : decode cX6_mazeNumber 77 = .ok (.aload_n 1, 1) := by decide +kernel
theorem dX6_mazeNumber_78 : decode cX6_mazeNumber 78 = .ok (.getfield 285, 3) := by decide +kernel
theorem dX6_mazeNumber_81 : decode cX6_mazeNumber 81 = .ok (.ireturn, 1) := by decide +kernel
theorem dX6_mazeNumber_82 : decode cX6_mazeNumber 82 = .ok (.aload_n 1, 1) := by decide +kernel
theorem dX6_mazeNumber_83 : decode cX6_mazeNumber 83 = .ok (.getfield 288, 3) := by decide +kernel
theorem dX6_mazeNumber_86 : decode cX6_mazeNumber 86 = .ok (.ireturn, 1) := by decide +kernel
theorem dX6_mazeNumber_87 : decode cX6_mazeNumber 87 = .ok (.aload_n 1, 1) := by decide +kernel
theorem dX6_mazeNumber_88 : decode cX6_mazeNumber 88 = .ok (.getfield 291, 3) := by decide +kernel
theorem dX6_mazeNumber_91 : decode cX6_mazeNumber 91 = .ok (.ireturn, 1) := by decide +kernel
theorem dX6_mazeNumber_92 : decode cX6_mazeNumber 92 = .ok (.aload_n 0, 1) := by decide +kernel
theorem dX6_mazeNumber_93 : decode cX6_mazeNumber 93 = .ok (.getfield 10, 3) := by decide +kernel
theorem dX6_mazeNumber_96 : decode cX6_mazeNumber 96 = .ok (.getfield 147, 3) := by decide +kernel
theorem dX6_mazeNumber_99 : decode cX6_mazeNumber 99 = .ok (.ireturn, 1) := by decide +kernel
theorem dX6_mazeNumber_100 : decode cX6_mazeNumber 100 = .ok (.aload_n 0, 1) := by decide +kernel
theorem dX6_mazeNumber_101 : decode cX6_mazeNumber 101 = .ok (.getfield 10, 3) := by decide +kernel
theorem dX6_mazeNumber_104 : decode cX6_mazeNumber 104 = .ok (.getfield 156, 3) := by decide +kernel
theorem dX6_mazeNumber_107 : decode cX6_mazeNumber 107 = .ok (.invokestatic 294, 3) := by decide +kernel
theorem dX6_mazeNumber_110 : decode cX6_mazeNumber 110 = .ok (.ireturn, 1) := by decide +kernel
theorem dX6_mazeNumber_111 : decode cX6_mazeNumber 111 = .ok (.aload_n 0, 1) := by decide +kernel
theorem dX6_mazeNumber_112 : decode cX6_mazeNumber 112 = .ok (.getfield 10, 3) := by decide +kernel
theorem dX6_mazeNumber_115 : decode cX6_mazeNumber 115 = .ok (.getfield 160, 3) := by decide +kernel
theorem dX6_mazeNumber_118 : decode cX6_mazeNumber 118 = .ok (.invokestatic 294, 3) := by decide +kernel
theorem dX6_mazeNumber_121 : decode cX6_mazeNumber 121 = .ok (.ireturn, 1) := by decide +kernel
theorem dX6_mazeNumber_122 : decode cX6_mazeNumber 122 = .ok (.aload_n 0, 1) := by decide +kernel
theorem dX6_mazeNumber_123 : decode cX6_mazeNumber 123 = .ok (.getfield 10, 3) := by decide +kernel
theorem dX6_mazeNumber_126 : decode cX6_mazeNumber 126 = .ok (.getfield 132, 3) := by decide +kernel
theorem dX6_mazeNumber_129 : decode cX6_mazeNumber 129 = .ok (.ireturn, 1) := by decide +kernel
theorem dX6_mazeNumber_130 : decode cX6_mazeNumber 130 = .ok (.aload_n 0, 1) := by decide +kernel
theorem dX6_mazeNumber_131 : decode cX6_mazeNumber 131 = .ok (.getfield 19, 3) := by decide +kernel
theorem dX6_mazeNumber_134 : decode cX6_mazeNumber 134 = .ok (.getfield 192, 3) := by decide +kernel
theorem dX6_mazeNumber_137 : decode cX6_mazeNumber 137 = .ok (.ireturn, 1) := by decide +kernel
