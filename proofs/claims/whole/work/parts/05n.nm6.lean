theorem ggX6_init_X3_init : GoodIn wsX6_init wsX3_init := goodIn_r _ [27, 28, 2, 3, 29, 30, 31, 32, 33, 34, 74, 75, 76, 77, 78, 79, 80, 81] (by decide +kernel) (by decide +kernel)
set_option maxRecDepth 20000 in
theorem gX6_init_X3_init_n9 : GoodIn wsX6_init (wsX3_init) := ggX6_init_X3_init
set_option maxRecDepth 20000 in
theorem ggX6_init_X0_init : GoodIn wsX6_init wsX0_init := goodIn_r _ [36, 37, 2, 3, 38, 39, 89, 90] (by decide +kernel) (by decide +kernel)
set_option maxRecDepth 20000 in
theorem gX6_init_X0_init_n18 : GoodIn wsX6_init (wsX0_init) := ggX6_init_X0_init
set_option maxRecDepth 20000 in
theorem ggX6_init_X4_init : GoodIn wsX6_init wsX4_init := goodIn_r _ [41, 42, 2, 3, 32, 43, 91, 92] (by decide +kernel) (by decide +kernel)
set_option maxRecDepth 20000 in
theorem gX6_init_X4_init_n25 : GoodIn wsX6_init (wsX4_init) := ggX6_init_X4_init
set_option maxRecDepth 20000 in
theorem ggX6_init_X1_init : GoodIn wsX6_init wsX1_init := goodIn_r _ [45, 46, 2, 3, 29, 47, 32, 48, 49, 93, 94, 95, 96] (by decide +kernel) (by decide +kernel)
set_option maxRecDepth 20000 in
theorem gX6_init_X1_init_n32 : GoodIn wsX6_init (wsX1_init) := ggX6_init_X1_init
set_option maxRecDepth 20000 in
theorem ggX6_init_X5_init : GoodIn wsX6_init wsX5_init := goodIn_r _ [51, 52, 2, 3, 29, 53, 54, 55, 56, 32, 57, 58, 59, 97, 98, 99, 100, 101, 102, 103, 104, 105, 106, 107, 108] (by decide +kernel) (by decide +kernel)
set_option maxRecDepth 20000 in
theorem gX6_init_X5_init_n39 : GoodIn wsX6_init (wsX5_init) := ggX6_init_X5_init
set_option maxRecDepth 20000 in
theorem ggX6_init_X3_restart : GoodIn wsX6_init wsX3_restart := goodIn_r _ [63, 64, 65, 30, 31, 66, 67, 68, 69, 70, 71, 72, 73, 74, 75, 76, 77, 78, 79, 80, 81] (by decide +kernel) (by decide +kernel)
set_option maxRecDepth 20000 in
theorem gX6_init_X3_restart : GoodIn wsX6_init (wsV RX6 51 RX3 yX3_restart wsX3_restart) := goodIn_app (goodIn_of _ (by decide +kernel)) ggX6_init_X3_restart
theorem dX6_init_0 : decode cX6_init 0 = .ok (.aload_n 0, 1) := by decide +kernel
theorem dX6_init_1 : decode cX6_init 1 = .ok (.invokespecial 1, 3) := by decide +kernel
theorem dX6_init_4 : decode cX6_init 4 = .ok (.aload_n 0, 1) := by decide +kernel
theorem dX6_init_5 : decode cX6_init 5 = .ok (.new 7, 3) := by decide +kernel
theorem dX6_init_8 : decode cX6_init 8 = .ok (.dup, 1) := by decide +kernel
theorem dX6_init_9 : decode cX6_init 9 = .ok (.invokespecial 9, 3) := by decide +kernel
theorem dX6_init_12 : decode cX6_init 12 = .ok (.putfield 10, 3) := by decide +kernel
theorem dX6_init_15 : decode cX6_init 15 = .ok (.aload_n 0, 1) := by decide +kernel
theorem dX6_init_16 : decode cX6_init 16 = .ok (.new 16, 3) := by decide +kernel
theorem dX6_init_19 : decode cX6_init 19 = .ok (.dup, 1) := by decide +kernel
theorem dX6_init_20 : decode cX6_init 20 = .ok (.invokespecial 18, 3) := by decide +kernel
theorem dX6_init_23 : decode cX6_init 23 = .ok (.putfield 19, 3) := by decide +kernel
theorem dX6_init_26 : decode cX6_init 26 = .ok (.aload_n 0, 1) := by decide +kernel
theorem dX6_init_27 : decode cX6_init 27 = .ok (.new 23, 3) := by decide +kernel
theorem dX6_init_30 : decode cX6_init 30 = .ok (.dup, 1) := by decide +kernel
theorem dX6_init_31 : decode cX6_init 31 = .ok (.invokespecial 25, 3) := by decide +kernel
theorem dX6_init_34 : decode cX6_init 34 = .ok (.putfield 26, 3) := by decide +kernel
theorem dX6_init_37 : decode cX6_init 37 = .ok (.aload_n 0, 1) := by decide +kernel
theorem dX6_init_38 : decode cX6_init 38 = .ok (.new 30, 3) := by decide +kernel
theorem dX6_init_41 : decode cX6_init 41 = .ok (.dup, 1) := by decide +kernel
theorem dX6_init_42 : decode cX6_init 42 = .ok (.invokespecial 32, 3) := by decide +kernel
theorem dX6_init_45 : decode cX6_init 45 = .ok (.putfield 33, 3) := by decide +kernel
theorem dX6_init_48 : decode cX6_init 48 = .ok (.aload_n 0, 1) := by decide +kernel
theorem dX6_init_49 : decode cX6_init 49 = .ok (.new 37, 3) := by decide +kernel
theorem dX6_init_52 : decode cX6_init 52 = .ok (.dup, 1) := by decide +kernel
theorem dX6_init_53 : decode cX6_init 53 = .ok (.invokespecial 39, 3) := by decide +kernel
theorem dX6_init_56 : decode cX6_init 56 = .ok (.putfield 40, 3) := by decide +kernel
theorem dX6_init_59 : decode cX6_init 59 = .ok (.aload_n 0, 1) := by decide +kernel
theorem dX6_init_60 : decode cX6_init 60 = .ok (.new 37, 3) := by decide +kernel
theorem dX6_init_63 : decode cX6_init 63 = .ok (.dup, 1) := by decide +kernel
theorem dX6_init_64 : decode cX6_init 64 = .ok (.invokespecial 39, 3) := by decide +kernel
theorem dX6_init_67 : decode cX6_init 67 = .ok (.putfield 44, 3) := by decide +kernel
theorem dX6_init_70 : decode cX6_init 70 = .ok (.aload_n 0, 1) := by decide +kernel
theorem dX6_init_71 : decode cX6_init 71 = .ok (.iconst 1, 1) := by decide +kernel
theorem dX6_init_72 : decode cX6_init 72 = .ok (.putfield 47, 3) := by decide +kernel
theorem dX6_init_75 : decode cX6_init 75 = .ok (.aload_n 0, 1) := by decide +kernel
theorem dX6_init_76 : decode cX6_init 76 = .ok (.getfield 10, 3) := by decide +kernel
theorem dX6_init_79 : decode cX6_init 79 = .ok (.iconst 4, 1) := by decide +kernel
theorem dX6_init_80 : decode cX6_init 80 = .ok (.invokevirtual 51, 3) := by decide +kernel
theorem dX6_init_83 : decode cX6_init 83 = .ok (.return_, 1) := by decide +kernel
set_option maxRecDepth 20000 in
theorem ggX6_begin_X6_checkRange : GoodIn wsX6_begin wsX6_checkRange := goodIn_ca (goodIn_r _ [5, 6, 7] (by decide +kernel) (by decide +kernel)) (goodIn_sub (fun _ h => List.mem_cons_of_mem _ (List.mem_append_right _ h)) (by decide +kernel))
set_option maxRecDepth 20000 in
theorem gX6_begin_X6_checkRange : GoodIn wsX6_begin (va_wsS RX6 55 yX6_checkRange wsX6_checkRange) := goodIn_app (goodIn_of _ (by decide +kernel)) ggX6_begin_X6_checkRange
set_option maxRecDepth 20000 in
theorem ggX6_begin_X6_saveBeforeChange : GoodIn wsX6_begin wsX6_saveBeforeChange := goodIn_r _ [11, 12, 1, 13, 14, 15, 16, 17, 18, 19, 20, 21, 22, 23, 24, 25, 26, 27, 28, 29, 30, 31, 32, 33, 34, 35, 36, 37, 38, 39, 40, 41, 42, 43, 44, 45, 46, 59, 60, 61, 62, 63, 64, 65, 74, 75, 66, 67, 68, 69, 70, 71, 72, 73] (by decide +kernel) (by decide +kernel)
set_option maxRecDepth 20000 in
theorem gX6_begin_X6_saveBeforeChange : GoodIn wsX6_begin (wsV RX6 63 RX6 yX6_saveBeforeChange wsX6_saveBeforeChange) := goodIn_app (goodIn_of _ (by decide +kernel)) ggX6_begin_X6_saveBeforeChange
set_option maxRecDepth 20000 in
theorem ggX6_begin_X3_restart : GoodIn wsX6_begin wsX3_restart := goodIn_r _ [50, 43, 44, 34, 35, 51, 52, 53, 54, 55, 56, 57, 58, 66, 67, 68, 69, 70, 71, 72, 73] (by decide +kernel) (by decide +kernel)
set_option maxRecDepth 20000 in
theorem gX6_begin_X3_restart : GoodIn wsX6_begin (wsV RX6 51 RX3 yX3_restart wsX3_restart) := goodIn_app (goodIn_of _ (by decide +kernel)) ggX6_begin_X3_restart
theorem dX6_begin_0 : decode cX6_begin 0 = .ok (.iload_n 1, 1) := by decide +kernel
theorem dX6_begin_1 : decode cX6_begin 1 = .ok (.iconst 1, 1) := by decide +kernel
theorem dX6_begin_2 : decode cX6_begin 2 = .ok (.bipush 6, 2) := by decide +kernel
theorem dX6_begin_4 : decode cX6_begin 4 = .ok (.invokestatic 55, 3) := by decide +kernel
theorem dX6_begin_7 : decode cX6_begin 7 = .ok (.aload_n 0, 1) := by decide +kernel
theorem dX6_begin_8 : decode cX6_begin 8 = .ok (.getfield 10, 3) := by decide +kernel
theorem dX6_begin_11 : decode cX6_begin 11 = .ok (.getfield 59, 3) := by decide +kernel
theorem dX6_begin_14 : decode cX6_begin 14 = .ok (.istore_n 2, 1) := by decide +kernel
theorem dX6_begin_15 : decode cX6_begin 15 = .ok (.aload_n 0, 1) := by decide +kernel
theorem dX6_begin_16 : decode cX6_begin 16 = .ok (.invokevirtual 63, 3) := by decide +kernel
theorem dX6_begin_19 : decode cX6_begin 19 = .ok (.aload_n 0, 1) := by decide +kernel
theorem dX6_begin_20 : decode cX6_begin 20 = .ok (.getfield 10, 3) := by decide +kernel
theorem dX6_begin_23 : decode cX6_begin 23 = .ok (.iload_n 1, 1) := by decide +kernel
theorem dX6_begin_24 : decode cX6_begin 24 = .ok (.invokevirtual 51, 3) := by decide +kernel
theorem dX6_begin_27 : decode cX6_begin 27 = .ok (.iload_n 2, 1) := by decide +kernel
theorem dX6_begin_28 : decode cX6_begin 28 = .ok (.ireturn, 1) := by decide +kernel
set_option maxRecDepth 20000 in
theorem ggX6_set_X6_checkOutput : GoodIn wsX6_set wsX6_checkOutput := goodIn_ca (goodIn_r _ [5, 6, 7, 8, 9, 4, 10] (by decide +kernel) (by decide +kernel)) (goodIn_sub (fun _ h => List.mem_cons_of_mem _ (List.mem_append_left _ (List.mem_append_right _ h))) (by decide +kernel))
set_option maxRecDepth 20000 in
theorem gX6_set_X6_checkOutput : GoodIn wsX6_set (va_wsS RX6 66 yX6_checkOutput wsX6_checkOutput) := goodIn_app (goodIn_of _ (by decide +kernel)) ggX6_set_X6_checkOutput
set_option maxRecDepth 20000 in
theorem ggX6_set_X6_checkRow : GoodIn wsX6_set wsX6_checkRow := goodIn_ca (goodIn_r _ [14, 6, 7, 1, 15, 16, 17, 18, 19, 20, 80, 81, 82, 83, 84, 85, 86, 87, 88, 89, 90, 91, 92, 93, 94] (by decide +kernel) (by decide +kernel)) (goodIn_sub (fun _ h => List.mem_cons_of_mem _ (List.mem_append_left _ (List.mem_append_right _ h))) (by decide +kernel))
set_option maxRecDepth 20000 in
theorem gX6_set_X6_checkRow : GoodIn wsX6_set (wsV RX6 69 RX6 yX6_checkRow wsX6_checkRow) := goodIn_app (goodIn_of _ (by decide +kernel)) ggX6_set_X6_checkRow
set_option maxRecDepth 20000 in
theorem ggX6_set_X6_checkRange : GoodIn wsX6_set wsX6_checkRange := goodIn_ca (goodIn_r _ [23, 24, 25] (by decide +kernel) (by decide +kernel)) (goodIn_sub (fun _ h => List.mem_cons_of_mem _ (List.mem_append_right _ h)) (by decide +kernel))
set_option maxRecDepth 20000 in
theorem gX6_set_X6_checkRange : GoodIn wsX6_set (va_wsS RX6 55 yX6_checkRange wsX6_checkRange) := goodIn_app (goodIn_of _ (by decide +kernel)) ggX6_set_X6_checkRange
set_option maxRecDepth 20000 in
theorem ggX6_set_X3_truthAt : GoodIn wsX6_set wsX3_truthAt := goodIn_r _ [29, 30, 31, 32, 18, 33, 34, 9, 4, 10, 35, 36, 37, 38, 39, 87, 88, 89, 90, 91, 92, 93, 94] (by decide +kernel) (by decide +kernel)
set_option maxRecDepth 20000 in
theorem gX6_set_X3_truthAt : GoodIn wsX6_set (wsV RX6 72 RX3 yX3_truthAt wsX3_truthAt) := goodIn_app (goodIn_of _ (by decide +kernel)) ggX6_set_X3_truthAt
set_option maxRecDepth 20000 in
theorem ggX6_set_X6_saveBeforeChange : GoodIn wsX6_set wsX6_saveBeforeChange := goodIn_r _ [43, 44, 1, 45, 46, 47, 48, 49, 50, 51, 52, 53, 54, 18, 55, 56, 57, 58, 59, 60, 61, 62, 63, 64, 39, 34, 65, 66, 67, 68, 69, 70, 71, 20, 72, 73, 74, 80, 81, 82, 83, 84, 85, 86, 95, 96, 87, 88, 89, 90, 91, 92, 93, 94] (by decide +kernel) (by decide +kernel)
set_option maxRecDepth 20000 in
theorem gX6_set_X6_saveBeforeChange : GoodIn wsX6_set (wsV RX6 63 RX6 yX6_saveBeforeChange wsX6_saveBeforeChange) := goodIn_app (goodIn_of _ (by decide +kernel)) ggX6_set_X6_saveBeforeChange
set_option maxRecDepth 20000 in
theorem ggX6_set_X3_give : GoodIn wsX6_set wsX3_give := goodIn_r _ [78, 39, 79, 34, 9, 4, 10, 87, 88, 89, 90, 91, 92, 93, 94] (by decide +kernel) (by decide +kernel)
set_option maxRecDepth 20000 in
theorem gX6_set_X3_give : GoodIn wsX6_set (wsV RX6 76 RX3 yX3_give wsX3_give) := goodIn_app (goodIn_of _ (by decide +kernel)) ggX6_set_X3_give
theorem dX6_set_0 : decode cX6_set 0 = .ok (.iload_n 1, 1) := by decide +kernel
theorem dX6_set_1 : decode cX6_set 1 = .ok (.invokestatic 66, 3) := by decide +kernel
theorem dX6_set_4 : decode cX6_set 4 = .ok (.aload_n 0, 1) := by decide +kernel
theorem dX6_set_5 : decode cX6_set 5 = .ok (.iload_n 2, 1) := by decide +kernel
theorem dX6_set_6 : decode cX6_set 6 = .ok (.invokevirtual 69, 3) := by decide +kernel
theorem dX6_set_9 : decode cX6_set 9 = .ok (.iload_n 3, 1) := by decide +kernel
theorem dX6_set_10 : decode cX6_set 10 = .ok (.iconst 0, 1) := by decide +kernel
theorem dX6_set_11 : decode cX6_set 11 = .ok (.iconst 2, 1) := by decide +kernel
theorem dX6_set_12 : decode cX6_set 12 = .ok (.invokestatic 55, 3) := by decide +kernel
theorem dX6_set_15 : decode cX6_set 15 = .ok (.aload_n 0, 1) := by decide +kernel
theorem dX6_set_16 : decode cX6_set 16 = .ok (.getfield 10, 3) := by decide +kernel
theorem dX6_set_19 : decode cX6_set 19 = .ok (.iload_n 1, 1) := by decide +kernel
theorem dX6_set_20 : decode cX6_set 20 = .ok (.iload_n 2, 1) := by decide +kernel
theorem dX6_set_21 : decode cX6_set 21 = .ok (.invokevirtual 72, 3) := by decide +kernel
theorem dX6_set_24 : decode cX6_set 24 = .ok (.istore 4, 2) := by decide +kernel
theorem dX6_set_26 : decode cX6_set 26 = .ok (.aload_n 0, 1) := by decide +kernel
theorem dX6_set_27 : decode cX6_set 27 = .ok (.invokevirtual 63, 3) := by decide +kernel
theorem dX6_set_30 : decode cX6_set 30 = .ok (.aload_n 0, 1) := by decide +kernel
theorem dX6_set_31 : decode cX6_set 31 = .ok (.getfield 10, 3) := by decide +kernel
theorem dX6_set_34 : decode cX6_set 34 = .ok (.iload_n 1, 1) := by decide +kernel
theorem dX6_set_35 : decode cX6_set 35 = .ok (.lconst 1, 1) := by decide +kernel
theorem dX6_set_36 : decode cX6_set 36 = .ok (.iload_n 2, 1) := by decide +kernel
theorem dX6_set_37 : decode cX6_set 37 = .ok (.lshl, 1) := by decide +kernel
theorem dX6_set_38 : decode cX6_set 38 = .ok (.iload_n 3, 1) := by decide +kernel
theorem dX6_set_39 : decode cX6_set 39 = .ok (.invokevirtual 76, 3) := by decide +kernel
theorem dX6_set_42 : decode cX6_set 42 = .ok (.iload 4, 2) := by decide +kernel
theorem dX6_set_44 : decode cX6_set 44 = .ok (.ireturn, 1) := by decide +kernel
set_option maxRecDepth 20000 in
theorem ggX6_invert_X6_checkOutput : GoodIn wsX6_invert wsX6_checkOutput := goodIn_ca (goodIn_r _ [5, 6, 7, 8, 9, 4, 10] (by decide +kernel) (by decide +kernel)) (goodIn_sub (fun _ h => List.mem_cons_of_mem _ (List.mem_append_right _ h)) (by decide +kernel))
set_option maxRecDepth 20000 in
theorem gX6_invert_X6_checkOutput : GoodIn wsX6_invert (va_wsS RX6 66 yX6_checkOutput wsX6_checkOutput) := goodIn_app (goodIn_of _ (by decide +kernel)) ggX6_invert_X6_checkOutput
set_option maxRecDepth 20000 in
theorem ggX6_invert_X6_saveBeforeChange : GoodIn wsX6_invert wsX6_saveBeforeChange := goodIn_r _ [14, 15, 1, 16, 17, 18, 19, 20, 21, 22, 23, 24, 25, 26, 27, 28, 29, 30, 31, 32, 33, 34, 35, 36, 37, 38, 39, 40, 41, 42, 43, 44, 45, 46, 47, 48, 49, 65, 66, 67, 68, 69, 70, 71, 72, 73, 74, 75, 76, 77, 78, 79, 80, 81] (by decide +kernel) (by decide +kernel)
set_option maxRecDepth 20000 in
theorem gX6_invert_X6_saveBeforeChange : GoodIn wsX6_invert (wsV RX6 63 RX6 yX6_saveBeforeChange wsX6_saveBeforeChange) := goodIn_app (goodIn_of _ (by decide +kernel)) ggX6_invert_X6_saveBeforeChange
set_option maxRecDepth 20000 in
theorem ggX6_invert_X3_turnAround : GoodIn wsX6_invert wsX3_turnAround := goodIn_r _ [53, 38, 37, 9, 4, 10, 74, 75, 76, 77, 78, 79, 80, 81] (by decide +kernel) (by decide +kernel)
set_option maxRecDepth 20000 in
theorem gX6_invert_X3_turnAround : GoodIn wsX6_invert (wsV RX6 80 RX3 yX3_turnAround wsX3_turnAround) := goodIn_app (goodIn_of _ (by decide +kernel)) ggX6_invert_X3_turnAround
set_option maxRecDepth 20000 in
theorem ggX6_invert_X3_onesOf : GoodIn wsX6_invert wsX3_onesOf := goodIn_r _ [57, 38, 9, 4, 10, 74, 75, 76, 77, 78, 79, 80, 81] (by decide +kernel) (by decide +kernel)
set_option maxRecDepth 20000 in
theorem gX6_invert_X3_onesOf : GoodIn wsX6_invert (wsV RX6 83 RX3 yX3_onesOf wsX3_onesOf) := goodIn_app (goodIn_of _ (by decide +kernel)) ggX6_invert_X3_onesOf
set_option maxRecDepth 20000 in
theorem ggX6_invert_J13_bitCount_95d88 : GoodIn wsX6_invert wsJ13_bitCount_95d88 := goodIn_r _ [61, 62, 63, 64] (by decide +kernel) (by decide +kernel)
set_option maxRecDepth 20000 in
theorem gX6_invert_J13_bitCount_95d88 : GoodIn wsX6_invert (va_wsS RX6 87 yJ13_bitCount_95d88 wsJ13_bitCount_95d88) := goodIn_app (goodIn_of _ (by decide +kernel)) ggX6_invert_J13_bitCount_95d88
theorem dX6_invert_0 : decode cX6_invert 0 = .ok (.iload_n 1, 1) := by decide +kernel
theorem dX6_invert_1 : decode cX6_invert 1 = .ok (.invokestatic 66, 3) := by decide +kernel
theorem dX6_invert_4 : decode cX6_invert 4 = .ok (.aload_n 0, 1) := by decide +kernel
theorem dX6_invert_5 : decode cX6_invert 5 = .ok (.invokevirtual 63, 3) := by decide +kernel
theorem dX6_invert_8 : decode cX6_invert 8 = .ok (.aload_n 0, 1) := by decide +kernel
theorem dX6_invert_9 : decode cX6_invert 9 = .ok (.getfield 10, 3) := by decide +kernel
theorem dX6_invert_12 : decode cX6_invert 12 = .ok (.iload_n 1, 1) := by decide +kernel
theorem dX6_invert_13 : decode cX6_invert 13 = .ok (.invokevirtual 80, 3) := by decide +kernel
theorem dX6_invert_16 : decode cX6_invert 16 = .ok (.aload_n 0, 1) := by decide +kernel
theorem dX6_invert_17 : decode cX6_invert 17 = .ok (.getfield 10, 3) := by decide +kernel
theorem dX6_invert_20 : decode cX6_invert 20 = .ok (.iload_n 1, 1) := by decide +kernel
theorem dX6_invert_21 : decode cX6_invert 21 = .ok (.invokevirtual 83, 3) := by decide +kernel
theorem dX6_invert_24 : decode cX6_invert 24 = .ok (.invokestatic 87, 3) := by decide +kernel
theorem dX6_invert_27 : decode cX6_invert 27 = .ok (.ireturn, 1) := by decide +kernel
set_option maxRecDepth 20000 in
theorem ggX6_join_X6_checkOutput : GoodIn wsX6_join wsX6_checkOutput := goodIn_ca (goodIn_r _ [7, 8, 9, 10, 11, 6, 12] (by decide +kernel) (by decide +kernel)) (goodIn_sub (fun _ h => List.mem_cons_of_mem _ (List.mem_append_right _ h)) (by decide +kernel))
set_option maxRecDepth 20000 in
theorem gX6_join_X6_checkOutput : GoodIn wsX6_join (va_wsS RX6 66 yX6_checkOutput wsX6_checkOutput) := goodIn_app (goodIn_of _ (by decide +kernel)) ggX6_join_X6_checkOutput
set_option maxRecDepth 20000 in
theorem ggX6_join_X6_saveBeforeChange : GoodIn wsX6_join wsX6_saveBeforeChange := goodIn_r _ [16, 17, 3, 18, 19, 20, 21, 22, 23, 24, 25, 26, 27, 28, 29, 30, 31, 32, 33, 34, 35, 36, 37, 38, 39, 40, 41, 42, 43, 44, 45, 46, 47, 48, 49, 50, 51, 72, 73, 74, 75, 76, 77, 78, 79, 80, 81, 82, 83, 84, 85, 86, 87, 88] (by decide +kernel) (by decide +kernel)
set_option maxRecDepth 20000 in
theorem gX6_join_X6_saveBeforeChange : GoodIn wsX6_join (wsV RX6 63 RX6 yX6_saveBeforeChange wsX6_saveBeforeChange) := goodIn_app (goodIn_of _ (by decide +kernel)) ggX6_join_X6_saveBeforeChange
set_option maxRecDepth 20000 in
theorem ggX6_join_X3_takeIn : GoodIn wsX6_join wsX3_takeIn := goodIn_r _ [55, 40, 39, 11, 6, 12, 56, 57, 58, 28, 59, 60, 61, 62, 63, 81, 82, 83, 84, 85, 86, 87, 88] (by decide +kernel) (by decide +kernel)
set_option maxRecDepth 20000 in
theorem gX6_join_X3_takeIn : GoodIn wsX6_join (wsV RX6 100 RX3 yX3_takeIn wsX3_takeIn) := goodIn_app (goodIn_of _ (by decide +kernel)) ggX6_join_X3_takeIn
set_option maxRecDepth 20000 in
theorem ggX6_join_X3_onesOf : GoodIn wsX6_join wsX3_onesOf := goodIn_r _ [59, 40, 11, 6, 12, 81, 82, 83, 84, 85, 86, 87, 88] (by decide +kernel) (by decide +kernel)
set_option maxRecDepth 20000 in
theorem gX6_join_X3_onesOf : GoodIn wsX6_join (wsV RX6 83 RX3 yX3_onesOf wsX3_onesOf) := goodIn_app (goodIn_of _ (by decide +kernel)) ggX6_join_X3_onesOf
set_option maxRecDepth 20000 in
theorem ggX6_join_J13_bitCount_95d88 : GoodIn wsX6_join wsJ13_bitCount_95d88 := goodIn_r _ [68, 69, 70, 71] (by decide +kernel) (by decide +kernel)
set_option maxRecDepth 20000 in
theorem gX6_join_J13_bitCount_95d88 : GoodIn wsX6_join (va_wsS RX6 87 yJ13_bitCount_95d88 wsJ13_bitCount_95d88) := goodIn_app (goodIn_of _ (by decide +kernel)) ggX6_join_J13_bitCount_95d88
theorem dX6_join_0 : decode cX6_join 0 = .ok (.iload_n 1, 1) := by decide +kernel
theorem dX6_join_1 : decode cX6_join 1 = .ok (.invokestatic 66, 3) := by decide +kernel
theorem dX6_join_4 : decode cX6_join 4 = .ok (.iload_n 2, 1) := by decide +kernel
theorem dX6_join_5 : decode cX6_join 5 = .ok (.invokestatic 66, 3) := by decide +kernel
theorem dX6_join_8 : decode cX6_join 8 = .ok (.iload_n 1, 1) := by decide +kernel
theorem dX6_join_9 : decode cX6_join 9 = .ok (.iload_n 2, 1) := by decide +kernel
theorem dX6_join_10 : decode cX6_join 10 = .ok (.if_icmp .ne 13, 3) := by decide +kernel
theorem dX6_join_13 : decode cX6_join 13 = .ok (.new 93, 3) := by decide +kernel
theorem dX6_join_16 : decode cX6_join 16 = .ok (.dup, 1) := by decide +kernel
theorem dX6_join_17 : decode cX6_join 17 = .ok (.ldc 95, 2) := by decide +kernel
theorem dX6_join_19 : decode cX6_join 19 = .ok (.invokespecial 97, 3) := by decide +kernel
theorem dX6_join_22 : decode cX6_join 22 = .ok (.athrow, 1) := by decide +kernel
theorem dX6_join_23 : decode cX6_join 23 = .ok (.aload_n 0, 1) := by decide +kernel
theorem dX6_join_24 : decode cX6_join 24 = .ok (.invokevirtual 63, 3) := by decide +kernel
theorem dX6_join_27 : decode cX6_join 27 = .ok (.aload_n 0, 1) := by decide +kernel
theorem dX6_join_28 : decode cX6_join 28 = .ok (.getfield 10, 3) := by decide +kernel
theorem dX6_join_31 : decode cX6_join 31 = .ok (.iload_n 1, 1) := by decide +kernel
theorem dX6_join_32 : decode cX6_join 32 = .ok (.iload_n 2, 1) := by decide +kernel
theorem dX6_join_33 : decode cX6_join 33 = .ok (.invokevirtual 100, 3) := by decide +kernel
theorem dX6_join_36 : decode cX6_join 36 = .ok (.aload_n 0, 1) := by decide +kernel
theorem dX6_join_37 : decode cX6_join 37 = .ok (.getfield 10, 3) := by decide +kernel
theorem dX6_join_40 : decode cX6_join 40 = .ok (.iload_n 1, 1) := by decide +kernel
theorem dX6_join_41 : decode cX6_join 41 = .ok (.invokevirtual 83, 3) := by decide +kernel
theorem dX6_join_44 : decode cX6_join 44 = .ok (.invokestatic 87, 3) := by decide +kernel
theorem dX6_join_47 : decode cX6_join 47 = .ok (.ireturn, 1) := by decide +kernel
set_option maxRecDepth 20000 in
theorem ggX6_forget_X6_checkInput : GoodIn wsX6_forget wsX6_checkInput := goodIn_ca (goodIn_r _ [8, 9, 10, 3, 78, 79, 80, 81, 82, 83, 84, 85, 86, 87, 88, 89, 90, 91, 92] (by decide +kernel) (by decide +kernel)) (goodIn_sub (fun _ h => List.mem_cons_of_mem _ (List.mem_append_right _ h)) (by decide +kernel))
set_option maxRecDepth 20000 in
theorem gX6_forget_X6_checkInput : GoodIn wsX6_forget (wsV RX6 104 RX6 yX6_checkInput wsX6_checkInput) := goodIn_app (goodIn_of _ (by decide +kernel)) ggX6_forget_X6_checkInput
set_option maxRecDepth 20000 in
theorem ggX6_forget_X3_remembers : GoodIn wsX6_forget wsX3_remembers := goodIn_r _ [15, 16, 85, 86, 87, 88, 89, 90, 91, 92] (by decide +kernel) (by decide +kernel)
set_option maxRecDepth 20000 in
theorem gX6_forget_X3_remembers : GoodIn wsX6_forget (wsV RX6 107 RX3 yX3_remembers wsX3_remembers) := goodIn_app (goodIn_of _ (by decide +kernel)) ggX6_forget_X3_remembers
set_option maxRecDepth 20000 in
theorem ggX6_forget_X6_saveBeforeChange : GoodIn wsX6_forget wsX6_saveBeforeChange := goodIn_r _ [20, 21, 3, 22, 23, 24, 25, 26, 27, 28, 29, 30, 31, 14, 32, 33, 34, 35, 36, 37, 38, 39, 40, 41, 42, 43, 44, 45, 46, 47, 48, 49, 50, 51, 16, 52, 53, 78, 79, 80, 81, 82, 83, 84, 93, 94, 85, 86, 87, 88, 89, 90, 91, 92] (by decide +kernel) (by decide +kernel)
set_option maxRecDepth 20000 in
theorem gX6_forget_X6_saveBeforeChange : GoodIn wsX6_forget (wsV RX6 63 RX6 yX6_saveBeforeChange wsX6_saveBeforeChange) := goodIn_app (goodIn_of _ (by decide +kernel)) ggX6_forget_X6_saveBeforeChange
set_option maxRecDepth 20000 in
theorem ggX6_forget_X3_forgotten : GoodIn wsX6_forget wsX3_forgotten := goodIn_r _ [57, 51, 16, 58, 59, 60, 61, 85, 86, 87, 88, 89, 90, 91, 92] (by decide +kernel) (by decide +kernel)
set_option maxRecDepth 20000 in
theorem gX6_forget_X3_forgotten : GoodIn wsX6_forget (wsV RX6 119 RX3 yX3_forgotten wsX3_forgotten) := goodIn_app (goodIn_of _ (by decide +kernel)) ggX6_forget_X3_forgotten
set_option maxRecDepth 20000 in
theorem ggX6_forget_X3_undecidedPairs : GoodIn wsX6_forget wsX3_undecidedPairs := goodIn_r _ [65, 43, 42, 66, 67, 60, 68, 69, 70, 71, 72, 73, 74, 75, 76, 77, 85, 86, 87, 88, 89, 90, 91, 92] (by decide +kernel) (by decide +kernel)
set_option maxRecDepth 20000 in
theorem gX6_forget_X3_undecidedPairs : GoodIn wsX6_forget (wsV RX6 123 RX3 yX3_undecidedPairs wsX3_undecidedPairs) := goodIn_app (goodIn_of _ (by decide +kernel)) ggX6_forget_X3_undecidedPairs
theorem dX6_forget_0 : decode cX6_forget 0 = .ok (.aload_n 0, 1) := by decide +kernel
theorem dX6_forget_1 : decode cX6_forget 1 = .ok (.iload_n 1, 1) := by decide +kernel
theorem dX6_forget_2 : decode cX6_forget 2 = .ok (.invokevirtual 104, 3) := by decide +kernel
theorem dX6_forget_5 : decode cX6_forget 5 = .ok (.aload_n 0, 1) := by decide +kernel
theorem dX6_forget_6 : decode cX6_forget 6 = .ok (.getfield 10, 3) := by decide +kernel
theorem dX6_forget_9 : decode cX6_forget 9 = .ok (.iload_n 1, 1) := by decide +kernel
theorem dX6_forget_10 : decode cX6_forget 10 = .ok (.invokevirtual 107, 3) := by decide +kernel
theorem dX6_forget_13 : decode cX6_forget 13 = .ok (.ifCond .ne 13, 3) := by decide +kernel
theorem dX6_forget_16 : decode cX6_forget 16 = .ok (.new 111, 3) := by decide +kernel
theorem dX6_forget_19 : decode cX6_forget 19 = .ok (.dup, 1) := by decide +kernel
theorem dX6_forget_20 : decode cX6_forget 20 = .ok (.ldc 113, 2) := by decide +kernel
theorem dX6_forget_22 : decode cX6_forget 22 = .ok (.invokespecial 115, 3) := by decide +kernel
theorem dX6_forget_25 : decode cX6_forget 25 = .ok (.athrow, 1) := by decide +kernel
theorem dX6_forget_26 : decode cX6_forget 26 = .ok (.aload_n 0, 1) := by decide +kernel
theorem dX6_forget_27 : decode cX6_forget 27 = .ok (.invokevirtual 63, 3) := by decide +kernel
theorem dX6_forget_30 : decode cX6_forget 30 = .ok (.aload_n 0, 1) := by decide +kernel
theorem dX6_forget_31 : decode cX6_forget 31 = .ok (.getfield 10, 3) := by decide +kernel
theorem dX6_forget_34 : decode cX6_forget 34 = .ok (.dup, 1) := by decide +kernel
theorem dX6_forget_35 : decode cX6_forget 35 = .ok (.getfield 116, 3) := by decide +kernel
theorem dX6_forget_38 : decode cX6_forget 38 = .ok (.iconst 1, 1) := by decide +kernel
theorem dX6_forget_39 : decode cX6_forget 39 = .ok (.iload_n 1, 1) := by decide +kernel
theorem dX6_forget_40 : decode cX6_forget 40 = .ok (.ishl, 1) := by decide +kernel
theorem dX6_forget_41 : decode cX6_forget 41 = .ok (.iconst (-1), 1) := by decide +kernel
theorem dX6_forget_42 : decode cX6_forget 42 = .ok (.ixor, 1) := by decide +kernel
theorem dX6_forget_43 : decode cX6_forget 43 = .ok (.iand, 1) := by decide +kernel
theorem dX6_forget_44 : decode cX6_forget 44 = .ok (.putfield 116, 3) := by decide +kernel
theorem dX6_forget_47 : decode cX6_forget 47 = .ok (.aload_n 0, 1) := by decide +kernel
theorem dX6_forget_48 : decode cX6_forget 48 = .ok (.getfield 10, 3) := by decide +kernel
theorem dX6_forget_51 : decode cX6_forget 51 = .ok (.aload_n 0, 1) := by decide +kernel
theorem dX6_forget_52 : decode cX6_forget 52 = .ok (.getfield 10, 3) := by decide +kernel
theorem dX6_forget_55 : decode cX6_forget 55 = .ok (.invokevirtual 119, 3) := by decide +kernel
theorem dX6_forget_58 : decode cX6_forget 58 = .ok (.invokevirtual 123, 3) := by decide +kernel
theorem dX6_forget_61 : decode cX6_forget 61 = .ok (.ireturn, 1) := by decide +kernel
set_option maxRecDepth 20000 in
theorem ggX6_remember_X6_checkInput : GoodIn wsX6_remember wsX6_checkInput := goodIn_ca (goodIn_r _ [8, 9, 10, 3, 78, 79, 80, 81, 82, 83, 84, 85, 86, 87, 88, 89, 90, 91, 92] (by decide +kernel) (by decide +kernel)) (goodIn_sub (fun _ h => List.mem_cons_of_mem _ (List.mem_append_right _ h)) (by decide +kernel))
set_option maxRecDepth 20000 in
theorem gX6_remember_X6_checkInput : GoodIn wsX6_remember (wsV RX6 104 RX6 yX6_checkInput wsX6_checkInput) := goodIn_app (goodIn_of _ (by decide +kernel)) ggX6_remember_X6_checkInput
set_option maxRecDepth 20000 in
theorem ggX6_remember_X3_remembers : GoodIn wsX6_remember wsX3_remembers := goodIn_r _ [15, 16, 85, 86, 87, 88, 89, 90, 91, 92] (by decide +kernel) (by decide +kernel)
set_option maxRecDepth 20000 in
theorem gX6_remember_X3_remembers : GoodIn wsX6_remember (wsV RX6 107 RX3 yX3_remembers wsX3_remembers) := goodIn_app (goodIn_of _ (by decide +kernel)) ggX6_remember_X3_remembers
set_option maxRecDepth 20000 in
theorem ggX6_remember_X6_saveBeforeChange : GoodIn wsX6_remember wsX6_saveBeforeChange := goodIn_r _ [20, 21, 3, 22, 23, 24, 25, 26, 27, 28, 29, 30, 31, 14, 32, 33, 34, 35, 36, 37, 38, 39, 40, 41, 42, 43, 44, 45, 46, 47, 48, 49, 50, 51, 16, 52, 53, 78, 79, 80, 81, 82, 83, 84, 93, 94, 85, 86, 87, 88, 89, 90, 91, 92] (by decide +kernel) (by decide +kernel)
set_option maxRecDepth 20000 in
theorem gX6_remember_X6_saveBeforeChange : GoodIn wsX6_remember (wsV RX6 63 RX6 yX6_saveBeforeChange wsX6_saveBeforeChange) := goodIn_app (goodIn_of _ (by decide +kernel)) ggX6_remember_X6_saveBeforeChange
set_option maxRecDepth 20000 in
theorem ggX6_remember_X3_forgotten : GoodIn wsX6_remember wsX3_forgotten := goodIn_r _ [57, 51, 16, 58, 59, 60, 61, 85, 86, 87, 88, 89, 90, 91, 92] (by decide +kernel) (by decide +kernel)
set_option maxRecDepth 20000 in
theorem gX6_remember_X3_forgotten : GoodIn wsX6_remember (wsV RX6 119 RX3 yX3_forgotten wsX3_forgotten) := goodIn_app (goodIn_of _ (by decide +kernel)) ggX6_remember_X3_forgotten
set_option maxRecDepth 20000 in
theorem ggX6_remember_X3_undecidedPairs : GoodIn wsX6_remember wsX3_undecidedPairs := goodIn_r _ [65, 43, 42, 66, 67, 60, 68, 69, 70, 71, 72, 73, 74, 75, 76, 77, 85, 86, 87, 88, 89, 90, 91, 92] (by decide +kernel) (by decide +kernel)
set_option maxRecDepth 20000 in
theorem gX6_remember_X3_undecidedPairs : GoodIn wsX6_remember (wsV RX6 123 RX3 yX3_undecidedPairs wsX3_undecidedPairs) := goodIn_app (goodIn_of _ (by decide +kernel)) ggX6_remember_X3_undecidedPairs
theorem dX6_remember_0 : decode cX6_remember 0 = .ok (.aload_n 0, 1) := by decide +kernel
theorem dX6_remember_1 : decode cX6_remember 1 = .ok (.iload_n 1, 1) := by decide +kernel
theorem dX6_remember_2 : decode cX6_remember 2 = .ok (.invokevirtual 104, 3) := by decide +kernel
theorem dX6_remember_5 : decode cX6_remember 5 = .ok (.aload_n 0, 1) := by decide +kernel
theorem dX6_remember_6 : decode cX6_remember 6 = .ok (.getfield 10, 3) := by decide +kernel
theorem dX6_remember_9 : decode cX6_remember 9 = .ok (.iload_n 1, 1) := by decide +kernel
theorem dX6_remember_10 : decode cX6_remember 10 = .ok (.invokevirtual 107, 3) := by decide +kernel
theorem dX6_remember_13 : decode cX6_remember 13 = .ok (.ifCond .eq 13, 3) := by decide +kernel
theorem dX6_remember_16 : decode cX6_remember 16 = .ok (.new 111, 3) := by decide +kernel
theorem dX6_remember_19 : decode cX6_remember 19 = .ok (.dup, 1) := by decide +kernel
theorem dX6_remember_20 : decode cX6_remember 20 = .ok (.ldc 127, 2) := by decide +kernel
theorem dX6_remember_22 : decode cX6_remember 22 = .ok (.invokespecial 115, 3) := by decide +kernel
theorem dX6_remember_25 : decode cX6_remember 25 = .ok (.athrow, 1) := by decide +kernel
theorem dX6_remember_26 : decode cX6_remember 26 = .ok (.aload_n 0, 1) := by decide +kernel
theorem dX6_remember_27 : decode cX6_remember 27 = .ok (.invokevirtual 63, 3) := by decide +kernel
theorem dX6_remember_30 : decode cX6_remember 30 = .ok (.aload_n 0, 1) := by decide +kernel
theorem dX6_remember_31 : decode cX6_remember 31 = .ok (.getfield 10, 3) := by decide +kernel
theorem dX6_remember_34 : decode cX6_remember 34 = .ok (.dup, 1) := by decide +kernel
theorem dX6_remember_35 : decode cX6_remember 35 = .ok (.getfield 116, 3) := by decide +kernel
theorem dX6_remember_38 : decode cX6_remember 38 = .ok (.iconst 1, 1) := by decide +kernel
theorem dX6_remember_39 : decode cX6_remember 39 = .ok (.iload_n 1, 1) := by decide +kernel
theorem dX6_remember_40 : decode cX6_remember 40 = .ok (.ishl, 1) := by decide +kernel
theorem dX6_remember_41 : decode cX6_remember 41 = .ok (.ior, 1) := by decide +kernel
theorem dX6_remember_42 : decode cX6_remember 42 = .ok (.putfield 116, 3) := by decide +kernel
theorem dX6_remember_45 : decode cX6_remember 45 = .ok (.aload_n 0, 1) := by decide +kernel
theorem dX6_remember_46 : decode cX6_remember 46 = .ok (.getfield 10, 3) := by decide +kernel
theorem dX6_remember_49 : decode cX6_remember 49 = .ok (.aload_n 0, 1) := by decide +kernel
theorem dX6_remember_50 : decode cX6_remember 50 = .ok (.getfield 10, 3) := by decide +kernel
theorem dX6_remember_53 : decode cX6_remember 53 = .ok (.invokevirtual 119, 3) := by decide +kernel
theorem dX6_remember_56 : decode cX6_remember 56 = .ok (.invokevirtual 123, 3) := by decide +kernel
theorem dX6_remember_59 : decode cX6_remember 59 = .ok (.ireturn, 1) := by decide +kernel
set_option maxRecDepth 20000 in
theorem ggX6_pass_X6_checkRange : GoodIn wsX6_pass wsX6_checkRange := goodIn_ca (goodIn_r _ [5, 6, 7] (by decide +kernel) (by decide +kernel)) (goodIn_sub (fun _ h => List.mem_cons_of_mem _ (List.mem_append_right _ h)) (by decide +kernel))
set_option maxRecDepth 20000 in
theorem gX6_pass_X6_checkRange : GoodIn wsX6_pass (va_wsS RX6 55 yX6_checkRange wsX6_checkRange) := goodIn_app (goodIn_of _ (by decide +kernel)) ggX6_pass_X6_checkRange
set_option maxRecDepth 20000 in
theorem ggX6_pass_X6_saveBeforeChange : GoodIn wsX6_pass wsX6_saveBeforeChange := goodIn_r _ [11, 12, 1, 13, 14, 15, 16, 17, 18, 19, 20, 21, 22, 23, 24, 25, 26, 27, 28, 29, 30, 31, 32, 33, 34, 35, 36, 37, 38, 39, 40, 41, 42, 43, 44, 45, 46, 86, 87, 88, 89, 90, 91, 92, 101, 102, 93, 94, 95, 96, 97, 98, 99, 100] (by decide +kernel) (by decide +kernel)
set_option maxRecDepth 20000 in
theorem gX6_pass_X6_saveBeforeChange : GoodIn wsX6_pass (wsV RX6 63 RX6 yX6_saveBeforeChange wsX6_saveBeforeChange) := goodIn_app (goodIn_of _ (by decide +kernel)) ggX6_pass_X6_saveBeforeChange
set_option maxRecDepth 20000 in
theorem ggX6_pass_X3_leastMissed : GoodIn wsX6_pass wsX3_leastMissed := goodIn_r _ [50, 43, 51, 52, 53, 23, 54, 44, 55, 56, 57, 58, 59, 60, 61, 62, 63, 64, 65, 66, 35, 34, 67, 68, 69, 70, 71, 72, 73, 74, 75, 76, 77, 78, 93, 94, 95, 96, 97, 98, 99, 100] (by decide +kernel) (by decide +kernel)
set_option maxRecDepth 20000 in
theorem gX6_pass_X3_leastMissed : GoodIn wsX6_pass (wsV RX6 129 RX3 yX3_leastMissed wsX3_leastMissed) := goodIn_app (goodIn_of _ (by decide +kernel)) ggX6_pass_X3_leastMissed
set_option maxRecDepth 20000 in
theorem ggX6_pass_J6_bitCount_0f7a4 : GoodIn wsX6_pass wsJ6_bitCount_0f7a4 := goodIn_r _ [82, 83, 84, 85] (by decide +kernel) (by decide +kernel)
set_option maxRecDepth 20000 in
theorem gX6_pass_J6_bitCount_0f7a4 : GoodIn wsX6_pass (va_wsS RX6 135 yJ6_bitCount_0f7a4 wsJ6_bitCount_0f7a4) := goodIn_app (goodIn_of _ (by decide +kernel)) ggX6_pass_J6_bitCount_0f7a4
theorem dX6_pass_0 : decode cX6_pass 0 = .ok (.iload_n 1, 1) := by decide +kernel
theorem dX6_pass_1 : decode cX6_pass 1 = .ok (.iconst 1, 1) := by decide +kernel
theorem dX6_pass_2 : decode cX6_pass 2 = .ok (.bipush 6, 2) := by decide +kernel
theorem dX6_pass_4 : decode cX6_pass 4 = .ok (.invokestatic 55, 3) := by decide +kernel
theorem dX6_pass_7 : decode cX6_pass 7 = .ok (.aload_n 0, 1) := by decide +kernel
theorem dX6_pass_8 : decode cX6_pass 8 = .ok (.invokevirtual 63, 3) := by decide +kernel
theorem dX6_pass_11 : decode cX6_pass 11 = .ok (.iconst 0, 1) := by decide +kernel
theorem dX6_pass_12 : decode cX6_pass 12 = .ok (.istore_n 2, 1) := by decide +kernel
theorem dX6_pass_13 : decode cX6_pass 13 = .ok (.iload_n 2, 1) := by decide +kernel
theorem dX6_pass_14 : decode cX6_pass 14 = .ok (.iload_n 1, 1) := by decide +kernel
theorem dX6_pass_15 : decode cX6_pass 15 = .ok (.if_icmp .ge 55, 3) := by decide +kernel
theorem dX6_pass_18 : decode cX6_pass 18 = .ok (.aload_n 0, 1) := by decide +kernel
theorem dX6_pass_19 : decode cX6_pass 19 = .ok (.getfield 10, 3) := by decide +kernel
theorem dX6_pass_22 : decode cX6_pass 22 = .ok (.getfield 116, 3) := by decide +kernel
theorem dX6_pass_25 : decode cX6_pass 25 = .ok (.ifCond .eq 45, 3) := by decide +kernel
theorem dX6_pass_28 : decode cX6_pass 28 = .ok (.aload_n 0, 1) := by decide +kernel
theorem dX6_pass_29 : decode cX6_pass 29 = .ok (.getfield 10, 3) := by decide +kernel
theorem dX6_pass_32 : decode cX6_pass 32 = .ok (.dup, 1) := by decide +kernel
theorem dX6_pass_33 : decode cX6_pass 33 = .ok (.getfield 116, 3) := by decide +kernel
theorem dX6_pass_36 : decode cX6_pass 36 = .ok (.iconst 1, 1) := by decide +kernel
theorem dX6_pass_37 : decode cX6_pass 37 = .ok (.aload_n 0, 1) := by decide +kernel
theorem dX6_pass_38 : decode cX6_pass 38 = .ok (.getfield 10, 3) := by decide +kernel
theorem dX6_pass_41 : decode cX6_pass 41 = .ok (.invokevirtual 129, 3) := by decide +kernel
theorem dX6_pass_44 : decode cX6_pass 44 = .ok (.ishl, 1) := by decide +kernel
theorem dX6_pass_45 : decode cX6_pass 45 = .ok (.iconst (-1), 1) := by decide +kernel
theorem dX6_pass_46 : decode cX6_pass 46 = .ok (.ixor, 1) := by decide +kernel
theorem dX6_pass_47 : decode cX6_pass 47 = .ok (.iand, 1) := by decide +kernel
theorem dX6_pass_48 : decode cX6_pass 48 = .ok (.putfield 116, 3) := by decide +kernel
theorem dX6_pass_51 : decode cX6_pass 51 = .ok (.aload_n 0, 1) := by decide +kernel
theorem dX6_pass_52 : decode cX6_pass 52 = .ok (.getfield 10, 3) := by decide +kernel
theorem dX6_pass_55 : decode cX6_pass 55 = .ok (.dup, 1) := by decide +kernel
theorem dX6_pass_56 : decode cX6_pass 56 = .ok (.getfield 132, 3) := by decide +kernel
theorem dX6_pass_59 : decode cX6_pass 59 = .ok (.iconst 1, 1) := by decide +kernel
theorem dX6_pass_60 : decode cX6_pass 60 = .ok (.iadd, 1) := by decide +kernel
theorem dX6_pass_61 : decode cX6_pass 61 = .ok (.putfield 132, 3) := by decide +kernel
theorem dX6_pass_64 : decode cX6_pass 64 = .ok (.iinc 2 1, 3) := by decide +kernel
theorem dX6_pass_67 : decode cX6_pass 67 = .ok (.goto (-54), 3) := by decide +kernel
theorem dX6_pass_70 : decode cX6_pass 70 = .ok (.aload_n 0, 1) := by decide +kernel
theorem dX6_pass_71 : decode cX6_pass 71 = .ok (.getfield 10, 3) := by decide +kernel
theorem dX6_pass_74 : decode cX6_pass 74 = .ok (.getfield 116, 3) := by decide +kernel
theorem dX6_pass_77 : decode cX6_pass 77 = .ok (.invokestatic 135, 3) := by decide +kernel
theorem dX6_pass_80 : decode cX6_pass 80 = .ok (.ireturn, 1) := by decide +kernel
set_option maxRecDepth 20000 in
theorem ggX6_ask_X6_checkRow : GoodIn wsX6_ask wsX6_checkRow := goodIn_ca (goodIn_r _ [7, 8, 9, 2, 10, 11, 12, 13, 14, 15, 169, 170, 171, 172, 173, 174, 175, 176, 177, 178, 179, 180, 181, 182, 183] (by decide +kernel) (by decide +kernel)) (goodIn_sub (fun _ h => List.mem_cons_of_mem _ (List.mem_append_right _ h)) (by decide +kernel))
set_option maxRecDepth 20000 in
theorem gX6_ask_X6_checkRow : GoodIn wsX6_ask (wsV RX6 69 RX6 yX6_checkRow wsX6_checkRow) := goodIn_app (goodIn_of _ (by decide +kernel)) ggX6_ask_X6_checkRow
set_option maxRecDepth 20000 in
theorem ggX6_ask_X6_viewOfPresent : GoodIn wsX6_ask wsX6_viewOfPresent := goodIn_r _ [19, 20, 21, 2, 22, 23, 24, 25, 26, 27, 28, 29, 30, 31, 32, 33, 34, 35, 36, 37, 38, 39, 40, 41, 13, 42, 43, 44, 6, 45, 46, 47, 48, 49, 50, 51, 52, 53, 54, 55, 56, 57, 58, 59, 60, 61, 62, 63, 64, 65, 66, 67, 68, 69, 70, 71, 72, 73, 74, 75, 76, 77, 78, 79, 80, 81, 82, 83, 84, 85, 86, 87, 88, 89, 90, 91, 92, 93, 94, 95, 96, 97, 98, 99, 100, 101, 102, 103, 104, 105, 106, 107, 108, 109, 110, 111, 112, 113, 114, 115, 116, 117, 118, 119, 120, 121, 169, 170, 171, 172, 173, 174, 175, 176, 177, 178, 179, 180, 181, 182, 183, 184, 185, 186, 187, 188, 189, 190, 191, 192, 193, 194, 195, 196, 197, 198, 199] (by decide +kernel) (by decide +kernel)
set_option maxRecDepth 20000 in
theorem gX6_ask_X6_viewOfPresent : GoodIn wsX6_ask (wsV RX6 139 RX6 yX6_viewOfPresent wsX6_viewOfPresent) := goodIn_app (goodIn_of _ (by decide +kernel)) ggX6_ask_X6_viewOfPresent
set_option maxRecDepth 20000 in
theorem ggX6_ask_X0_keep : GoodIn wsX6_ask wsX0_keep := goodIn_r _ [126, 127, 128, 129, 130, 13, 131, 132, 133, 125, 134, 135, 136, 137, 138, 139, 140, 43, 55, 141, 142, 143, 144, 145, 146, 147, 15, 148, 149, 150, 200, 201, 176, 177, 178, 179, 180, 181, 182, 183] (by decide +kernel) (by decide +kernel)
set_option maxRecDepth 20000 in
theorem gX6_ask_X0_keep : GoodIn wsX6_ask (wsV RX6 143 RX0 yX0_keep wsX0_keep) := goodIn_app (goodIn_of _ (by decide +kernel)) ggX6_ask_X0_keep
set_option maxRecDepth 20000 in
theorem ggX6_ask_X5_answerAt : GoodIn wsX6_ask wsX5_answerAt := goodIn_r _ [154, 155, 156, 157, 26, 158, 96, 44, 6, 45, 184, 185, 186, 187, 188, 189, 190, 191, 192, 193, 194, 195] (by decide +kernel) (by decide +kernel)
set_option maxRecDepth 20000 in
theorem gX6_ask_X5_answerAt : GoodIn wsX6_ask (wsV RX6 150 RX5 yX5_answerAt wsX5_answerAt) := goodIn_app (goodIn_of _ (by decide +kernel)) ggX6_ask_X5_answerAt
set_option maxRecDepth 20000 in
theorem ggX6_ask_X3_truthAt : GoodIn wsX6_ask wsX3_truthAt := goodIn_r _ [162, 163, 52, 53, 13, 54, 55, 44, 6, 45, 164, 40, 41, 42, 43, 176, 177, 178, 179, 180, 181, 182, 183] (by decide +kernel) (by decide +kernel)
set_option maxRecDepth 20000 in
theorem gX6_ask_X3_truthAt : GoodIn wsX6_ask (wsV RX6 72 RX3 yX3_truthAt wsX3_truthAt) := goodIn_app (goodIn_of _ (by decide +kernel)) ggX6_ask_X3_truthAt
set_option maxRecDepth 20000 in
theorem ggX6_ask_X5_decidedAt : GoodIn wsX6_ask wsX5_decidedAt := goodIn_r _ [168, 33, 32, 30, 44, 6, 45, 184, 185, 186, 187, 188, 189, 190, 191, 192, 193, 194, 195] (by decide +kernel) (by decide +kernel)
set_option maxRecDepth 20000 in
theorem gX6_ask_X5_decidedAt : GoodIn wsX6_ask (wsV RX6 153 RX5 yX5_decidedAt wsX5_decidedAt) := goodIn_app (goodIn_of _ (by decide +kernel)) ggX6_ask_X5_decidedAt
theorem dX6_ask_0 : decode cX6_ask 0 = .ok (.aload_n 0, 1) := by decide +kernel
theorem dX6_ask_1 : decode cX6_ask 1 = .ok (.iload_n 1, 1) := by decide +kernel
theorem dX6_ask_2 : decode cX6_ask 2 = .ok (.invokevirtual 69, 3) := by decide +kernel
theorem dX6_ask_5 : decode cX6_ask 5 = .ok (.aload_n 0, 1) := by decide +kernel
theorem dX6_ask_6 : decode cX6_ask 6 = .ok (.invokevirtual 139, 3) := by decide +kernel
theorem dX6_ask_9 : decode cX6_ask 9 = .ok (.astore_n 2, 1) := by decide +kernel
theorem dX6_ask_10 : decode cX6_ask 10 = .ok (.aload_n 0, 1) := by decide +kernel
theorem dX6_ask_11 : decode cX6_ask 11 = .ok (.getfield 19, 3) := by decide +kernel
theorem dX6_ask_14 : decode cX6_ask 14 = .ok (.aload_n 0, 1) := by decide +kernel
theorem dX6_ask_15 : decode cX6_ask 15 = .ok (.getfield 10, 3) := by decide +kernel
theorem dX6_ask_18 : decode cX6_ask 18 = .ok (.invokevirtual 143, 3) := by decide +kernel
theorem dX6_ask_21 : decode cX6_ask 21 = .ok (.aload_n 0, 1) := by decide +kernel
theorem dX6_ask_22 : decode cX6_ask 22 = .ok (.getfield 10, 3) := by decide +kernel
theorem dX6_ask_25 : decode cX6_ask 25 = .ok (.dup, 1) := by decide +kernel
theorem dX6_ask_26 : decode cX6_ask 26 = .ok (.getfield 147, 3) := by decide +kernel
theorem dX6_ask_29 : decode cX6_ask 29 = .ok (.iconst 1, 1) := by decide +kernel
theorem dX6_ask_30 : decode cX6_ask 30 = .ok (.iadd, 1) := by decide +kernel
theorem dX6_ask_31 : decode cX6_ask 31 = .ok (.putfield 147, 3) := by decide +kernel
theorem dX6_ask_34 : decode cX6_ask 34 = .ok (.iconst 0, 1) := by decide +kernel
theorem dX6_ask_35 : decode cX6_ask 35 = .ok (.istore_n 3, 1) := by decide +kernel
theorem dX6_ask_36 : decode cX6_ask 36 = .ok (.iconst 0, 1) := by decide +kernel
theorem dX6_ask_37 : decode cX6_ask 37 = .ok (.istore 4, 2) := by decide +kernel
theorem dX6_ask_39 : decode cX6_ask 39 = .ok (.iload 4, 2) := by decide +kernel
theorem dX6_ask_41 : decode cX6_ask 41 = .ok (.iconst 4, 1) := by decide +kernel
theorem dX6_ask_42 : decode cX6_ask 42 = .ok (.if_icmp .ge 90, 3) := by decide +kernel
theorem dX6_ask_45 : decode cX6_ask 45 = .ok (.aload_n 2, 1) := by decide +kernel
theorem dX6_ask_46 : decode cX6_ask 46 = .ok (.iload 4, 2) := by decide +kernel
theorem dX6_ask_48 : decode cX6_ask 48 = .ok (.iload_n 1, 1) := by decide +kernel
theorem dX6_ask_49 : decode cX6_ask 49 = .ok (.invokevirtual 150, 3) := by decide +kernel
theorem dX6_ask_52 : decode cX6_ask 52 = .ok (.istore 5, 2) := by decide +kernel
theorem dX6_ask_54 : decode cX6_ask 54 = .ok (.aload_n 0, 1) := by decide +kernel
theorem dX6_ask_55 : decode cX6_ask 55 = .ok (.getfield 10, 3) := by decide +kernel
theorem dX6_ask_58 : decode cX6_ask 58 = .ok (.iload 4, 2) := by decide +kernel
theorem dX6_ask_60 : decode cX6_ask 60 = .ok (.iload_n 1, 1) := by decide +kernel
theorem dX6_ask_61 : decode cX6_ask 61 = .ok (.invokevirtual 72, 3) := by decide +kernel
theorem dX6_ask_64 : decode cX6_ask 64 = .ok (.istore 6, 2) := by decide +kernel
theorem dX6_ask_66 : decode cX6_ask 66 = .ok (.aload_n 2, 1) := by decide +kernel
theorem dX6_ask_67 : decode cX6_ask 67 = .ok (.iload 4, 2) := by decide +kernel
theorem dX6_ask_69 : decode cX6_ask 69 = .ok (.iload_n 1, 1) := by decide +kernel
theorem dX6_ask_70 : decode cX6_ask 70 = .ok (.invokevirtual 153, 3) := by decide +kernel
theorem dX6_ask_73 : decode cX6_ask 73 = .ok (.iconst 3, 1) := by decide +kernel
theorem dX6_ask_74 : decode cX6_ask 74 = .ok (.if_icmp .ne 17, 3) := by decide +kernel
theorem dX6_ask_77 : decode cX6_ask 77 = .ok (.aload_n 0, 1) := by decide +kernel
theorem dX6_ask_78 : decode cX6_ask 78 = .ok (.getfield 10, 3) := by decide +kernel
theorem dX6_ask_81 : decode cX6_ask 81 = .ok (.getfield 156, 3) := by decide +kernel
theorem dX6_ask_84 : decode cX6_ask 84 = .ok (.iload 4, 2) := by decide +kernel
theorem dX6_ask_86 : decode cX6_ask 86 = .ok (.dup2, 1) := by decide +kernel
theorem dX6_ask_87 : decode cX6_ask 87 = .ok (.iaload, 1) := by decide +kernel
theorem dX6_ask_88 : decode cX6_ask 88 = .ok (.iconst 1, 1) := by decide +kernel
theorem dX6_ask_89 : decode cX6_ask 89 = .ok (.iadd, 1) := by decide +kernel
theorem dX6_ask_90 : decode cX6_ask 90 = .ok (.iastore, 1) := by decide +kernel
theorem dX6_ask_91 : decode cX6_ask 91 = .ok (.iload 6, 2) := by decide +kernel
theorem dX6_ask_93 : decode cX6_ask 93 = .ok (.iconst 2, 1) := by decide +kernel
theorem dX6_ask_94 : decode cX6_ask 94 = .ok (.if_icmp .eq 24, 3) := by decide +kernel
theorem dX6_ask_97 : decode cX6_ask 97 = .ok (.iload 6, 2) := by decide +kernel
theorem dX6_ask_99 : decode cX6_ask 99 = .ok (.iload 5, 2) := by decide +kernel
theorem dX6_ask_101 : decode cX6_ask 101 = .ok (.if_icmp .eq 17, 3) := by decide +kernel
theorem dX6_ask_104 : decode cX6_ask 104 = .ok (.aload_n 0, 1) := by decide +kernel
theorem dX6_ask_105 : decode cX6_ask 105 = .ok (.getfield 10, 3) := by decide +kernel
theorem dX6_ask_108 : decode cX6_ask 108 = .ok (.getfield 160, 3) := by decide +kernel
theorem dX6_ask_111 : decode cX6_ask 111 = .ok (.iload 4, 2) := by decide +kernel
theorem dX6_ask_113 : decode cX6_ask 113 = .ok (.dup2, 1) := by decide +kernel
theorem dX6_ask_114 : decode cX6_ask 114 = .ok (.iaload, 1) := by decide +kernel
theorem dX6_ask_115 : decode cX6_ask 115 = .ok (.iconst 1, 1) := by decide +kernel
theorem dX6_ask_116 : decode cX6_ask 116 = .ok (.iadd, 1) := by decide +kernel
theorem dX6_ask_117 : decode cX6_ask 117 = .ok (.iastore, 1) := by decide +kernel
theorem dX6_ask_118 : decode cX6_ask 118 = .ok (.iload_n 3, 1) := by decide +kernel
theorem dX6_ask_119 : decode cX6_ask 119 = .ok (.iload 5, 2) := by decide +kernel
theorem dX6_ask_121 : decode cX6_ask 121 = .ok (.iload 4, 2) := by decide +kernel
theorem dX6_ask_123 : decode cX6_ask 123 = .ok (.ishl, 1) := by decide +kernel
theorem dX6_ask_124 : decode cX6_ask 124 = .ok (.ior, 1) := by decide +kernel
theorem dX6_ask_125 : decode cX6_ask 125 = .ok (.istore_n 3, 1) := by decide +kernel
theorem dX6_ask_126 : decode cX6_ask 126 = .ok (.iinc 4 1, 3) := by decide +kernel
theorem dX6_ask_129 : decode cX6_ask 129 = .ok (.goto (-90), 3) := by decide +kernel
theorem dX6_ask_132 : decode cX6_ask 132 = .ok (.iload_n 3, 1) := by decide +kernel
theorem dX6_ask_133 : decode cX6_ask 133 = .ok (.ireturn, 1) := by decide +kernel
set_option maxRecDepth 20000 in
theorem ggX6_append_X6_checkRange : GoodIn wsX6_append wsX6_checkRange := goodIn_ca (goodIn_r _ [7, 8, 9] (by decide +kernel) (by decide +kernel)) (goodIn_sub (fun _ h => List.mem_cons_of_mem _ (List.mem_append_right _ h)) (by decide +kernel))
set_option maxRecDepth 20000 in
theorem gX6_append_X6_checkRange : GoodIn wsX6_append (va_wsS RX6 55 yX6_checkRange wsX6_checkRange) := goodIn_app (goodIn_of _ (by decide +kernel)) ggX6_append_X6_checkRange
set_option maxRecDepth 20000 in
theorem ggX6_append_X4_add : GoodIn wsX6_append wsX4_add := goodIn_r _ [14, 15, 16, 24, 25] (by decide +kernel) (by decide +kernel)
set_option maxRecDepth 20000 in
theorem gX6_append_X4_add : GoodIn wsX6_append (wsV RX6 163 RX4 yX4_add wsX4_add) := goodIn_app (goodIn_of _ (by decide +kernel)) ggX6_append_X4_add
theorem dX6_append_0 : decode cX6_append 0 = .ok (.iload_n 1, 1) := by decide +kernel
theorem dX6_append_1 : decode cX6_append 1 = .ok (.bipush 33, 2) := by decide +kernel
theorem dX6_append_3 : decode cX6_append 3 = .ok (.bipush 126, 2) := by decide +kernel
theorem dX6_append_5 : decode cX6_append 5 = .ok (.invokestatic 55, 3) := by decide +kernel
theorem dX6_append_8 : decode cX6_append 8 = .ok (.aload_n 0, 1) := by decide +kernel
theorem dX6_append_9 : decode cX6_append 9 = .ok (.getfield 26, 3) := by decide +kernel
theorem dX6_append_12 : decode cX6_append 12 = .ok (.iload_n 1, 1) := by decide +kernel
theorem dX6_append_13 : decode cX6_append 13 = .ok (.invokevirtual 163, 3) := by decide +kernel
theorem dX6_append_16 : decode cX6_append 16 = .ok (.ifCond .ne 13, 3) := by decide +kernel
theorem dX6_append_19 : decode cX6_append 19 = .ok (.new 111, 3) := by decide +kernel
theorem dX6_append_22 : decode cX6_append 22 = .ok (.dup, 1) := by decide +kernel
theorem dX6_append_23 : decode cX6_append 23 = .ok (.ldc 166, 2) := by decide +kernel
theorem dX6_append_25 : decode cX6_append 25 = .ok (.invokespecial 115, 3) := by decide +kernel
theorem dX6_append_28 : decode cX6_append 28 = .ok (.athrow, 1) := by decide +kernel
theorem dX6_append_29 : decode cX6_append 29 = .ok (.aload_n 0, 1) := by decide +kernel
theorem dX6_append_30 : decode cX6_append 30 = .ok (.getfield 26, 3) := by decide +kernel
theorem dX6_append_33 : decode cX6_append 33 = .ok (.getfield 168, 3) := by decide +kernel
theorem dX6_append_36 : decode cX6_append 36 = .ok (.ireturn, 1) := by decide +kernel
theorem dX6_clearBuffer_0 : decode cX6_clearBuffer 0 = .ok (.aload_n 0, 1) := by decide +kernel
theorem dX6_clearBuffer_1 : decode cX6_clearBuffer 1 = .ok (.getfield 26, 3) := by decide +kernel
theorem dX6_clearBuffer_4 : decode cX6_clearBuffer 4 = .ok (.getfield 168, 3) := by decide +kernel
theorem dX6_clearBuffer_7 : decode cX6_clearBuffer 7 = .ok (.istore_n 1, 1) := by decide +kernel
theorem dX6_clearBuffer_8 : decode cX6_clearBuffer 8 = .ok (.aload_n 0, 1) := by decide +kernel
theorem dX6_clearBuffer_9 : decode cX6_clearBuffer 9 = .ok (.getfield 26, 3) := by decide +kernel
theorem dX6_clearBuffer_12 : decode cX6_clearBuffer 12 = .ok (.iconst 0, 1) := by decide +kernel
theorem dX6_clearBuffer_13 : decode cX6_clearBuffer 13 = .ok (.putfield 168, 3) := by decide +kernel
theorem dX6_clearBuffer_16 : decode cX6_clearBuffer 16 = .ok (.iload_n 1, 1) := by decide +kernel
theorem dX6_clearBuffer_17 : decode cX6_clearBuffer 17 = .ok (.ireturn, 1) := by decide +kernel
set_option maxRecDepth 20000 in
theorem ggX6_firstError_X4_firstWrong : GoodIn wsX6_firstError wsX4_firstWrong := goodIn_r _ [7, 8, 9, 10, 11, 6, 12, 28, 29] (by decide +kernel) (by decide +kernel)
set_option maxRecDepth 20000 in
theorem gX6_firstError_X4_firstWrong : GoodIn wsX6_firstError (wsV RX6 171 RX4 yX4_firstWrong wsX4_firstWrong) := goodIn_app (goodIn_of _ (by decide +kernel)) ggX6_firstError_X4_firstWrong
theorem dX6_firstError_0 : decode cX6_firstError 0 = .ok (.aload_n 0, 1) := by decide +kernel
theorem dX6_firstError_1 : decode cX6_firstError 1 = .ok (.getfield 26, 3) := by decide +kernel
theorem dX6_firstError_4 : decode cX6_firstError 4 = .ok (.aload_n 0, 1) := by decide +kernel
theorem dX6_firstError_5 : decode cX6_firstError 5 = .ok (.getfield 10, 3) := by decide +kernel
theorem dX6_firstError_8 : decode cX6_firstError 8 = .ok (.getfield 59, 3) := by decide +kernel
theorem dX6_firstError_11 : decode cX6_firstError 11 = .ok (.invokevirtual 171, 3) := by decide +kernel
theorem dX6_firstError_14 : decode cX6_firstError 14 = .ok (.ireturn, 1) := by decide +kernel
set_option maxRecDepth 20000 in
theorem ggX6_fill_X4_isTable : GoodIn wsX6_fill wsX4_isTable := goodIn_r _ [10, 11, 12, 13, 14, 15, 9, 16, 17, 18, 19, 116, 117] (by decide +kernel) (by decide +kernel)
set_option maxRecDepth 20000 in
theorem gX6_fill_X4_isTable : GoodIn wsX6_fill (wsV RX6 174 RX4 yX4_isTable wsX4_isTable) := goodIn_app (goodIn_of _ (by decide +kernel)) ggX6_fill_X4_isTable
set_option maxRecDepth 20000 in
theorem ggX6_fill_X6_saveBeforeChange : GoodIn wsX6_fill wsX6_saveBeforeChange := goodIn_r _ [24, 5, 4, 25, 26, 27, 28, 29, 30, 31, 32, 33, 34, 35, 36, 37, 38, 39, 40, 41, 42, 43, 44, 45, 46, 47, 48, 49, 50, 51, 52, 53, 54, 55, 56, 57, 58, 101, 102, 103, 104, 105, 106, 107, 118, 119, 108, 109, 110, 111, 112, 113, 114, 115] (by decide +kernel) (by decide +kernel)
set_option maxRecDepth 20000 in
theorem gX6_fill_X6_saveBeforeChange : GoodIn wsX6_fill (wsV RX6 63 RX6 yX6_saveBeforeChange wsX6_saveBeforeChange) := goodIn_app (goodIn_of _ (by decide +kernel)) ggX6_fill_X6_saveBeforeChange
set_option maxRecDepth 20000 in
theorem ggX6_fill_X4_giveTo : GoodIn wsX6_fill wsX4_giveTo := goodIn_r _ [62, 11, 12, 63, 64, 65, 66, 67, 68, 69, 70, 71, 72, 73, 74, 75, 76, 77, 35, 78, 46, 79, 47, 80, 23, 81, 108, 109, 110, 111, 112, 113, 114, 115, 116, 117] (by decide +kernel) (by decide +kernel)
set_option maxRecDepth 20000 in
theorem gX6_fill_X4_giveTo : GoodIn wsX6_fill (wsV RX6 179 RX4 yX4_giveTo wsX4_giveTo) := goodIn_app (goodIn_of _ (by decide +kernel)) ggX6_fill_X4_giveTo
set_option maxRecDepth 20000 in
theorem ggX6_fill_X0_truthsChanged : GoodIn wsX6_fill wsX0_truthsChanged := goodIn_r _ [85, 86, 87, 88, 29, 89, 31, 32, 90, 91, 92, 35, 93, 47, 46, 94, 95, 96, 97, 98, 99, 100, 118, 119, 108, 109, 110, 111, 112, 113, 114, 115] (by decide +kernel) (by decide +kernel)
set_option maxRecDepth 20000 in
theorem gX6_fill_X0_truthsChanged : GoodIn wsX6_fill (wsV RX6 182 RX0 yX0_truthsChanged wsX0_truthsChanged) := goodIn_app (goodIn_of _ (by decide +kernel)) ggX6_fill_X0_truthsChanged
theorem dX6_fill_0 : decode cX6_fill 0 = .ok (.aload_n 0, 1) := by decide +kernel
theorem dX6_fill_1 : decode cX6_fill 1 = .ok (.getfield 26, 3) := by decide +kernel
theorem dX6_fill_4 : decode cX6_fill 4 = .ok (.aload_n 0, 1) := by decide +kernel
theorem dX6_fill_5 : decode cX6_fill 5 = .ok (.getfield 10, 3) := by decide +kernel
theorem dX6_fill_8 : decode cX6_fill 8 = .ok (.getfield 59, 3) := by decide +kernel
theorem dX6_fill_11 : decode cX6_fill 11 = .ok (.invokevirtual 174, 3) := by decide +kernel
theorem dX6_fill_14 : decode cX6_fill 14 = .ok (.ifCond .ne 13, 3) := by decide +kernel
theorem dX6_fill_17 : decode cX6_fill 17 = .ok (.new 93, 3) := by decide +kernel
theorem dX6_fill_20 : decode cX6_fill 20 = .ok (.dup, 1) := by decide +kernel
theorem dX6_fill_21 : decode cX6_fill 21 = .ok (.ldc 177, 2) := by decide +kernel
theorem dX6_fill_23 : decode cX6_fill 23 = .ok (.invokespecial 97, 3) := by decide +kernel
theorem dX6_fill_26 : decode cX6_fill 26 = .ok (.athrow, 1) := by decide +kernel
theorem dX6_fill_27 : decode cX6_fill 27 = .ok (.aload_n 0, 1) := by decide +kernel
theorem dX6_fill_28 : decode cX6_fill 28 = .ok (.invokevirtual 63, 3) := by decide +kernel
theorem dX6_fill_31 : decode cX6_fill 31 = .ok (.aload_n 0, 1) := by decide +kernel
theorem dX6_fill_32 : decode cX6_fill 32 = .ok (.getfield 26, 3) := by decide +kernel
theorem dX6_fill_35 : decode cX6_fill 35 = .ok (.aload_n 0, 1) := by decide +kernel
theorem dX6_fill_36 : decode cX6_fill 36 = .ok (.getfield 10, 3) := by decide +kernel
theorem dX6_fill_39 : decode cX6_fill 39 = .ok (.invokevirtual 179, 3) := by decide +kernel
theorem dX6_fill_42 : decode cX6_fill 42 = .ok (.aload_n 0, 1) := by decide +kernel
theorem dX6_fill_43 : decode cX6_fill 43 = .ok (.getfield 26, 3) := by decide +kernel
theorem dX6_fill_46 : decode cX6_fill 46 = .ok (.iconst 0, 1) := by decide +kernel
theorem dX6_fill_47 : decode cX6_fill 47 = .ok (.putfield 168, 3) := by decide +kernel
theorem dX6_fill_50 : decode cX6_fill 50 = .ok (.aload_n 0, 1) := by decide +kernel
theorem dX6_fill_51 : decode cX6_fill 51 = .ok (.getfield 19, 3) := by decide +kernel
theorem dX6_fill_54 : decode cX6_fill 54 = .ok (.aload_n 0, 1) := by decide +kernel
theorem dX6_fill_55 : decode cX6_fill 55 = .ok (.getfield 10, 3) := by decide +kernel
theorem dX6_fill_58 : decode cX6_fill 58 = .ok (.invokevirtual 182, 3) := by decide +kernel
theorem dX6_fill_61 : decode cX6_fill 61 = .ok (.ireturn, 1) := by decide +kernel
set_option maxRecDepth 20000 in
theorem ggX6_undo_X0_bringBack : GoodIn wsX6_undo wsX0_bringBack := goodIn_r _ [10, 11, 12, 13, 14, 9, 15, 16, 17, 18, 19, 20, 21, 22, 23, 24, 25, 26, 27, 28, 29, 37, 38, 39, 40, 41, 42, 43, 44, 45, 46] (by decide +kernel) (by decide +kernel)
set_option maxRecDepth 20000 in
theorem gX6_undo_X0_bringBack : GoodIn wsX6_undo (wsV RX6 186 RX0 yX0_bringBack wsX0_bringBack) := goodIn_app (goodIn_of _ (by decide +kernel)) ggX6_undo_X0_bringBack
theorem dX6_undo_0 : decode cX6_undo 0 = .ok (.aload_n 0, 1) := by decide +kernel
theorem dX6_undo_1 : decode cX6_undo 1 = .ok (.getfield 19, 3) := by decide +kernel
theorem dX6_undo_4 : decode cX6_undo 4 = .ok (.aload_n 0, 1) := by decide +kernel
theorem dX6_undo_5 : decode cX6_undo 5 = .ok (.getfield 10, 3) := by decide +kernel
theorem dX6_undo_8 : decode cX6_undo 8 = .ok (.invokevirtual 186, 3) := by decide +kernel
theorem dX6_undo_11 : decode cX6_undo 11 = .ok (.ifCond .ne 13, 3) := by decide +kernel
theorem dX6_undo_14 : decode cX6_undo 14 = .ok (.new 111, 3) := by decide +kernel
theorem dX6_undo_17 : decode cX6_undo 17 = .ok (.dup, 1) := by decide +kernel
theorem dX6_undo_18 : decode cX6_undo 18 = .ok (.ldc 190, 2) := by decide +kernel
theorem dX6_undo_20 : decode cX6_undo 20 = .ok (.invokespecial 115, 3) := by decide +kernel
theorem dX6_undo_23 : decode cX6_undo 23 = .ok (.athrow, 1) := by decide +kernel
theorem dX6_undo_24 : decode cX6_undo 24 = .ok (.aload_n 0, 1) := by decide +kernel
theorem dX6_undo_25 : decode cX6_undo 25 = .ok (.iconst 1, 1) := by decide +kernel
theorem dX6_undo_26 : decode cX6_undo 26 = .ok (.putfield 47, 3) := by decide +kernel
theorem dX6_undo_29 : decode cX6_undo 29 = .ok (.aload_n 0, 1) := by decide +kernel
theorem dX6_undo_30 : decode cX6_undo 30 = .ok (.getfield 19, 3) := by decide +kernel
theorem dX6_undo_33 : decode cX6_undo 33 = .ok (.getfield 192, 3) := by decide +kernel
theorem dX6_undo_36 : decode cX6_undo 36 = .ok (.ireturn, 1) := by decide +kernel
set_option maxRecDepth 20000 in
theorem ggX6_at_X6_checkOutput : GoodIn wsX6_at wsX6_checkOutput := goodIn_ca (goodIn_r _ [4, 5, 6, 7, 8, 3, 9] (by decide +kernel) (by decide +kernel)) (goodIn_sub (fun _ h => List.mem_cons_of_mem _ (List.mem_append_left _ (List.mem_append_right _ h))) (by decide +kernel))
set_option maxRecDepth 20000 in
theorem gX6_at_X6_checkOutput : GoodIn wsX6_at (va_wsS RX6 66 yX6_checkOutput wsX6_checkOutput) := goodIn_app (goodIn_of _ (by decide +kernel)) ggX6_at_X6_checkOutput
set_option maxRecDepth 20000 in
theorem ggX6_at_X6_checkRow : GoodIn wsX6_at wsX6_checkRow := goodIn_ca (goodIn_r _ [13, 5, 6, 14, 15, 16, 17, 18, 19, 20, 152, 153, 154, 155, 156, 157, 158, 159, 160, 161, 162, 163, 164, 165, 166] (by decide +kernel) (by decide +kernel)) (goodIn_sub (fun _ h => List.mem_cons_of_mem _ (List.mem_append_left _ (List.mem_append_right _ h))) (by decide +kernel))
set_option maxRecDepth 20000 in
theorem gX6_at_X6_checkRow : GoodIn wsX6_at (wsV RX6 69 RX6 yX6_checkRow wsX6_checkRow) := goodIn_app (goodIn_of _ (by decide +kernel)) ggX6_at_X6_checkRow
set_option maxRecDepth 20000 in
theorem ggX6_at_X6_checkRange : GoodIn wsX6_at wsX6_checkRange := goodIn_ca (goodIn_r _ [23, 24, 25] (by decide +kernel) (by decide +kernel)) (goodIn_sub (fun _ h => List.mem_cons_of_mem _ (List.mem_append_right _ h)) (by decide +kernel))
set_option maxRecDepth 20000 in
theorem gX6_at_X6_checkRange : GoodIn wsX6_at (va_wsS RX6 55 yX6_checkRange wsX6_checkRange) := goodIn_app (goodIn_of _ (by decide +kernel)) ggX6_at_X6_checkRange
set_option maxRecDepth 20000 in
theorem ggX6_at_X6_viewOfPresent : GoodIn wsX6_at wsX6_viewOfPresent := goodIn_r _ [29, 30, 31, 14, 32, 33, 34, 35, 36, 37, 38, 39, 40, 41, 42, 43, 44, 45, 46, 47, 48, 49, 50, 51, 18, 52, 53, 8, 3, 9, 54, 55, 56, 57, 58, 59, 60, 61, 62, 63, 64, 65, 66, 67, 68, 69, 70, 71, 72, 73, 74, 75, 76, 77, 78, 79, 80, 81, 82, 83, 84, 85, 86, 87, 88, 89, 90, 91, 92, 93, 94, 95, 96, 97, 98, 99, 100, 101, 102, 103, 104, 105, 106, 107, 108, 109, 110, 111, 112, 113, 114, 115, 116, 117, 118, 119, 120, 121, 122, 123, 124, 125, 126, 127, 128, 129, 152, 153, 154, 155, 156, 157, 158, 159, 160, 161, 162, 163, 164, 165, 166, 167, 168, 169, 170, 171, 172, 173, 174, 175, 176, 177, 178, 179, 180, 181, 182] (by decide +kernel) (by decide +kernel)
set_option maxRecDepth 20000 in
theorem gX6_at_X6_viewOfPresent : GoodIn wsX6_at (wsV RX6 139 RX6 yX6_viewOfPresent wsX6_viewOfPresent) := goodIn_app (goodIn_of _ (by decide +kernel)) ggX6_at_X6_viewOfPresent
set_option maxRecDepth 20000 in
theorem ggX6_at_X6_rowNumber : GoodIn wsX6_at wsX6_rowNumber := goodIn_r _ [133, 14, 134, 135, 136, 18, 137, 138, 60, 61, 62, 63, 8, 3, 9, 139, 50, 51, 52, 53, 140, 141, 142, 36, 143, 43, 42, 40, 144, 145, 146, 147, 148, 149, 150, 151, 104, 152, 153, 154, 155, 156, 157, 158, 159, 160, 161, 162, 163, 164, 165, 166, 167, 168, 169, 170, 171, 172, 173, 174, 175, 176, 177, 178] (by decide +kernel) (by decide +kernel)
set_option maxRecDepth 20000 in
theorem gX6_at_X6_rowNumber : GoodIn wsX6_at (wsV RX6 195 RX6 yX6_rowNumber wsX6_rowNumber) := goodIn_app (goodIn_of _ (by decide +kernel)) ggX6_at_X6_rowNumber
theorem dX6_at_0 : decode cX6_at 0 = .ok (.iload_n 1, 1) := by decide +kernel
theorem dX6_at_1 : decode cX6_at 1 = .ok (.invokestatic 66, 3) := by decide +kernel
theorem dX6_at_4 : decode cX6_at 4 = .ok (.aload_n 0, 1) := by decide +kernel
theorem dX6_at_5 : decode cX6_at 5 = .ok (.iload_n 2, 1) := by decide +kernel
theorem dX6_at_6 : decode cX6_at 6 = .ok (.invokevirtual 69, 3) := by decide +kernel
theorem dX6_at_9 : decode cX6_at 9 = .ok (.iload_n 3, 1) := by decide +kernel
theorem dX6_at_10 : decode cX6_at 10 = .ok (.iconst 0, 1) := by decide +kernel
theorem dX6_at_11 : decode cX6_at 11 = .ok (.iconst 2, 1) := by decide +kernel
theorem dX6_at_12 : decode cX6_at 12 = .ok (.invokestatic 55, 3) := by decide +kernel
theorem dX6_at_15 : decode cX6_at 15 = .ok (.aload_n 0, 1) := by decide +kernel
theorem dX6_at_16 : decode cX6_at 16 = .ok (.aload_n 0, 1) := by decide +kernel
theorem dX6_at_17 : decode cX6_at 17 = .ok (.invokevirtual 139, 3) := by decide +kernel
theorem dX6_at_20 : decode cX6_at 20 = .ok (.iload_n 1, 1) := by decide +kernel
theorem dX6_at_21 : decode cX6_at 21 = .ok (.iload_n 2, 1) := by decide +kernel
theorem dX6_at_22 : decode cX6_at 22 = .ok (.iload_n 3, 1) := by decide +kernel
theorem dX6_at_23 : decode cX6_at 23 = .ok (.invokevirtual 195, 3) := by decide +kernel
theorem dX6_at_26 : decode cX6_at 26 = .ok (.ireturn, 1) := by decide +kernel
set_option maxRecDepth 20000 in
theorem ggX6_output_X6_checkOutput : GoodIn wsX6_output wsX6_checkOutput := goodIn_ca (goodIn_r _ [4, 5, 6, 7, 8, 3, 9] (by decide +kernel) (by decide +kernel)) (goodIn_sub (fun _ h => List.mem_cons_of_mem _ (List.mem_append_left _ (List.mem_append_right _ h))) (by decide +kernel))
set_option maxRecDepth 20000 in
theorem gX6_output_X6_checkOutput : GoodIn wsX6_output (va_wsS RX6 66 yX6_checkOutput wsX6_checkOutput) := goodIn_app (goodIn_of _ (by decide +kernel)) ggX6_output_X6_checkOutput
set_option maxRecDepth 20000 in
theorem ggX6_output_X6_checkRange : GoodIn wsX6_output wsX6_checkRange := goodIn_ca (goodIn_r _ [12, 13, 14] (by decide +kernel) (by decide +kernel)) (goodIn_sub (fun _ h => List.mem_cons_of_mem _ (List.mem_append_right _ h)) (by decide +kernel))
set_option maxRecDepth 20000 in
theorem gX6_output_X6_checkRange : GoodIn wsX6_output (va_wsS RX6 55 yX6_checkRange wsX6_checkRange) := goodIn_app (goodIn_of _ (by decide +kernel)) ggX6_output_X6_checkRange
set_option maxRecDepth 20000 in
theorem ggX6_output_X6_viewOfPresent : GoodIn wsX6_output wsX6_viewOfPresent := goodIn_r _ [18, 19, 20, 21, 22, 23, 24, 25, 26, 27, 28, 29, 30, 31, 32, 33, 34, 35, 36, 37, 38, 39, 40, 41, 42, 43, 44, 8, 3, 9, 45, 46, 47, 48, 49, 50, 51, 52, 53, 54, 55, 56, 57, 58, 59, 60, 61, 62, 63, 64, 65, 66, 67, 68, 69, 70, 71, 72, 73, 74, 75, 76, 77, 78, 79, 80, 81, 82, 83, 84, 85, 86, 87, 88, 89, 90, 91, 92, 93, 94, 95, 96, 97, 98, 99, 100, 101, 102, 103, 104, 105, 106, 107, 108, 109, 110, 111, 112, 113, 114, 115, 116, 117, 118, 119, 120, 163, 164, 165, 166, 167, 168, 169, 170, 171, 172, 173, 174, 175, 176, 177, 178, 179, 180, 181, 182, 183, 184, 185, 186, 187, 188, 189, 190, 191, 192, 193] (by decide +kernel) (by decide +kernel)
set_option maxRecDepth 20000 in
theorem gX6_output_X6_viewOfPresent : GoodIn wsX6_output (wsV RX6 139 RX6 yX6_viewOfPresent wsX6_viewOfPresent) := goodIn_app (goodIn_of _ (by decide +kernel)) ggX6_output_X6_viewOfPresent
set_option maxRecDepth 20000 in
theorem ggX6_output_X6_outputNumber : GoodIn wsX6_output wsX6_outputNumber := goodIn_r _ [124, 21, 125, 51, 52, 42, 53, 54, 8, 3, 9, 126, 56, 57, 58, 59, 60, 61, 127, 128, 129, 130, 131, 132, 40, 41, 43, 44, 133, 134, 135, 136, 137, 138, 139, 140, 141, 142, 143, 144, 145, 26, 146, 32, 28, 30, 33, 34, 96, 55, 147, 148, 149, 150, 151, 152, 153, 154, 155, 156, 157, 158, 94, 120, 103, 104, 105, 106, 107, 108, 159, 160, 161, 162, 163, 164, 165, 166, 167, 168, 169, 170, 171, 172, 173, 174, 175, 176, 177, 178, 179, 180, 181, 182, 183, 184, 185, 186, 187, 188, 189] (by decide +kernel) (by decide +kernel)
set_option maxRecDepth 20000 in
theorem gX6_output_X6_outputNumber : GoodIn wsX6_output (wsV RX6 199 RX6 yX6_outputNumber wsX6_outputNumber) := goodIn_app (goodIn_of _ (by decide +kernel)) ggX6_output_X6_outputNumber
theorem dX6_output_0 : decode cX6_output 0 = .ok (.iload_n 1, 1) := by decide +kernel
theorem dX6_output_1 : decode cX6_output 1 = .ok (.invokestatic 66, 3) := by decide +kernel
theorem dX6_output_4 : decode cX6_output 4 = .ok (.iload_n 2, 1) := by decide +kernel
theorem dX6_output_5 : decode cX6_output 5 = .ok (.iconst 0, 1) := by decide +kernel
theorem dX6_output_6 : decode cX6_output 6 = .ok (.bipush 10, 2) := by decide +kernel
theorem dX6_output_8 : decode cX6_output 8 = .ok (.invokestatic 55, 3) := by decide +kernel
theorem dX6_output_11 : decode cX6_output 11 = .ok (.aload_n 0, 1) := by decide +kernel
theorem dX6_output_12 : decode cX6_output 12 = .ok (.aload_n 0, 1) := by decide +kernel
theorem dX6_output_13 : decode cX6_output 13 = .ok (.invokevirtual 139, 3) := by decide +kernel
theorem dX6_output_16 : decode cX6_output 16 = .ok (.iload_n 1, 1) := by decide +kernel
theorem dX6_output_17 : decode cX6_output 17 = .ok (.iload_n 2, 1) := by decide +kernel
theorem dX6_output_18 : decode cX6_output 18 = .ok (.invokevirtual 199, 3) := by decide +kernel
theorem dX6_output_21 : decode cX6_output 21 = .ok (.ireturn, 1) := by decide +kernel
set_option maxRecDepth 20000 in
theorem ggX6_product_X6_checkOutput : GoodIn wsX6_product wsX6_checkOutput := goodIn_ca (goodIn_r _ [4, 5, 6, 7, 8, 3, 9] (by decide +kernel) (by decide +kernel)) (goodIn_sub (fun _ h => List.mem_cons_of_mem _ (List.mem_append_left _ (List.mem_append_right _ h))) (by decide +kernel))
set_option maxRecDepth 20000 in
theorem gX6_product_X6_checkOutput : GoodIn wsX6_product (va_wsS RX6 66 yX6_checkOutput wsX6_checkOutput) := goodIn_app (goodIn_of _ (by decide +kernel)) ggX6_product_X6_checkOutput
set_option maxRecDepth 20000 in
theorem ggX6_product_X6_checkRange : GoodIn wsX6_product wsX6_checkRange := goodIn_ca (goodIn_r _ [12, 13, 14] (by decide +kernel) (by decide +kernel)) (goodIn_sub (fun _ h => List.mem_cons_of_mem _ (List.mem_append_right _ h)) (by decide +kernel))
set_option maxRecDepth 20000 in
theorem gX6_product_X6_checkRange : GoodIn wsX6_product (va_wsS RX6 55 yX6_checkRange wsX6_checkRange) := goodIn_app (goodIn_of _ (by decide +kernel)) ggX6_product_X6_checkRange
set_option maxRecDepth 20000 in
theorem ggX6_product_X6_viewOfPresent : GoodIn wsX6_product wsX6_viewOfPresent := goodIn_r _ [18, 19, 20, 21, 22, 23, 24, 25, 26, 27, 28, 29, 30, 31, 32, 33, 34, 35, 36, 37, 38, 39, 40, 41, 42, 43, 44, 8, 3, 9, 45, 46, 47, 48, 49, 50, 51, 52, 53, 54, 55, 56, 57, 58, 59, 60, 61, 62, 63, 64, 65, 66, 67, 68, 69, 70, 71, 72, 73, 74, 75, 76, 77, 78, 79, 80, 81, 82, 83, 84, 85, 86, 87, 88, 89, 90, 91, 92, 93, 94, 95, 96, 97, 98, 99, 100, 101, 102, 103, 104, 105, 106, 107, 108, 109, 110, 111, 112, 113, 114, 115, 116, 117, 118, 119, 120, 130, 131, 132, 133, 134, 135, 136, 137, 138, 139, 140, 141, 142, 143, 144, 145, 146, 147, 148, 149, 150, 151, 152, 153, 154, 155, 156, 157, 158, 159, 160] (by decide +kernel) (by decide +kernel)
set_option maxRecDepth 20000 in
theorem gX6_product_X6_viewOfPresent : GoodIn wsX6_product (wsV RX6 139 RX6 yX6_viewOfPresent wsX6_viewOfPresent) := goodIn_app (goodIn_of _ (by decide +kernel)) ggX6_product_X6_viewOfPresent
set_option maxRecDepth 20000 in
theorem ggX6_product_X5_productNumber : GoodIn wsX6_product wsX5_productNumber := goodIn_r _ [124, 28, 125, 126, 127, 26, 128, 96, 94, 8, 3, 9, 129, 86, 37, 87, 88, 36, 38, 89, 46, 47, 48, 49, 55, 56, 57, 58, 59, 60, 61, 116, 117, 118, 119, 120, 103, 104, 105, 106, 107, 108, 145, 146, 147, 148, 149, 150, 151, 152, 153, 154, 155, 156] (by decide +kernel) (by decide +kernel)
set_option maxRecDepth 20000 in
theorem gX6_product_X5_productNumber : GoodIn wsX6_product (wsV RX6 203 RX5 yX5_productNumber wsX5_productNumber) := goodIn_app (goodIn_of _ (by decide +kernel)) ggX6_product_X5_productNumber
theorem dX6_product_0 : decode cX6_product 0 = .ok (.iload_n 1, 1) := by decide +kernel
theorem dX6_product_1 : decode cX6_product 1 = .ok (.invokestatic 66, 3) := by decide +kernel
theorem dX6_product_4 : decode cX6_product 4 = .ok (.iload_n 2, 1) := by decide +kernel
theorem dX6_product_5 : decode cX6_product 5 = .ok (.iconst 0, 1) := by decide +kernel
theorem dX6_product_6 : decode cX6_product 6 = .ok (.bipush 63, 2) := by decide +kernel
theorem dX6_product_8 : decode cX6_product 8 = .ok (.invokestatic 55, 3) := by decide +kernel
theorem dX6_product_11 : decode cX6_product 11 = .ok (.iload_n 3, 1) := by decide +kernel
theorem dX6_product_12 : decode cX6_product 12 = .ok (.iconst 0, 1) := by decide +kernel
theorem dX6_product_13 : decode cX6_product 13 = .ok (.iconst 3, 1) := by decide +kernel
theorem dX6_product_14 : decode cX6_product 14 = .ok (.invokestatic 55, 3) := by decide +kernel
theorem dX6_product_17 : decode cX6_product 17 = .ok (.aload_n 0, 1) := by decide +kernel
theorem dX6_product_18 : decode cX6_product 18 = .ok (.invokevirtual 139, 3) := by decide +kernel
theorem dX6_product_21 : decode cX6_product 21 = .ok (.iload_n 1, 1) := by decide +kernel
theorem dX6_product_22 : decode cX6_product 22 = .ok (.iload_n 2, 1) := by decide +kernel
theorem dX6_product_23 : decode cX6_product 23 = .ok (.iload_n 3, 1) := by decide +kernel
theorem dX6_product_24 : decode cX6_product 24 = .ok (.invokevirtual 203, 3) := by decide +kernel
theorem dX6_product_27 : decode cX6_product 27 = .ok (.ireturn, 1) := by decide +kernel
set_option maxRecDepth 20000 in
theorem ggX6_count_X6_checkRange : GoodIn wsX6_count wsX6_checkRange := goodIn_ca (goodIn_r _ [4, 5, 6] (by decide +kernel) (by decide +kernel)) (goodIn_sub (fun _ h => List.mem_cons_of_mem _ (List.mem_append_right _ h)) (by decide +kernel))
set_option maxRecDepth 20000 in
theorem gX6_count_X6_checkRange : GoodIn wsX6_count (va_wsS RX6 55 yX6_checkRange wsX6_checkRange) := goodIn_app (goodIn_of _ (by decide +kernel)) ggX6_count_X6_checkRange
set_option maxRecDepth 20000 in
theorem ggX6_count_X6_viewOfPresent : GoodIn wsX6_count wsX6_viewOfPresent := goodIn_r _ [10, 11, 12, 13, 14, 15, 16, 17, 18, 19, 20, 21, 22, 23, 24, 25, 26, 27, 28, 29, 30, 31, 32, 33, 34, 35, 36, 37, 3, 38, 39, 40, 41, 42, 43, 44, 45, 46, 47, 48, 49, 50, 51, 52, 53, 54, 55, 56, 57, 58, 59, 60, 61, 62, 63, 64, 65, 66, 67, 68, 69, 70, 71, 72, 73, 74, 75, 76, 77, 78, 79, 80, 81, 82, 83, 84, 85, 86, 87, 88, 89, 90, 91, 92, 93, 94, 95, 96, 97, 98, 99, 100, 101, 102, 103, 104, 105, 106, 107, 108, 109, 110, 111, 112, 113, 114, 123, 124, 125, 126, 127, 128, 129, 130, 131, 132, 133, 134, 135, 136, 137, 138, 139, 140, 141, 142, 143, 144, 145, 146, 147, 148, 149, 150, 151, 152, 153] (by decide +kernel) (by decide +kernel)
set_option maxRecDepth 20000 in
theorem gX6_count_X6_viewOfPresent : GoodIn wsX6_count (wsV RX6 139 RX6 yX6_viewOfPresent wsX6_viewOfPresent) := goodIn_app (goodIn_of _ (by decide +kernel)) ggX6_count_X6_viewOfPresent
set_option maxRecDepth 20000 in
theorem ggX6_count_X6_mazeNumber : GoodIn wsX6_count wsX6_mazeNumber := goodIn_r _ [118, 13, 119, 120, 121, 34, 122, 123, 124, 125, 126, 127, 128, 129, 130, 131, 132, 133, 134, 135, 136, 137, 138, 139, 140, 141, 142, 143, 144, 145, 146, 147, 148, 149, 154, 155] (by decide +kernel) (by decide +kernel)
set_option maxRecDepth 20000 in
theorem gX6_count_X6_mazeNumber : GoodIn wsX6_count (wsV RX6 207 RX6 yX6_mazeNumber wsX6_mazeNumber) := goodIn_app (goodIn_of _ (by decide +kernel)) ggX6_count_X6_mazeNumber
theorem dX6_count_0 : decode cX6_count 0 = .ok (.iload_n 1, 1) := by decide +kernel
theorem dX6_count_1 : decode cX6_count 1 = .ok (.iconst 0, 1) := by decide +kernel
theorem dX6_count_2 : decode cX6_count 2 = .ok (.bipush 10, 2) := by decide +kernel
theorem dX6_count_4 : decode cX6_count 4 = .ok (.invokestatic 55, 3) := by decide +kernel
theorem dX6_count_7 : decode cX6_count 7 = .ok (.aload_n 0, 1) := by decide +kernel
theorem dX6_count_8 : decode cX6_count 8 = .ok (.aload_n 0, 1) := by decide +kernel
theorem dX6_count_9 : decode cX6_count 9 = .ok (.invokevirtual 139, 3) := by decide +kernel
theorem dX6_count_12 : decode cX6_count 12 = .ok (.iload_n 1, 1) := by decide +kernel
theorem dX6_count_13 : decode cX6_count 13 = .ok (.invokevirtual 207, 3) := by decide +kernel
theorem dX6_count_16 : decode cX6_count 16 = .ok (.ireturn, 1) := by decide +kernel
set_option maxRecDepth 20000 in
theorem ggX6_ifForgotten_X6_checkInput : GoodIn wsX6_ifForgotten wsX6_checkInput := goodIn_ca (goodIn_r _ [5, 6, 7, 8, 132, 133, 134, 135, 136, 137, 138, 139, 140, 141, 142, 143, 144, 145, 146] (by decide +kernel) (by decide +kernel)) (goodIn_sub (fun _ h => List.mem_cons_of_mem _ (List.mem_append_left _ (List.mem_append_right _ h))) (by decide +kernel))
set_option maxRecDepth 20000 in
theorem gX6_ifForgotten_X6_checkInput : GoodIn wsX6_ifForgotten (wsV RX6 104 RX6 yX6_checkInput wsX6_checkInput) := goodIn_app (goodIn_of _ (by decide +kernel)) ggX6_ifForgotten_X6_checkInput
set_option maxRecDepth 20000 in
theorem ggX6_ifForgotten_X6_checkRange : GoodIn wsX6_ifForgotten wsX6_checkRange := goodIn_ca (goodIn_r _ [11, 12, 13] (by decide +kernel) (by decide +kernel)) (goodIn_sub (fun _ h => List.mem_cons_of_mem _ (List.mem_append_right _ h)) (by decide +kernel))
set_option maxRecDepth 20000 in
theorem gX6_ifForgotten_X6_checkRange : GoodIn wsX6_ifForgotten (va_wsS RX6 55 yX6_checkRange wsX6_checkRange) := goodIn_app (goodIn_of _ (by decide +kernel)) ggX6_ifForgotten_X6_checkRange
set_option maxRecDepth 20000 in
theorem ggX6_ifForgotten_X6_forgottenNumber : GoodIn wsX6_ifForgotten wsX6_forgottenNumber := goodIn_r _ [17, 8, 18, 19, 20, 21, 22, 23, 24, 25, 26, 27, 28, 29, 30, 31, 32, 33, 34, 35, 36, 37, 38, 39, 40, 41, 42, 43, 44, 45, 46, 47, 48, 49, 50, 51, 52, 53, 54, 55, 56, 57, 58, 59, 60, 61, 62, 63, 64, 65, 4, 66, 67, 68, 69, 70, 71, 72, 73, 74, 75, 76, 77, 78, 79, 80, 81, 82, 83, 84, 85, 86, 87, 88, 89, 90, 91, 92, 93, 94, 95, 96, 97, 98, 99, 100, 101, 102, 103, 104, 105, 106, 107, 108, 109, 110, 111, 112, 113, 114, 115, 116, 117, 118, 119, 120, 121, 122, 123, 124, 125, 126, 127, 128, 129, 130, 131, 132, 133, 134, 135, 136, 137, 138, 139, 140, 141, 142, 143, 144, 145, 146, 147, 148, 149, 150, 151, 152, 153, 154, 155, 156, 157, 158, 159, 160, 161, 162] (by decide +kernel) (by decide +kernel)
set_option maxRecDepth 20000 in
theorem gX6_ifForgotten_X6_forgottenNumber : GoodIn wsX6_ifForgotten (wsV RX6 211 RX6 yX6_forgottenNumber wsX6_forgottenNumber) := goodIn_app (goodIn_of _ (by decide +kernel)) ggX6_ifForgotten_X6_forgottenNumber
theorem dX6_ifForgotten_0 : decode cX6_ifForgotten 0 = .ok (.aload_n 0, 1) := by decide +kernel
theorem dX6_ifForgotten_1 : decode cX6_ifForgotten 1 = .ok (.iload_n 1, 1) := by decide +kernel
theorem dX6_ifForgotten_2 : decode cX6_ifForgotten 2 = .ok (.invokevirtual 104, 3) := by decide +kernel
theorem dX6_ifForgotten_5 : decode cX6_ifForgotten 5 = .ok (.iload_n 2, 1) := by decide +kernel
theorem dX6_ifForgotten_6 : decode cX6_ifForgotten 6 = .ok (.iconst 0, 1) := by decide +kernel
theorem dX6_ifForgotten_7 : decode cX6_ifForgotten 7 = .ok (.iconst 1, 1) := by decide +kernel
theorem dX6_ifForgotten_8 : decode cX6_ifForgotten 8 = .ok (.invokestatic 55, 3) := by decide +kernel
theorem dX6_ifForgotten_11 : decode cX6_ifForgotten 11 = .ok (.aload_n 0, 1) := by decide +kernel
theorem dX6_ifForgotten_12 : decode cX6_ifForgotten 12 = .ok (.iload_n 1, 1) := by decide +kernel
theorem dX6_ifForgotten_13 : decode cX6_ifForgotten 13 = .ok (.iload_n 2, 1) := by decide +kernel
theorem dX6_ifForgotten_14 : decode cX6_ifForgotten 14 = .ok (.invokevirtual 211, 3) := by decide +kernel
theorem dX6_ifForgotten_17 : decode cX6_ifForgotten 17 = .ok (.ireturn, 1) := by decide +kernel
set_option maxRecDepth 20000 in
theorem ggX6_needs_X6_checkOutput : GoodIn wsX6_needs wsX6_checkOutput := goodIn_ca (goodIn_r _ [5, 6, 7, 8, 9, 4, 10] (by decide +kernel) (by decide +kernel)) (goodIn_sub (fun _ h => List.mem_cons_of_mem _ (List.mem_append_right _ h)) (by decide +kernel))
set_option maxRecDepth 20000 in
theorem gX6_needs_X6_checkOutput : GoodIn wsX6_needs (va_wsS RX6 66 yX6_checkOutput wsX6_checkOutput) := goodIn_app (goodIn_of _ (by decide +kernel)) ggX6_needs_X6_checkOutput
set_option maxRecDepth 20000 in
theorem ggX6_needs_X3_neededBy : GoodIn wsX6_needs wsX3_neededBy := goodIn_r _ [15, 16, 17, 18, 19, 14, 20, 21, 9, 4, 10, 22, 23, 24, 25, 26, 27, 28, 29, 30, 31, 32, 40, 41, 42, 43, 44, 45, 46, 47] (by decide +kernel) (by decide +kernel)
set_option maxRecDepth 20000 in
theorem gX6_needs_X3_neededBy : GoodIn wsX6_needs (wsV RX6 214 RX3 yX3_neededBy wsX3_neededBy) := goodIn_app (goodIn_of _ (by decide +kernel)) ggX6_needs_X3_neededBy
theorem dX6_needs_0 : decode cX6_needs 0 = .ok (.iload_n 1, 1) := by decide +kernel
theorem dX6_needs_1 : decode cX6_needs 1 = .ok (.invokestatic 66, 3) := by decide +kernel
theorem dX6_needs_4 : decode cX6_needs 4 = .ok (.aload_n 0, 1) := by decide +kernel
theorem dX6_needs_5 : decode cX6_needs 5 = .ok (.getfield 10, 3) := by decide +kernel
theorem dX6_needs_8 : decode cX6_needs 8 = .ok (.iload_n 1, 1) := by decide +kernel
theorem dX6_needs_9 : decode cX6_needs 9 = .ok (.invokevirtual 214, 3) := by decide +kernel
theorem dX6_needs_12 : decode cX6_needs 12 = .ok (.ireturn, 1) := by decide +kernel
set_option maxRecDepth 20000 in
theorem ggX6_harmless_X3_mostHarmless : GoodIn wsX6_harmless wsX3_mostHarmless := goodIn_r _ [6, 7, 8, 9, 10, 11, 12, 13, 14, 15, 16, 17, 18, 19, 20, 21, 5, 22, 23, 24, 25, 26, 27, 28, 29, 30, 31, 32, 33, 34, 35, 36, 44, 45, 46, 47, 48, 49, 50, 51] (by decide +kernel) (by decide +kernel)
set_option maxRecDepth 20000 in
theorem gX6_harmless_X3_mostHarmless : GoodIn wsX6_harmless (wsV RX6 217 RX3 yX3_mostHarmless wsX3_mostHarmless) := goodIn_app (goodIn_of _ (by decide +kernel)) ggX6_harmless_X3_mostHarmless
theorem dX6_harmless_0 : decode cX6_harmless 0 = .ok (.aload_n 0, 1) := by decide +kernel
theorem dX6_harmless_1 : decode cX6_harmless 1 = .ok (.getfield 10, 3) := by decide +kernel
theorem dX6_harmless_4 : decode cX6_harmless 4 = .ok (.invokevirtual 217, 3) := by decide +kernel
theorem dX6_harmless_7 : decode cX6_harmless 7 = .ok (.ireturn, 1) := by decide +kernel
set_option maxRecDepth 20000 in
theorem ggX6_alike_X6_checkOutput : GoodIn wsX6_alike wsX6_checkOutput := goodIn_ca (goodIn_r _ [4, 5, 6, 7, 8, 3, 9] (by decide +kernel) (by decide +kernel)) (goodIn_sub (fun _ h => List.mem_cons_of_mem _ (List.mem_append_right _ h)) (by decide +kernel))
set_option maxRecDepth 20000 in
theorem gX6_alike_X6_checkOutput : GoodIn wsX6_alike (va_wsS RX6 66 yX6_checkOutput wsX6_checkOutput) := goodIn_app (goodIn_of _ (by decide +kernel)) ggX6_alike_X6_checkOutput
set_option maxRecDepth 20000 in
theorem ggX6_alike_X6_viewOfPresent : GoodIn wsX6_alike wsX6_viewOfPresent := goodIn_r _ [13, 14, 15, 16, 17, 18, 19, 20, 21, 22, 23, 24, 25, 26, 27, 28, 29, 30, 31, 32, 33, 34, 35, 36, 37, 38, 39, 8, 3, 9, 40, 41, 42, 43, 44, 45, 46, 47, 48, 49, 50, 51, 52, 53, 54, 55, 56, 57, 58, 59, 60, 61, 62, 63, 64, 65, 66, 67, 68, 69, 70, 71, 72, 73, 74, 75, 76, 77, 78, 79, 80, 81, 82, 83, 84, 85, 86, 87, 88, 89, 90, 91, 92, 93, 94, 95, 96, 97, 98, 99, 100, 101, 102, 103, 104, 105, 106, 107, 108, 109, 110, 111, 112, 113, 114, 115, 124, 125, 126, 127, 128, 129, 130, 131, 132, 133, 134, 135, 136, 137, 138, 139, 140, 141, 142, 143, 144, 145, 146, 147, 148, 149, 150, 151, 152, 153, 154] (by decide +kernel) (by decide +kernel)
set_option maxRecDepth 20000 in
theorem gX6_alike_X6_viewOfPresent : GoodIn wsX6_alike (wsV RX6 139 RX6 yX6_viewOfPresent wsX6_viewOfPresent) := goodIn_app (goodIn_of _ (by decide +kernel)) ggX6_alike_X6_viewOfPresent
set_option maxRecDepth 20000 in
theorem ggX6_alike_X5_sameAnswers : GoodIn wsX6_alike wsX5_sameAnswers := goodIn_r _ [119, 23, 120, 121, 122, 21, 123, 90, 8, 3, 9, 50, 51, 52, 53, 54, 55, 56, 139, 140, 141, 142, 143, 144, 145, 146, 147, 148, 149, 150] (by decide +kernel) (by decide +kernel)
set_option maxRecDepth 20000 in
theorem gX6_alike_X5_sameAnswers : GoodIn wsX6_alike (wsV RX6 220 RX5 yX5_sameAnswers wsX5_sameAnswers) := goodIn_app (goodIn_of _ (by decide +kernel)) ggX6_alike_X5_sameAnswers
theorem dX6_alike_0 : decode cX6_alike 0 = .ok (.iload_n 1, 1) := by decide +kernel
theorem dX6_alike_1 : decode cX6_alike 1 = .ok (.invokestatic 66, 3) := by decide +kernel
theorem dX6_alike_4 : decode cX6_alike 4 = .ok (.iload_n 2, 1) := by decide +kernel
theorem dX6_alike_5 : decode cX6_alike 5 = .ok (.invokestatic 66, 3) := by decide +kernel
theorem dX6_alike_8 : decode cX6_alike 8 = .ok (.aload_n 0, 1) := by decide +kernel
theorem dX6_alike_9 : decode cX6_alike 9 = .ok (.invokevirtual 139, 3) := by decide +kernel
theorem dX6_alike_12 : decode cX6_alike 12 = .ok (.iload_n 1, 1) := by decide +kernel
theorem dX6_alike_13 : decode cX6_alike 13 = .ok (.iload_n 2, 1) := by decide +kernel
theorem dX6_alike_14 : decode cX6_alike 14 = .ok (.invokevirtual 220, 3) := by decide +kernel
theorem dX6_alike_17 : decode cX6_alike 17 = .ok (.ireturn, 1) := by decide +kernel
set_option maxRecDepth 20000 in
theorem ggX6_nearest_X6_checkOutput : GoodIn wsX6_nearest wsX6_checkOutput := goodIn_ca (goodIn_r _ [4, 5, 6, 7, 8, 3, 9] (by decide +kernel) (by decide +kernel)) (goodIn_sub (fun _ h => List.mem_cons_of_mem _ (List.mem_append_right _ h)) (by decide +kernel))
set_option maxRecDepth 20000 in
theorem gX6_nearest_X6_checkOutput : GoodIn wsX6_nearest (va_wsS RX6 66 yX6_checkOutput wsX6_checkOutput) := goodIn_app (goodIn_of _ (by decide +kernel)) ggX6_nearest_X6_checkOutput
set_option maxRecDepth 20000 in
theorem ggX6_nearest_X6_checkRow : GoodIn wsX6_nearest wsX6_checkRow := goodIn_ca (goodIn_r _ [13, 5, 6, 14, 15, 16, 17, 18, 19, 20, 133, 134, 135, 136, 137, 138, 139, 140, 141, 142, 143, 144, 145, 146, 147] (by decide +kernel) (by decide +kernel)) (goodIn_sub (fun _ h => List.mem_cons_of_mem _ (List.mem_append_right _ h)) (by decide +kernel))
set_option maxRecDepth 20000 in
theorem gX6_nearest_X6_checkRow : GoodIn wsX6_nearest (wsV RX6 69 RX6 yX6_checkRow wsX6_checkRow) := goodIn_app (goodIn_of _ (by decide +kernel)) ggX6_nearest_X6_checkRow
set_option maxRecDepth 20000 in
theorem ggX6_nearest_X6_viewOfPresent : GoodIn wsX6_nearest wsX6_viewOfPresent := goodIn_r _ [24, 25, 26, 14, 27, 28, 29, 30, 31, 32, 33, 34, 35, 36, 37, 38, 39, 40, 41, 42, 43, 44, 45, 46, 18, 47, 48, 8, 3, 9, 49, 50, 51, 52, 53, 54, 55, 56, 57, 58, 59, 60, 61, 62, 63, 64, 65, 66, 67, 68, 69, 70, 71, 72, 73, 74, 75, 76, 77, 78, 79, 80, 81, 82, 83, 84, 85, 86, 87, 88, 89, 90, 91, 92, 93, 94, 95, 96, 97, 98, 99, 100, 101, 102, 103, 104, 105, 106, 107, 108, 109, 110, 111, 112, 113, 114, 115, 116, 117, 118, 119, 120, 121, 122, 123, 124, 133, 134, 135, 136, 137, 138, 139, 140, 141, 142, 143, 144, 145, 146, 147, 148, 149, 150, 151, 152, 153, 154, 155, 156, 157, 158, 159, 160, 161, 162, 163] (by decide +kernel) (by decide +kernel)
set_option maxRecDepth 20000 in
theorem gX6_nearest_X6_viewOfPresent : GoodIn wsX6_nearest (wsV RX6 139 RX6 yX6_viewOfPresent wsX6_viewOfPresent) := goodIn_app (goodIn_of _ (by decide +kernel)) ggX6_nearest_X6_viewOfPresent
set_option maxRecDepth 20000 in
theorem ggX6_nearest_X5_nearestUndecided : GoodIn wsX6_nearest wsX5_nearestUndecided := goodIn_r _ [128, 124, 107, 108, 109, 110, 111, 112, 129, 130, 131, 31, 132, 38, 8, 3, 9, 148, 149, 150, 151, 152, 153, 154, 155, 156, 157, 158, 159] (by decide +kernel) (by decide +kernel)
set_option maxRecDepth 20000 in
theorem gX6_nearest_X5_nearestUndecided : GoodIn wsX6_nearest (wsV RX6 223 RX5 yX5_nearestUndecided wsX5_nearestUndecided) := goodIn_app (goodIn_of _ (by decide +kernel)) ggX6_nearest_X5_nearestUndecided
theorem dX6_nearest_0 : decode cX6_nearest 0 = .ok (.iload_n 1, 1) := by decide +kernel
theorem dX6_nearest_1 : decode cX6_nearest 1 = .ok (.invokestatic 66, 3) := by decide +kernel
theorem dX6_nearest_4 : decode cX6_nearest 4 = .ok (.aload_n 0, 1) := by decide +kernel
theorem dX6_nearest_5 : decode cX6_nearest 5 = .ok (.iload_n 2, 1) := by decide +kernel
theorem dX6_nearest_6 : decode cX6_nearest 6 = .ok (.invokevirtual 69, 3) := by decide +kernel
theorem dX6_nearest_9 : decode cX6_nearest 9 = .ok (.aload_n 0, 1) := by decide +kernel
theorem dX6_nearest_10 : decode cX6_nearest 10 = .ok (.invokevirtual 139, 3) := by decide +kernel
theorem dX6_nearest_13 : decode cX6_nearest 13 = .ok (.iload_n 1, 1) := by decide +kernel
theorem dX6_nearest_14 : decode cX6_nearest 14 = .ok (.iload_n 2, 1) := by decide +kernel
theorem dX6_nearest_15 : decode cX6_nearest 15 = .ok (.invokevirtual 223, 3) := by decide +kernel
theorem dX6_nearest_18 : decode cX6_nearest 18 = .ok (.ireturn, 1) := by decide +kernel
set_option maxRecDepth 20000 in
theorem ggX6_decidedShare_X6_viewOfPresent : GoodIn wsX6_decidedShare wsX6_viewOfPresent := goodIn_r _ [5, 6, 7, 8, 9, 10, 11, 12, 13, 14, 15, 16, 17, 18, 19, 20, 21, 22, 23, 24, 25, 26, 27, 28, 29, 30, 31, 32, 4, 33, 34, 35, 36, 37, 38, 39, 40, 41, 42, 43, 44, 45, 46, 47, 48, 49, 50, 51, 52, 53, 54, 55, 56, 57, 58, 59, 60, 61, 62, 63, 64, 65, 66, 67, 68, 69, 70, 71, 72, 73, 74, 75, 76, 77, 78, 79, 80, 81, 82, 83, 84, 85, 86, 87, 88, 89, 90, 91, 92, 93, 94, 95, 96, 97, 98, 99, 100, 101, 102, 103, 104, 105, 106, 107, 108, 109, 122, 123, 124, 125, 126, 127, 128, 129, 130, 131, 132, 133, 134, 135, 136, 137, 138, 139, 140, 141, 142, 143, 144, 145, 146, 147, 148, 149, 150, 151, 152] (by decide +kernel) (by decide +kernel)
set_option maxRecDepth 20000 in
theorem gX6_decidedShare_X6_viewOfPresent : GoodIn wsX6_decidedShare (wsV RX6 139 RX6 yX6_viewOfPresent wsX6_viewOfPresent) := goodIn_app (goodIn_of _ (by decide +kernel)) ggX6_decidedShare_X6_viewOfPresent
set_option maxRecDepth 20000 in
theorem ggX6_decidedShare_X6_shareDecided : GoodIn wsX6_decidedShare wsX6_shareDecided := goodIn_r _ [113, 8, 114, 115, 40, 41, 29, 42, 43, 32, 4, 33, 116, 27, 28, 30, 31, 117, 45, 46, 47, 48, 49, 50, 118, 119, 120, 13, 121, 20, 122, 123, 124, 125, 126, 127, 128, 129, 130, 131, 132, 133, 134, 135, 136, 137, 138, 139, 140, 141, 142, 143, 144, 145, 146, 147, 148] (by decide +kernel) (by decide +kernel)
set_option maxRecDepth 20000 in
theorem gX6_decidedShare_X6_shareDecided : GoodIn wsX6_decidedShare (wsV RX6 226 RX6 yX6_shareDecided wsX6_shareDecided) := goodIn_app (goodIn_of _ (by decide +kernel)) ggX6_decidedShare_X6_shareDecided
theorem dX6_decidedShare_0 : decode cX6_decidedShare 0 = .ok (.aload_n 0, 1) := by decide +kernel
theorem dX6_decidedShare_1 : decode cX6_decidedShare 1 = .ok (.aload_n 0, 1) := by decide +kernel
theorem dX6_decidedShare_2 : decode cX6_decidedShare 2 = .ok (.invokevirtual 139, 3) := by decide +kernel
theorem dX6_decidedShare_5 : decode cX6_decidedShare 5 = .ok (.invokevirtual 226, 3) := by decide +kernel
theorem dX6_decidedShare_8 : decode cX6_decidedShare 8 = .ok (.dreturn, 1) := by decide +kernel
set_option maxRecDepth 20000 in
theorem ggX6_digest_X6_viewOfPresent : GoodIn wsX6_digest wsX6_viewOfPresent := goodIn_r _ [8, 9, 10, 2, 11, 12, 13, 14, 15, 16, 17, 18, 19, 20, 21, 22, 23, 24, 25, 26, 27, 28, 29, 30, 31, 32, 33, 34, 7, 35, 36, 37, 38, 39, 40, 41, 42, 43, 44, 45, 46, 47, 48, 49, 50, 51, 52, 53, 54, 55, 56, 57, 58, 59, 60, 61, 62, 63, 64, 65, 66, 67, 68, 69, 70, 71, 72, 73, 74, 75, 76, 77, 78, 79, 80, 81, 82, 83, 84, 85, 86, 87, 88, 89, 90, 91, 92, 93, 94, 95, 96, 97, 98, 99, 100, 101, 102, 103, 104, 105, 106, 107, 108, 109, 110, 111, 261, 262, 263, 264, 265, 266, 267, 268, 269, 270, 271, 272, 273, 274, 275, 276, 277, 278, 279, 280, 281, 282, 283, 284, 285, 286, 287, 288, 289, 290, 291] (by decide +kernel) (by decide +kernel)
set_option maxRecDepth 20000 in
theorem gX6_digest_X6_viewOfPresent : GoodIn wsX6_digest (wsV RX6 139 RX6 yX6_viewOfPresent wsX6_viewOfPresent) := goodIn_app (goodIn_of _ (by decide +kernel)) ggX6_digest_X6_viewOfPresent
set_option maxRecDepth 20000 in
theorem ggX6_digest_X6_mazeNumber : GoodIn wsX6_digest wsX6_mazeNumber := goodIn_r _ [115, 2, 116, 117, 118, 31, 119, 261, 262, 263, 264, 265, 266, 267, 268, 269, 270, 271, 272, 273, 274, 275, 276, 277, 278, 279, 280, 281, 282, 283, 284, 285, 286, 287, 292, 293] (by decide +kernel) (by decide +kernel)
set_option maxRecDepth 20000 in
theorem gX6_digest_X6_mazeNumber : GoodIn wsX6_digest (wsV RX6 207 RX6 yX6_mazeNumber wsX6_mazeNumber) := goodIn_app (goodIn_of _ (by decide +kernel)) ggX6_digest_X6_mazeNumber
set_option maxRecDepth 20000 in
theorem ggX6_digest_X6_mixed : GoodIn wsX6_digest wsX6_mixed := goodIn_r _ [122, 123] (by decide +kernel) (by decide +kernel)
set_option maxRecDepth 20000 in
theorem gX6_digest_X6_mixed : GoodIn wsX6_digest (va_wsS RX6 232 yX6_mixed wsX6_mixed) := goodIn_app (goodIn_of _ (by decide +kernel)) ggX6_digest_X6_mixed
set_option maxRecDepth 20000 in
theorem ggX6_digest_X6_mixedRows : GoodIn wsX6_digest wsX6_mixedRows := goodIn_r _ [127, 2, 128, 129, 130, 31, 131, 132, 133, 134, 135, 7, 136, 137, 138, 139, 140, 141, 42, 43, 44, 45, 34, 35, 142, 29, 30, 32, 33, 143, 144, 145, 15, 146, 22, 21, 19, 147, 148, 149, 150, 151, 152, 153, 154, 86, 120, 121, 122, 123, 261, 262, 263, 264, 265, 266, 267, 268, 269, 270, 271, 272, 273, 274, 275, 276, 277, 278, 279, 280, 281, 282, 283, 284, 285, 286, 287] (by decide +kernel) (by decide +kernel)
set_option maxRecDepth 20000 in
theorem gX6_digest_X6_mixedRows : GoodIn wsX6_digest (wsV RX6 236 RX6 yX6_mixedRows wsX6_mixedRows) := goodIn_app (goodIn_of _ (by decide +kernel)) ggX6_digest_X6_mixedRows
set_option maxRecDepth 20000 in
theorem ggX6_digest_X6_mixedOutput : GoodIn wsX6_digest wsX6_mixedOutput := goodIn_r _ [158, 2, 159, 160, 161, 7, 162, 163, 42, 43, 31, 44, 45, 34, 35, 164, 47, 48, 49, 50, 51, 52, 128, 129, 130, 131, 132, 165, 29, 30, 32, 33, 166, 167, 168, 169, 170, 171, 172, 173, 174, 175, 176, 177, 178, 15, 179, 21, 17, 19, 22, 23, 87, 46, 180, 181, 182, 183, 184, 185, 186, 187, 188, 189, 190, 191, 85, 111, 94, 95, 96, 97, 98, 99, 192, 193, 194, 195, 120, 121, 122, 123, 196, 197, 198, 199, 200, 201, 77, 26, 78, 79, 25, 27, 80, 37, 38, 39, 40, 107, 108, 109, 110, 202, 203, 204, 205, 141, 206, 142, 207, 208, 209, 210, 151, 152, 153, 154, 86, 211, 212, 213, 214, 215, 216, 217, 218, 261, 262, 263, 264, 265, 266, 267, 268, 269, 270, 271, 272, 273, 274, 275, 276, 277, 278, 279, 280, 281, 282, 283, 284, 285, 286, 287] (by decide +kernel) (by decide +kernel)
set_option maxRecDepth 20000 in
theorem gX6_digest_X6_mixedOutput : GoodIn wsX6_digest (wsV RX6 240 RX6 yX6_mixedOutput wsX6_mixedOutput) := goodIn_app (goodIn_of _ (by decide +kernel)) ggX6_digest_X6_mixedOutput
set_option maxRecDepth 20000 in
theorem ggX6_digest_X6_forgottenNumber : GoodIn wsX6_digest wsX6_forgottenNumber := goodIn_r _ [222, 2, 223, 11, 224, 225, 226, 31, 227, 228, 229, 25, 26, 27, 230, 231, 232, 233, 45, 33, 206, 37, 38, 39, 40, 234, 47, 48, 49, 50, 51, 52, 12, 13, 14, 15, 16, 17, 18, 19, 20, 21, 22, 23, 24, 28, 29, 30, 32, 34, 7, 35, 36, 41, 42, 43, 44, 46, 53, 54, 55, 56, 57, 58, 59, 60, 61, 62, 63, 64, 65, 66, 67, 68, 69, 70, 71, 72, 73, 74, 75, 76, 77, 78, 79, 80, 81, 82, 83, 84, 85, 86, 87, 88, 89, 90, 91, 92, 93, 94, 95, 96, 97, 98, 99, 100, 101, 102, 103, 104, 105, 106, 107, 108, 109, 110, 111, 261, 262, 263, 264, 265, 266, 267, 268, 269, 270, 271, 272, 273, 274, 275, 276, 277, 278, 279, 280, 281, 282, 283, 284, 285, 286, 287, 288, 289, 290, 291] (by decide +kernel) (by decide +kernel)
set_option maxRecDepth 20000 in
theorem gX6_digest_X6_forgottenNumber : GoodIn wsX6_digest (wsV RX6 211 RX6 yX6_forgottenNumber wsX6_forgottenNumber) := goodIn_app (goodIn_of _ (by decide +kernel)) ggX6_digest_X6_forgottenNumber
set_option maxRecDepth 20000 in
theorem ggX6_digest_X3_mostHarmless : GoodIn wsX6_digest wsX3_mostHarmless := goodIn_r _ [238, 132, 239, 25, 26, 27, 240, 94, 95, 96, 97, 98, 99, 241, 231, 232, 31, 233, 45, 33, 206, 37, 38, 39, 40, 234, 47, 48, 49, 50, 51, 52, 268, 269, 270, 271, 272, 273, 274, 275] (by decide +kernel) (by decide +kernel)
set_option maxRecDepth 20000 in
theorem gX6_digest_X3_mostHarmless : GoodIn wsX6_digest (wsV RX6 217 RX3 yX3_mostHarmless wsX3_mostHarmless) := goodIn_app (goodIn_of _ (by decide +kernel)) ggX6_digest_X3_mostHarmless
set_option maxRecDepth 20000 in
theorem ggX6_digest_X6_shareDecided : GoodIn wsX6_digest wsX6_shareDecided := goodIn_r _ [245, 2, 246, 163, 42, 43, 31, 44, 45, 34, 7, 35, 165, 29, 30, 32, 33, 164, 47, 48, 49, 50, 51, 52, 247, 216, 217, 15, 218, 22, 261, 262, 263, 264, 265, 266, 267, 268, 269, 270, 271, 272, 273, 274, 275, 276, 277, 278, 279, 280, 281, 282, 283, 284, 285, 286, 287] (by decide +kernel) (by decide +kernel)
set_option maxRecDepth 20000 in
theorem gX6_digest_X6_shareDecided : GoodIn wsX6_digest (wsV RX6 226 RX6 yX6_shareDecided wsX6_shareDecided) := goodIn_app (goodIn_of _ (by decide +kernel)) ggX6_digest_X6_shareDecided
set_option maxRecDepth 20000 in
theorem ggX6_digest_X6_bitsOfShare : GoodIn wsX6_digest wsX6_bitsOfShare := goodIn_r _ [250, 251, 252, 253] (by decide +kernel) (by decide +kernel)
set_option maxRecDepth 20000 in
theorem gX6_digest_X6_bitsOfShare : GoodIn wsX6_digest (va_wsS RX6 243 yX6_bitsOfShare wsX6_bitsOfShare) := goodIn_app (goodIn_of _ (by decide +kernel)) ggX6_digest_X6_bitsOfShare
set_option maxRecDepth 20000 in
theorem ggX6_digest_X4_mixedInto : GoodIn wsX6_digest wsX4_mixedInto := goodIn_r _ [258, 259, 260, 121, 7, 122, 123, 294, 295] (by decide +kernel) (by decide +kernel)
set_option maxRecDepth 20000 in
theorem gX6_digest_X4_mixedInto : GoodIn wsX6_digest (wsV RX6 247 RX4 yX4_mixedInto wsX4_mixedInto) := goodIn_app (goodIn_of _ (by decide +kernel)) ggX6_digest_X4_mixedInto
theorem dX6_digest_0 : decode cX6_digest 0 = .ok (.aload_n 0, 1) := by decide +kernel
theorem dX6_digest_1 : decode cX6_digest 1 = .ok (.invokevirtual 139, 3) := by decide +kernel
theorem dX6_digest_4 : decode cX6_digest 4 = .ok (.astore_n 1, 1) := by decide +kernel
theorem dX6_digest_5 : decode cX6_digest 5 = .ok (.ldc2_w 230, 3) := by decide +kernel
theorem dX6_digest_8 : decode cX6_digest 8 = .ok (.lstore_n 2, 1) := by decide +kernel
theorem dX6_digest_9 : decode cX6_digest 9 = .ok (.iconst 0, 1) := by decide +kernel
theorem dX6_digest_10 : decode cX6_digest 10 = .ok (.istore 4, 2) := by decide +kernel
theorem dX6_digest_12 : decode cX6_digest 12 = .ok (.iload 4, 2) := by decide +kernel
theorem dX6_digest_14 : decode cX6_digest 14 = .ok (.bipush 10, 2) := by decide +kernel
theorem dX6_digest_16 : decode cX6_digest 16 = .ok (.if_icmp .gt 22, 3) := by decide +kernel
theorem dX6_digest_19 : decode cX6_digest 19 = .ok (.lload_n 2, 1) := by decide +kernel
theorem dX6_digest_20 : decode cX6_digest 20 = .ok (.aload_n 0, 1) := by decide +kernel
theorem dX6_digest_21 : decode cX6_digest 21 = .ok (.aload_n 1, 1) := by decide +kernel
theorem dX6_digest_22 : decode cX6_digest 22 = .ok (.iload 4, 2) := by decide +kernel
theorem dX6_digest_24 : decode cX6_digest 24 = .ok (.invokevirtual 207, 3) := by decide +kernel
theorem dX6_digest_27 : decode cX6_digest 27 = .ok (.i2l, 1) := by decide +kernel
theorem dX6_digest_28 : decode cX6_digest 28 = .ok (.invokestatic 232, 3) := by decide +kernel
theorem dX6_digest_31 : decode cX6_digest 31 = .ok (.lstore_n 2, 1) := by decide +kernel
theorem dX6_digest_32 : decode cX6_digest 32 = .ok (.iinc 4 1, 3) := by decide +kernel
theorem dX6_digest_35 : decode cX6_digest 35 = .ok (.goto (-23), 3) := by decide +kernel
theorem dX6_digest_38 : decode cX6_digest 38 = .ok (.iconst 0, 1) := by decide +kernel
theorem dX6_digest_39 : decode cX6_digest 39 = .ok (.istore 4, 2) := by decide +kernel
theorem dX6_digest_41 : decode cX6_digest 41 = .ok (.iload 4, 2) := by decide +kernel
theorem dX6_digest_43 : decode cX6_digest 43 = .ok (.iconst 4, 1) := by decide +kernel
theorem dX6_digest_44 : decode cX6_digest 44 = .ok (.if_icmp .ge 27, 3) := by decide +kernel
theorem dX6_digest_47 : decode cX6_digest 47 = .ok (.aload_n 0, 1) := by decide +kernel
theorem dX6_digest_48 : decode cX6_digest 48 = .ok (.lload_n 2, 1) := by decide +kernel
theorem dX6_digest_49 : decode cX6_digest 49 = .ok (.aload_n 1, 1) := by decide +kernel
theorem dX6_digest_50 : decode cX6_digest 50 = .ok (.iload 4, 2) := by decide +kernel
theorem dX6_digest_52 : decode cX6_digest 52 = .ok (.invokevirtual 236, 3) := by decide +kernel
theorem dX6_digest_55 : decode cX6_digest 55 = .ok (.lstore_n 2, 1) := by decide +kernel
theorem dX6_digest_56 : decode cX6_digest 56 = .ok (.aload_n 0, 1) := by decide +kernel
theorem dX6_digest_57 : decode cX6_digest 57 = .ok (.lload_n 2, 1) := by decide +kernel
theorem dX6_digest_58 : decode cX6_digest 58 = .ok (.aload_n 1, 1) := by decide +kernel
theorem dX6_digest_59 : decode cX6_digest 59 = .ok (.iload 4, 2) := by decide +kernel
theorem dX6_digest_61 : decode cX6_digest 61 = .ok (.invokevirtual 240, 3) := by decide +kernel
theorem dX6_digest_64 : decode cX6_digest 64 = .ok (.lstore_n 2, 1) := by decide +kernel
theorem dX6_digest_65 : decode cX6_digest 65 = .ok (.iinc 4 1, 3) := by decide +kernel
theorem dX6_digest_68 : decode cX6_digest 68 = .ok (.goto (-27), 3) := by decide +kernel
theorem dX6_digest_71 : decode cX6_digest 71 = .ok (.iconst 0, 1) := by decide +kernel
theorem dX6_digest_72 : decode cX6_digest 72 = .ok (.istore 4, 2) := by decide +kernel
theorem dX6_digest_74 : decode cX6_digest 74 = .ok (.iload 4, 2) := by decide +kernel
theorem dX6_digest_76 : decode cX6_digest 76 = .ok (.aload_n 0, 1) := by decide +kernel
theorem dX6_digest_77 : decode cX6_digest 77 = .ok (.getfield 10, 3) := by decide +kernel
theorem dX6_digest_80 : decode cX6_digest 80 = .ok (.getfield 59, 3) := by decide +kernel
theorem dX6_digest_83 : decode cX6_digest 83 = .ok (.if_icmp .ge 38, 3) := by decide +kernel
theorem dX6_digest_86 : decode cX6_digest 86 = .ok (.iconst 0, 1) := by decide +kernel
theorem dX6_digest_87 : decode cX6_digest 87 = .ok (.istore 5, 2) := by decide +kernel
theorem dX6_digest_89 : decode cX6_digest 89 = .ok (.iload 5, 2) := by decide +kernel
theorem dX6_digest_91 : decode cX6_digest 91 = .ok (.iconst 1, 1) := by decide +kernel
theorem dX6_digest_92 : decode cX6_digest 92 = .ok (.if_icmp .gt 23, 3) := by decide +kernel
theorem dX6_digest_95 : decode cX6_digest 95 = .ok (.lload_n 2, 1) := by decide +kernel
theorem dX6_digest_96 : decode cX6_digest 96 = .ok (.aload_n 0, 1) := by decide +kernel
theorem dX6_digest_97 : decode cX6_digest 97 = .ok (.iload 4, 2) := by decide +kernel
theorem dX6_digest_99 : decode cX6_digest 99 = .ok (.iload 5, 2) := by decide +kernel
theorem dX6_digest_101 : decode cX6_digest 101 = .ok (.invokevirtual 211, 3) := by decide +kernel
theorem dX6_digest_104 : decode cX6_digest 104 = .ok (.i2l, 1) := by decide +kernel
theorem dX6_digest_105 : decode cX6_digest 105 = .ok (.invokestatic 232, 3) := by decide +kernel
theorem dX6_digest_108 : decode cX6_digest 108 = .ok (.lstore_n 2, 1) := by decide +kernel
theorem dX6_digest_109 : decode cX6_digest 109 = .ok (.iinc 5 1, 3) := by decide +kernel
theorem dX6_digest_112 : decode cX6_digest 112 = .ok (.goto (-23), 3) := by decide +kernel
theorem dX6_digest_115 : decode cX6_digest 115 = .ok (.iinc 4 1, 3) := by decide +kernel
theorem dX6_digest_118 : decode cX6_digest 118 = .ok (.goto (-44), 3) := by decide +kernel
theorem dX6_digest_121 : decode cX6_digest 121 = .ok (.lload_n 2, 1) := by decide +kernel
theorem dX6_digest_122 : decode cX6_digest 122 = .ok (.aload_n 0, 1) := by decide +kernel
theorem dX6_digest_123 : decode cX6_digest 123 = .ok (.getfield 10, 3) := by decide +kernel
theorem dX6_digest_126 : decode cX6_digest 126 = .ok (.invokevirtual 217, 3) := by decide +kernel
theorem dX6_digest_129 : decode cX6_digest 129 = .ok (.i2l, 1) := by decide +kernel
theorem dX6_digest_130 : decode cX6_digest 130 = .ok (.invokestatic 232, 3) := by decide +kernel
theorem dX6_digest_133 : decode cX6_digest 133 = .ok (.lstore_n 2, 1) := by decide +kernel
theorem dX6_digest_134 : decode cX6_digest 134 = .ok (.lload_n 2, 1) := by decide +kernel
theorem dX6_digest_135 : decode cX6_digest 135 = .ok (.aload_n 0, 1) := by decide +kernel
theorem dX6_digest_136 : decode cX6_digest 136 = .ok (.aload_n 1, 1) := by decide +kernel
theorem dX6_digest_137 : decode cX6_digest 137 = .ok (.invokevirtual 226, 3) := by decide +kernel
theorem dX6_digest_140 : decode cX6_digest 140 = .ok (.invokestatic 243, 3) := by decide +kernel
theorem dX6_digest_143 : decode cX6_digest 143 = .ok (.invokestatic 232, 3) := by decide +kernel
theorem dX6_digest_146 : decode cX6_digest 146 = .ok (.lstore_n 2, 1) := by decide +kernel
theorem dX6_digest_147 : decode cX6_digest 147 = .ok (.aload_n 0, 1) := by decide +kernel
theorem dX6_digest_148 : decode cX6_digest 148 = .ok (.getfield 26, 3) := by decide +kernel
theorem dX6_digest_151 : decode cX6_digest 151 = .ok (.lload_n 2, 1) := by decide +kernel
theorem dX6_digest_152 : decode cX6_digest 152 = .ok (.invokevirtual 247, 3) := by decide +kernel
theorem dX6_digest_155 : decode cX6_digest 155 = .ok (.lreturn, 1) := by decide +kernel
theorem dX6_isOutput_0 : decode cX6_isOutput 0 = .ok (.iload_n 0, 1) := by decide +kernel
theorem dX6_isOutput_1 : decode cX6_isOutput 1 = .ok (.ifCond .lt 12, 3) := by decide +kernel
theorem dX6_isOutput_4 : decode cX6_isOutput 4 = .ok (.iload_n 0, 1) := by decide +kernel
theorem dX6_isOutput_5 : decode cX6_isOutput 5 = .ok (.iconst 4, 1) := by decide +kernel
theorem dX6_isOutput_6 : decode cX6_isOutput 6 = .ok (.if_icmp .ge 7, 3) := by decide +kernel
theorem dX6_isOutput_9 : decode cX6_isOutput 9 = .ok (.iconst 1, 1) := by decide +kernel
theorem dX6_isOutput_10 : decode cX6_isOutput 10 = .ok (.goto 4, 3) := by decide +kernel
theorem dX6_isOutput_13 : decode cX6_isOutput 13 = .ok (.iconst 0, 1) := by decide +kernel
theorem dX6_isOutput_14 : decode cX6_isOutput 14 = .ok (.ireturn, 1) := by decide +kernel
set_option maxRecDepth 20000 in
theorem ggX6_checkOutput_X6_isOutput : GoodIn wsX6_checkOutput wsX6_isOutput := goodIn_r _ [6] (by decide +kernel) (by decide +kernel)
set_option maxRecDepth 20000 in
theorem gX6_checkOutput_X6_isOutput : GoodIn wsX6_checkOutput (va_wsS RX6 251 yX6_isOutput wsX6_isOutput) := goodIn_app (goodIn_of _ (by decide +kernel)) ggX6_checkOutput_X6_isOutput
theorem dX6_checkOutput_0 : decode cX6_checkOutput 0 = .ok (.iload_n 0, 1) := by decide +kernel
theorem dX6_checkOutput_1 : decode cX6_checkOutput 1 = .ok (.invokestatic 251, 3) := by decide +kernel
theorem dX6_checkOutput_4 : decode cX6_checkOutput 4 = .ok (.ifCond .ne 14, 3) := by decide +kernel
theorem dX6_checkOutput_7 : decode cX6_checkOutput 7 = .ok (.new 254, 3) := by decide +kernel
theorem dX6_checkOutput_10 : decode cX6_checkOutput 10 = .ok (.dup, 1) := by decide +kernel
theorem dX6_checkOutput_11 : decode cX6_checkOutput 11 = .ok (.ldc_w 256, 3) := by decide +kernel
theorem dX6_checkOutput_14 : decode cX6_checkOutput 14 = .ok (.invokespecial 258, 3) := by decide +kernel
theorem dX6_checkOutput_17 : decode cX6_checkOutput 17 = .ok (.athrow, 1) := by decide +kernel
theorem dX6_checkOutput_18 : decode cX6_checkOutput 18 = .ok (.return_, 1) := by decide +kernel
set_option maxRecDepth 20000 in
theorem ggX6_checkRow_X3_rowCount : GoodIn wsX6_checkRow wsX3_rowCount := goodIn_r _ [8, 9, 17, 18, 19, 20, 21, 22, 23, 24] (by decide +kernel) (by decide +kernel)
set_option maxRecDepth 20000 in
theorem gX6_checkRow_X3_rowCount : GoodIn wsX6_checkRow (wsV RX6 259 RX3 yX3_rowCount wsX3_rowCount) := goodIn_app (goodIn_of _ (by decide +kernel)) ggX6_checkRow_X3_rowCount
theorem dX6_checkRow_0 : decode cX6_checkRow 0 = .ok (.iload_n 1, 1) := by decide +kernel
theorem dX6_checkRow_1 : decode cX6_checkRow 1 = .ok (.ifCond .lt 14, 3) := by decide +kernel
theorem dX6_checkRow_4 : decode cX6_checkRow 4 = .ok (.iload_n 1, 1) := by decide +kernel
theorem dX6_checkRow_5 : decode cX6_checkRow 5 = .ok (.aload_n 0, 1) := by decide +kernel
theorem dX6_checkRow_6 : decode cX6_checkRow 6 = .ok (.getfield 10, 3) := by decide +kernel
theorem dX6_checkRow_9 : decode cX6_checkRow 9 = .ok (.invokevirtual 259, 3) := by decide +kernel
theorem dX6_checkRow_12 : decode cX6_checkRow 12 = .ok (.if_icmp .lt 14, 3) := by decide +kernel
theorem dX6_checkRow_15 : decode cX6_checkRow 15 = .ok (.new 254, 3) := by decide +kernel
theorem dX6_checkRow_18 : decode cX6_checkRow 18 = .ok (.dup, 1) := by decide +kernel
theorem dX6_checkRow_19 : decode cX6_checkRow 19 = .ok (.ldc_w 262, 3) := by decide +kernel
theorem dX6_checkRow_22 : decode cX6_checkRow 22 = .ok (.invokespecial 258, 3) := by decide +kernel
theorem dX6_checkRow_25 : decode cX6_checkRow 25 = .ok (.athrow, 1) := by decide +kernel
theorem dX6_checkRow_26 : decode cX6_checkRow 26 = .ok (.return_, 1) := by decide +kernel
theorem dX6_checkInput_0 : decode cX6_checkInput 0 = .ok (.iload_n 1, 1) := by decide +kernel
theorem dX6_checkInput_1 : decode cX6_checkInput 1 = .ok (.ifCond .lt 14, 3) := by decide +kernel
theorem dX6_checkInput_4 : decode cX6_checkInput 4 = .ok (.iload_n 1, 1) := by decide +kernel
theorem dX6_checkInput_5 : decode cX6_checkInput 5 = .ok (.aload_n 0, 1) := by decide +kernel
theorem dX6_checkInput_6 : decode cX6_checkInput 6 = .ok (.getfield 10, 3) := by decide +kernel
theorem dX6_checkInput_9 : decode cX6_checkInput 9 = .ok (.getfield 59, 3) := by decide +kernel
theorem dX6_checkInput_12 : decode cX6_checkInput 12 = .ok (.if_icmp .lt 14, 3) := by decide +kernel
theorem dX6_checkInput_15 : decode cX6_checkInput 15 = .ok (.new 254, 3) := by decide +kernel
theorem dX6_checkInput_18 : decode cX6_checkInput 18 = .ok (.dup, 1) := by decide +kernel
theorem dX6_checkInput_19 : decode cX6_checkInput 19 = .ok (.ldc_w 264, 3) := by decide +kernel
theorem dX6_checkInput_22 : decode cX6_checkInput 22 = .ok (.invokespecial 258, 3) := by decide +kernel
theorem dX6_checkInput_25 : decode cX6_checkInput 25 = .ok (.athrow, 1) := by decide +kernel
theorem dX6_checkInput_26 : decode cX6_checkInput 26 = .ok (.return_, 1) := by decide +kernel
theorem dX6_checkRange_0 : decode cX6_checkRange 0 = .ok (.iload_n 0, 1) := by decide +kernel
theorem dX6_checkRange_1 : decode cX6_checkRange 1 = .ok (.iload_n 1, 1) := by decide +kernel
theorem dX6_checkRange_2 : decode cX6_checkRange 2 = .ok (.if_icmp .lt 8, 3) := by decide +kernel
theorem dX6_checkRange_5 : decode cX6_checkRange 5 = .ok (.iload_n 0, 1) := by decide +kernel
theorem dX6_checkRange_6 : decode cX6_checkRange 6 = .ok (.iload_n 2, 1) := by decide +kernel
theorem dX6_checkRange_7 : decode cX6_checkRange 7 = .ok (.if_icmp .le 14, 3) := by decide +kernel
theorem dX6_checkRange_10 : decode cX6_checkRange 10 = .ok (.new 93, 3) := by decide +kernel
theorem dX6_checkRange_13 : decode cX6_checkRange 13 = .ok (.dup, 1) := by decide +kernel
theorem dX6_checkRange_14 : decode cX6_checkRange 14 = .ok (.ldc_w 266, 3) := by decide +kernel
theorem dX6_checkRange_17 : decode cX6_checkRange 17 = .ok (.invokespecial 97, 3) := by decide +kernel
theorem dX6_checkRange_20 : decode cX6_checkRange 20 = .ok (.athrow, 1) := by decide +kernel
theorem dX6_checkRange_21 : decode cX6_checkRange 21 = .ok (.return_, 1) := by decide +kernel
set_option maxRecDepth 20000 in
theorem ggX6_saveBeforeChange_X0_keep : GoodIn wsX6_saveBeforeChange wsX0_keep := goodIn_r _ [8, 9, 10, 11, 12, 13, 14, 15, 16, 7, 17, 18, 19, 20, 21, 22, 23, 24, 25, 26, 27, 28, 29, 30, 31, 32, 33, 34, 35, 36, 44, 45, 46, 47, 48, 49, 50, 51, 52, 53] (by decide +kernel) (by decide +kernel)
set_option maxRecDepth 20000 in
theorem gX6_saveBeforeChange_X0_keep : GoodIn wsX6_saveBeforeChange (wsV RX6 143 RX0 yX0_keep wsX0_keep) := goodIn_app (goodIn_of _ (by decide +kernel)) ggX6_saveBeforeChange_X0_keep
theorem dX6_saveBeforeChange_0 : decode cX6_saveBeforeChange 0 = .ok (.aload_n 0, 1) := by decide +kernel
theorem dX6_saveBeforeChange_1 : decode cX6_saveBeforeChange 1 = .ok (.getfield 19, 3) := by decide +kernel
theorem dX6_saveBeforeChange_4 : decode cX6_saveBeforeChange 4 = .ok (.aload_n 0, 1) := by decide +kernel
theorem dX6_saveBeforeChange_5 : decode cX6_saveBeforeChange 5 = .ok (.getfield 10, 3) := by decide +kernel
theorem dX6_saveBeforeChange_8 : decode cX6_saveBeforeChange 8 = .ok (.invokevirtual 143, 3) := by decide +kernel
theorem dX6_saveBeforeChange_11 : decode cX6_saveBeforeChange 11 = .ok (.aload_n 0, 1) := by decide +kernel
theorem dX6_saveBeforeChange_12 : decode cX6_saveBeforeChange 12 = .ok (.iconst 1, 1) := by decide +kernel
theorem dX6_saveBeforeChange_13 : decode cX6_saveBeforeChange 13 = .ok (.putfield 47, 3) := by decide +kernel
theorem dX6_saveBeforeChange_16 : decode cX6_saveBeforeChange 16 = .ok (.return_, 1) := by decide +kernel
set_option maxRecDepth 20000 in
theorem ggX6_viewOfPresent_X5_look : GoodIn wsX6_viewOfPresent wsX5_look := goodIn_r _ [9, 10, 11, 12, 13, 14, 15, 16, 17, 18, 19, 20, 21, 22, 23, 24, 25, 26, 27, 28, 29, 30, 31, 32, 33, 34, 35, 36, 37, 38, 39, 40, 41, 42, 43, 44, 45, 46, 47, 48, 49, 50, 51, 52, 53, 54, 55, 56, 57, 58, 59, 60, 61, 62, 63, 64, 65, 66, 67, 68, 69, 70, 71, 72, 73, 74, 75, 76, 77, 8, 78, 79, 80, 81, 82, 83, 84, 85, 86, 87, 88, 89, 90, 91, 92, 93, 94, 95, 96, 97, 98, 99, 100, 101, 102, 103, 104, 105, 113, 114, 115, 116, 117, 118, 119, 120, 121, 122, 123, 124, 125, 126, 127, 128, 129, 130, 131, 132, 133, 134, 135, 136] (by decide +kernel) (by decide +kernel)
set_option maxRecDepth 20000 in
theorem gX6_viewOfPresent_X5_look : GoodIn wsX6_viewOfPresent (wsV RX6 268 RX5 yX5_look wsX5_look) := goodIn_app (goodIn_of _ (by decide +kernel)) ggX6_viewOfPresent_X5_look
theorem dX6_viewOfPresent_0 : decode cX6_viewOfPresent 0 = .ok (.aload_n 0, 1) := by decide +kernel
theorem dX6_viewOfPresent_1 : decode cX6_viewOfPresent 1 = .ok (.getfield 47, 3) := by decide +kernel
theorem dX6_viewOfPresent_4 : decode cX6_viewOfPresent 4 = .ok (.ifCond .eq 30, 3) := by decide +kernel
theorem dX6_viewOfPresent_7 : decode cX6_viewOfPresent 7 = .ok (.aload_n 0, 1) := by decide +kernel
theorem dX6_viewOfPresent_8 : decode cX6_viewOfPresent 8 = .ok (.getfield 40, 3) := by decide +kernel
theorem dX6_viewOfPresent_11 : decode cX6_viewOfPresent 11 = .ok (.aload_n 0, 1) := by decide +kernel
theorem dX6_viewOfPresent_12 : decode cX6_viewOfPresent 12 = .ok (.getfield 10, 3) := by decide +kernel
theorem dX6_viewOfPresent_15 : decode cX6_viewOfPresent 15 = .ok (.aload_n 0, 1) := by decide +kernel
theorem dX6_viewOfPresent_16 : decode cX6_viewOfPresent 16 = .ok (.getfield 10, 3) := by decide +kernel
theorem dX6_viewOfPresent_19 : decode cX6_viewOfPresent 19 = .ok (.getfield 116, 3) := by decide +kernel
theorem dX6_viewOfPresent_22 : decode cX6_viewOfPresent 22 = .ok (.aload_n 0, 1) := by decide +kernel
theorem dX6_viewOfPresent_23 : decode cX6_viewOfPresent 23 = .ok (.getfield 33, 3) := by decide +kernel
theorem dX6_viewOfPresent_26 : decode cX6_viewOfPresent 26 = .ok (.invokevirtual 268, 3) := by decide +kernel
theorem dX6_viewOfPresent_29 : decode cX6_viewOfPresent 29 = .ok (.aload_n 0, 1) := by decide +kernel
theorem dX6_viewOfPresent_30 : decode cX6_viewOfPresent 30 = .ok (.iconst 0, 1) := by decide +kernel
theorem dX6_viewOfPresent_31 : decode cX6_viewOfPresent 31 = .ok (.putfield 47, 3) := by decide +kernel
theorem dX6_viewOfPresent_34 : decode cX6_viewOfPresent 34 = .ok (.aload_n 0, 1) := by decide +kernel
theorem dX6_viewOfPresent_35 : decode cX6_viewOfPresent 35 = .ok (.getfield 40, 3) := by decide +kernel
theorem dX6_viewOfPresent_38 : decode cX6_viewOfPresent 38 = .ok (.areturn, 1) := by decide +kernel
set_option maxRecDepth 20000 in
theorem ggX6_rowNumber_X3_truthAt : GoodIn wsX6_rowNumber wsX3_truthAt := goodIn_r _ [6, 7, 8, 9, 5, 10, 11, 12, 13, 14, 15, 16, 17, 18, 19, 44, 45, 46, 47, 48, 49, 50, 51] (by decide +kernel) (by decide +kernel)
set_option maxRecDepth 20000 in
theorem gX6_rowNumber_X3_truthAt : GoodIn wsX6_rowNumber (wsV RX6 72 RX3 yX3_truthAt wsX3_truthAt) := goodIn_app (goodIn_of _ (by decide +kernel)) ggX6_rowNumber_X3_truthAt
set_option maxRecDepth 20000 in
theorem ggX6_rowNumber_X5_decidedAt : GoodIn wsX6_rowNumber wsX5_decidedAt := goodIn_r _ [24, 25, 26, 27, 12, 13, 14, 52, 53, 54, 55, 56, 57, 58, 59, 60, 61, 62, 63] (by decide +kernel) (by decide +kernel)
set_option maxRecDepth 20000 in
theorem gX6_rowNumber_X5_decidedAt : GoodIn wsX6_rowNumber (wsV RX6 153 RX5 yX5_decidedAt wsX5_decidedAt) := goodIn_app (goodIn_of _ (by decide +kernel)) ggX6_rowNumber_X5_decidedAt
set_option maxRecDepth 20000 in
theorem ggX6_rowNumber_X5_answerAt : GoodIn wsX6_rowNumber wsX5_answerAt := goodIn_r _ [31, 32, 33, 34, 23, 35, 36, 12, 13, 14, 52, 53, 54, 55, 56, 57, 58, 59, 60, 61, 62, 63] (by decide +kernel) (by decide +kernel)
set_option maxRecDepth 20000 in
theorem gX6_rowNumber_X5_answerAt : GoodIn wsX6_rowNumber (wsV RX6 150 RX5 yX5_answerAt wsX5_answerAt) := goodIn_app (goodIn_of _ (by decide +kernel)) ggX6_rowNumber_X5_answerAt
theorem dX6_rowNumber_0 : decode cX6_rowNumber 0 = .ok (.iload 4, 2) := by decide +kernel
theorem dX6_rowNumber_2 : decode cX6_rowNumber 2 = .ok (.lookupswitch 43 #[(0, 26), (1, 36)], 26) := by decide +kernel
theorem dX6_rowNumber_28 : decode cX6_rowNumber 28 = .ok (.aload_n 0, 1) := by decide +kernel
theorem dX6_rowNumber_29 : decode cX6_rowNumber 29 = .ok (.getfield 10, 3) := by decide +kernel
theorem dX6_rowNumber_32 : decode cX6_rowNumber 32 = .ok (.iload_n 2, 1) := by decide +kernel
theorem dX6_rowNumber_33 : decode cX6_rowNumber 33 = .ok (.iload_n 3, 1) := by decide +kernel
theorem dX6_rowNumber_34 : decode cX6_rowNumber 34 = .ok (.invokevirtual 72, 3) := by decide +kernel
theorem dX6_rowNumber_37 : decode cX6_rowNumber 37 = .ok (.ireturn, 1) := by decide +kernel
theorem dX6_rowNumber_38 : decode cX6_rowNumber 38 = .ok (.aload_n 1, 1) := by decide +kernel
theorem dX6_rowNumber_39 : decode cX6_rowNumber 39 = .ok (.iload_n 2, 1) := by decide +kernel
theorem dX6_rowNumber_40 : decode cX6_rowNumber 40 = .ok (.iload_n 3, 1) := by decide +kernel
theorem dX6_rowNumber_41 : decode cX6_rowNumber 41 = .ok (.invokevirtual 153, 3) := by decide +kernel
theorem dX6_rowNumber_44 : decode cX6_rowNumber 44 = .ok (.ireturn, 1) := by decide +kernel
theorem dX6_rowNumber_45 : decode cX6_rowNumber 45 = .ok (.aload_n 1, 1) := by decide +kernel
theorem dX6_rowNumber_46 : decode cX6_rowNumber 46 = .ok (.iload_n 2, 1) := by decide +kernel
theorem dX6_rowNumber_47 : decode cX6_rowNumber 47 = .ok (.iload_n 3, 1) := by decide +kernel
theorem dX6_rowNumber_48 : decode cX6_rowNumber 48 = .ok (.invokevirtual 150, 3) := by decide +kernel
theorem dX6_rowNumber_51 : decode cX6_rowNumber 51 = .ok (.ireturn, 1) := by decide +kernel
set_option maxRecDepth 20000 in
theorem ggX6_outputNumber_X3_onesOf : GoodIn wsX6_outputNumber wsX3_onesOf := goodIn_r _ [6, 7, 8, 9, 10, 81, 82, 83, 84, 85, 86, 87, 88] (by decide +kernel) (by decide +kernel)
set_option maxRecDepth 20000 in
theorem gX6_outputNumber_X3_onesOf : GoodIn wsX6_outputNumber (wsV RX6 83 RX3 yX3_onesOf wsX3_onesOf) := goodIn_app (goodIn_of _ (by decide +kernel)) ggX6_outputNumber_X3_onesOf
set_option maxRecDepth 20000 in
theorem ggX6_outputNumber_J13_bitCount_95d88 : GoodIn wsX6_outputNumber wsJ13_bitCount_95d88 := goodIn_r _ [14, 15, 16, 17] (by decide +kernel) (by decide +kernel)
set_option maxRecDepth 20000 in
theorem gX6_outputNumber_J13_bitCount_95d88 : GoodIn wsX6_outputNumber (va_wsS RX6 87 yJ13_bitCount_95d88 wsJ13_bitCount_95d88) := goodIn_app (goodIn_of _ (by decide +kernel)) ggX6_outputNumber_J13_bitCount_95d88
set_option maxRecDepth 20000 in
theorem ggX6_outputNumber_X3_rowCount : GoodIn wsX6_outputNumber wsX3_rowCount := goodIn_r _ [21, 22, 81, 82, 83, 84, 85, 86, 87, 88] (by decide +kernel) (by decide +kernel)
set_option maxRecDepth 20000 in
theorem gX6_outputNumber_X3_rowCount : GoodIn wsX6_outputNumber (wsV RX6 259 RX3 yX3_rowCount wsX3_rowCount) := goodIn_app (goodIn_of _ (by decide +kernel)) ggX6_outputNumber_X3_rowCount
set_option maxRecDepth 20000 in
theorem ggX6_outputNumber_X3_zerosOf : GoodIn wsX6_outputNumber wsX3_zerosOf := goodIn_r _ [26, 27, 8, 9, 10, 81, 82, 83, 84, 85, 86, 87, 88] (by decide +kernel) (by decide +kernel)
set_option maxRecDepth 20000 in
theorem gX6_outputNumber_X3_zerosOf : GoodIn wsX6_outputNumber (wsV RX6 272 RX3 yX3_zerosOf wsX3_zerosOf) := goodIn_app (goodIn_of _ (by decide +kernel)) ggX6_outputNumber_X3_zerosOf
set_option maxRecDepth 20000 in
theorem ggX6_outputNumber_X3_alarmsOf : GoodIn wsX6_outputNumber wsX3_alarmsOf := goodIn_r _ [31, 32, 8, 9, 10, 81, 82, 83, 84, 85, 86, 87, 88] (by decide +kernel) (by decide +kernel)
set_option maxRecDepth 20000 in
theorem gX6_outputNumber_X3_alarmsOf : GoodIn wsX6_outputNumber (wsV RX6 275 RX3 yX3_alarmsOf wsX3_alarmsOf) := goodIn_app (goodIn_of _ (by decide +kernel)) ggX6_outputNumber_X3_alarmsOf
set_option maxRecDepth 20000 in
theorem ggX6_outputNumber_X3_faultsOf : GoodIn wsX6_outputNumber wsX3_faultsOf := goodIn_r _ [36, 37, 8, 9, 10, 81, 82, 83, 84, 85, 86, 87, 88] (by decide +kernel) (by decide +kernel)
set_option maxRecDepth 20000 in
theorem gX6_outputNumber_X3_faultsOf : GoodIn wsX6_outputNumber (wsV RX6 278 RX3 yX3_faultsOf wsX3_faultsOf) := goodIn_app (goodIn_of _ (by decide +kernel)) ggX6_outputNumber_X3_faultsOf
set_option maxRecDepth 20000 in
theorem ggX6_outputNumber_X5_outputNumber : GoodIn wsX6_outputNumber wsX5_outputNumber := goodIn_r _ [42, 43, 44, 45, 46, 47, 48, 8, 9, 10, 49, 12, 13, 14, 15, 16, 17, 50, 51, 52, 41, 53, 54, 55, 56, 57, 58, 59, 60, 61, 62, 63, 64, 65, 66, 67, 68, 69, 70, 71, 72, 73, 89, 90, 91, 92, 93, 94, 95, 96, 97, 98, 99, 100] (by decide +kernel) (by decide +kernel)
set_option maxRecDepth 20000 in
theorem gX6_outputNumber_X5_outputNumber : GoodIn wsX6_outputNumber (wsV RX6 281 RX5 yX5_outputNumber wsX5_outputNumber) := goodIn_app (goodIn_of _ (by decide +kernel)) ggX6_outputNumber_X5_outputNumber
theorem dX6_outputNumber_0 : decode cX6_outputNumber 0 = .ok (.iload_n 3, 1) := by decide +kernel
theorem dX6_outputNumber_1 : decode cX6_outputNumber 1 = .ok (.tableswitch 114 0 9 #[55, 67, 114, 114, 114, 114, 114, 114, 96, 105], 55) := by decide +kernel
theorem dX6_outputNumber_56 : decode cX6_outputNumber 56 = .ok (.aload_n 0, 1) := by decide +kernel
theorem dX6_outputNumber_57 : decode cX6_outputNumber 57 = .ok (.getfield 10, 3) := by decide +kernel
theorem dX6_outputNumber_60 : decode cX6_outputNumber 60 = .ok (.iload_n 2, 1) := by decide +kernel
theorem dX6_outputNumber_61 : decode cX6_outputNumber 61 = .ok (.invokevirtual 83, 3) := by decide +kernel
theorem dX6_outputNumber_64 : decode cX6_outputNumber 64 = .ok (.invokestatic 87, 3) := by decide +kernel
theorem dX6_outputNumber_67 : decode cX6_outputNumber 67 = .ok (.ireturn, 1) := by decide +kernel
theorem dX6_outputNumber_68 : decode cX6_outputNumber 68 = .ok (.aload_n 0, 1) := by decide +kernel
theorem dX6_outputNumber_69 : decode cX6_outputNumber 69 = .ok (.getfield 10, 3) := by decide +kernel
theorem dX6_outputNumber_72 : decode cX6_outputNumber 72 = .ok (.invokevirtual 259, 3) := by decide +kernel
theorem dX6_outputNumber_75 : decode cX6_outputNumber 75 = .ok (.aload_n 0, 1) := by decide +kernel
theorem dX6_outputNumber_76 : decode cX6_outputNumber 76 = .ok (.getfield 10, 3) := by decide +kernel
theorem dX6_outputNumber_79 : decode cX6_outputNumber 79 = .ok (.iload_n 2, 1) := by decide +kernel
theorem dX6_outputNumber_80 : decode cX6_outputNumber 80 = .ok (.invokevirtual 83, 3) := by decide +kernel
theorem dX6_outputNumber_83 : decode cX6_outputNumber 83 = .ok (.aload_n 0, 1) := by decide +kernel
theorem dX6_outputNumber_84 : decode cX6_outputNumber 84 = .ok (.getfield 10, 3) := by decide +kernel
theorem dX6_outputNumber_87 : decode cX6_outputNumber 87 = .ok (.iload_n 2, 1) := by decide +kernel
theorem dX6_outputNumber_88 : decode cX6_outputNumber 88 = .ok (.invokevirtual 272, 3) := by decide +kernel
theorem dX6_outputNumber_91 : decode cX6_outputNumber 91 = .ok (.lor, 1) := by decide +kernel
theorem dX6_outputNumber_92 : decode cX6_outputNumber 92 = .ok (.invokestatic 87, 3) := by decide +kernel
theorem dX6_outputNumber_95 : decode cX6_outputNumber 95 = .ok (.isub, 1) := by decide +kernel
theorem dX6_outputNumber_96 : decode cX6_outputNumber 96 = .ok (.ireturn, 1) := by decide +kernel
theorem dX6_outputNumber_97 : decode cX6_outputNumber 97 = .ok (.aload_n 0, 1) := by decide +kernel
theorem dX6_outputNumber_98 : decode cX6_outputNumber 98 = .ok (.getfield 10, 3) := by decide +kernel
theorem dX6_outputNumber_101 : decode cX6_outputNumber 101 = .ok (.iload_n 2, 1) := by decide +kernel
theorem dX6_outputNumber_102 : decode cX6_outputNumber 102 = .ok (.invokevirtual 275, 3) := by decide +kernel
theorem dX6_outputNumber_105 : decode cX6_outputNumber 105 = .ok (.ireturn, 1) := by decide +kernel
theorem dX6_outputNumber_106 : decode cX6_outputNumber 106 = .ok (.aload_n 0, 1) := by decide +kernel
theorem dX6_outputNumber_107 : decode cX6_outputNumber 107 = .ok (.getfield 10, 3) := by decide +kernel
theorem dX6_outputNumber_110 : decode cX6_outputNumber 110 = .ok (.iload_n 2, 1) := by decide +kernel
theorem dX6_outputNumber_111 : decode cX6_outputNumber 111 = .ok (.invokevirtual 278, 3) := by decide +kernel
theorem dX6_outputNumber_114 : decode cX6_outputNumber 114 = .ok (.ireturn, 1) := by decide +kernel
theorem dX6_outputNumber_115 : decode cX6_outputNumber 115 = .ok (.aload_n 1, 1) := by decide +kernel
theorem dX6_outputNumber_116 : decode cX6_outputNumber 116 = .ok (.iload_n 2, 1) := by decide +kernel
theorem dX6_outputNumber_117 : decode cX6_outputNumber 117 = .ok (.iload_n 3, 1) := by decide +kernel
theorem dX6_outputNumber_118 : decode cX6_outputNumber 118 = .ok (.invokevirtual 281, 3) := by decide +kernel
theorem dX6_outputNumber_121 : decode cX6_outputNumber 121 = .ok (.ireturn, 1) := by decide +kernel
set_option maxRecDepth 20000 in
theorem ggX6_mazeNumber_X3_sum : GoodIn wsX6_mazeNumber wsX3_sum := goodIn_r _ [6] (by decide +kernel) (by decide +kernel)
set_option maxRecDepth 20000 in
theorem gX6_mazeNumber_X3_sum : GoodIn wsX6_mazeNumber (va_wsS RX6 294 yX3_sum wsX3_sum) := goodIn_app (goodIn_of _ (by decide +kernel)) ggX6_mazeNumber_X3_sum
theorem dX6_mazeNumber_0 : decode cX6_mazeNumber 0 = .ok (.iload_n 2, 1) := by decide +kernel
theorem dX6_mazeNumber_1 : decode cX6_mazeNumber 1 = .ok (.tableswitch 129 0 9 #[55, 63, 71, 76, 81, 86, 91, 99, 110, 121], 55) := by decide +kernel
theorem dX6_mazeNumber_56 : decode cX6_mazeNumber 56 = .ok (.aload_n 0, 1) := by decide +kernel
theorem dX6_mazeNumber_57 : decode cX6_mazeNumber 57 = .ok (.getfield 10, 3) := by decide +kernel
theorem dX6_mazeNumber_60 : decode cX6_mazeNumber 60 = .ok (.getfield 59, 3) := by decide +kernel
theorem dX6_mazeNumber_63 : decode cX6_mazeNumber 63 = .ok (.ireturn, 1) := by decide +kernel
theorem dX6_mazeNumber_64 : decode cX6_mazeNumber 64 = .ok (.aload_n 0, 1) := by decide +kernel
theorem dX6_mazeNumber_65 : decode cX6_mazeNumber 65 = .ok (.getfield 10, 3) := by decide +kernel
theorem dX6_mazeNumber_68 : decode cX6_mazeNumber 68 = .ok (.getfield 116, 3) := by decide +kernel
theorem dX6_mazeNumber_71 : decode cX6_mazeNumber 71 = .ok (.ireturn, 1) := by decide +kernel
theorem dX6_mazeNumber_72 : decode cX6_mazeNumber 72 = .ok (.aload_n 1, 1) := by decide +kernel
theorem dX6_mazeNumber_73 : decode cX6_mazeNumber 73 = .ok (.getfield 283, 3) := by decide +kernel
theorem dX6_mazeNumber_76 : decode cX6_mazeNumber 76 = .ok (.ireturn, 1) := by decide +kernel
theorem dX6_mazeNumber_77 : decode cX6_mazeNumber 77 = .ok (.aload_n 1, 1) := by decide +kernel
theorem dX6_mazeNumber_78 : decode cX6_mazeNumber 78 = .ok (.getfield 285, 3) := by decide +kernel
theorem dX6_mazeNumber_81 : decode cX6_mazeNumber 81 = .ok (.ireturn, 1) := by decide +kernel
theorem dX6_mazeNumber_82 : decode cX6_mazeNumber 82 = .ok (.aload_n 1, 1) := by decide +kernel
theorem dX6_mazeNumber_83 : decode cX6_mazeNumber 83 = .ok (.getfield 288, 3) := by decide +kernel
theorem dX6_mazeNumber_86 : decode cX6_mazeNumber 86 = .ok (.ireturn, 1) := by decide +kernel
theorem dX6_mazeNumber_87 : decode cX6_mazeNumber 87 = .ok (.aload_n 1, 1) := by decide +kernel
theorem dX6_mazeNumber_88 : decode cX6_mazeNumber 88 = .ok (.getfield 291, 3) := by decide +kernel
theorem dX6_mazeNumber_91 : decode cX6_mazeNumber 91 = .ok (.ireturn, 1) := by decide +kernel
theorem dX6_mazeNumber_92 : decode cX6_mazeNumber 92 = .ok (.aload_n 0, 1) := by decide +kernel
theorem dX6_mazeNumber_93 : decode cX6_mazeNumber 93 = .ok (.getfield 10, 3) := by decide +kernel
theorem dX6_mazeNumber_96 : decode cX6_mazeNumber 96 = .ok (.getfield 147, 3) := by decide +kernel
theorem dX6_mazeNumber_99 : decode cX6_mazeNumber 99 = .ok (.ireturn, 1) := by decide +kernel
theorem dX6_mazeNumber_100 : decode cX6_mazeNumber 100 = .ok (.aload_n 0, 1) := by decide +kernel
theorem dX6_mazeNumber_101 : decode cX6_mazeNumber 101 = .ok (.getfield 10, 3) := by decide +kernel
theorem dX6_mazeNumber_104 : decode cX6_mazeNumber 104 = .ok (.getfield 156, 3) := by decide +kernel
theorem dX6_mazeNumber_107 : decode cX6_mazeNumber 107 = .ok (.invokestatic 294, 3) := by decide +kernel
theorem dX6_mazeNumber_110 : decode cX6_mazeNumber 110 = .ok (.ireturn, 1) := by decide +kernel
theorem dX6_mazeNumber_111 : decode cX6_mazeNumber 111 = .ok (.aload_n 0, 1) := by decide +kernel
theorem dX6_mazeNumber_112 : decode cX6_mazeNumber 112 = .ok (.getfield 10, 3) := by decide +kernel
theorem dX6_mazeNumber_115 : decode cX6_mazeNumber 115 = .ok (.getfield 160, 3) := by decide +kernel
theorem dX6_mazeNumber_118 : decode cX6_mazeNumber 118 = .ok (.invokestatic 294, 3) := by decide +kernel
theorem dX6_mazeNumber_121 : decode cX6_mazeNumber 121 = .ok (.ireturn, 1) := by decide +kernel
theorem dX6_mazeNumber_122 : decode cX6_mazeNumber 122 = .ok (.aload_n 0, 1) := by decide +kernel
theorem dX6_mazeNumber_123 : decode cX6_mazeNumber 123 = .ok (.getfield 10, 3) := by decide +kernel
theorem dX6_mazeNumber_126 : decode cX6_mazeNumber 126 = .ok (.getfield 132, 3) := by decide +kernel
theorem dX6_mazeNumber_129 : decode cX6_mazeNumber 129 = .ok (.ireturn, 1) := by decide +kernel
theorem dX6_mazeNumber_130 : decode cX6_mazeNumber 130 = .ok (.aload_n 0, 1) := by decide +kernel
theorem dX6_mazeNumber_131 : decode cX6_mazeNumber 131 = .ok (.getfield 19, 3) := by decide +kernel
theorem dX6_mazeNumber_134 : decode cX6_mazeNumber 134 = .ok (.getfield 192, 3) := by decide +kernel
theorem dX6_mazeNumber_137 : decode cX6_mazeNumber 137 = .ok (.ireturn, 1) := by decide +kernel
set_option maxRecDepth 20000 in
theorem ggX6_forgottenNumber_X3_remembers : GoodIn wsX6_forgottenNumber wsX3_remembers := goodIn_r _ [8, 9, 124, 125, 126, 127, 128, 129, 130, 131] (by decide +kernel) (by decide +kernel)
set_option maxRecDepth 20000 in
theorem gX6_forgottenNumber_X3_remembers : GoodIn wsX6_forgottenNumber (wsV RX6 107 RX3 yX3_remembers wsX3_remembers) := goodIn_app (goodIn_of _ (by decide +kernel)) ggX6_forgottenNumber_X3_remembers
set_option maxRecDepth 20000 in
theorem ggX6_forgottenNumber_X2_inputSet : GoodIn wsX6_forgottenNumber wsX2_inputSet := goodIn_r _ [13] (by decide +kernel) (by decide +kernel)
set_option maxRecDepth 20000 in
theorem gX6_forgottenNumber_X2_inputSet : GoodIn wsX6_forgottenNumber (va_wsS RX6 298 yX2_inputSet wsX2_inputSet) := goodIn_app (goodIn_of _ (by decide +kernel)) ggX6_forgottenNumber_X2_inputSet
set_option maxRecDepth 20000 in
theorem ggX6_forgottenNumber_X3_undecidedPairs : GoodIn wsX6_forgottenNumber wsX3_undecidedPairs := goodIn_r _ [17, 18, 19, 20, 21, 12, 22, 23, 24, 25, 26, 27, 28, 29, 30, 31, 124, 125, 126, 127, 128, 129, 130, 131] (by decide +kernel) (by decide +kernel)
set_option maxRecDepth 20000 in
theorem gX6_forgottenNumber_X3_undecidedPairs : GoodIn wsX6_forgottenNumber (wsV RX6 123 RX3 yX3_undecidedPairs wsX3_undecidedPairs) := goodIn_app (goodIn_of _ (by decide +kernel)) ggX6_forgottenNumber_X3_undecidedPairs
set_option maxRecDepth 20000 in
theorem ggX6_forgottenNumber_X5_look : GoodIn wsX6_forgottenNumber wsX5_look := goodIn_r _ [36, 37, 38, 39, 40, 41, 42, 43, 44, 11, 12, 13, 45, 46, 47, 7, 48, 19, 49, 50, 51, 52, 21, 22, 23, 24, 53, 54, 55, 56, 18, 57, 26, 27, 28, 29, 30, 31, 58, 59, 60, 61, 62, 63, 64, 65, 66, 67, 68, 69, 70, 71, 72, 73, 74, 75, 76, 77, 78, 79, 80, 81, 82, 83, 84, 85, 86, 87, 88, 35, 89, 90, 91, 92, 93, 94, 95, 96, 97, 98, 99, 100, 101, 102, 103, 104, 105, 106, 107, 108, 109, 110, 111, 112, 113, 114, 115, 116, 124, 125, 126, 127, 128, 129, 130, 131, 132, 133, 134, 135, 136, 137, 138, 139, 140, 141, 142, 143, 144, 145, 146, 147] (by decide +kernel) (by decide +kernel)
set_option maxRecDepth 20000 in
theorem gX6_forgottenNumber_X5_look : GoodIn wsX6_forgottenNumber (wsV RX6 268 RX5 yX5_look wsX5_look) := goodIn_app (goodIn_of _ (by decide +kernel)) ggX6_forgottenNumber_X5_look
theorem dX6_forgottenNumber_0 : decode cX6_forgottenNumber 0 = .ok (.aload_n 0, 1) := by decide +kernel
theorem dX6_forgottenNumber_1 : decode cX6_forgottenNumber 1 = .ok (.getfield 10, 3) := by decide +kernel
theorem dX6_forgottenNumber_4 : decode cX6_forgottenNumber 4 = .ok (.iload_n 1, 1) := by decide +kernel
theorem dX6_forgottenNumber_5 : decode cX6_forgottenNumber 5 = .ok (.invokevirtual 107, 3) := by decide +kernel
theorem dX6_forgottenNumber_8 : decode cX6_forgottenNumber 8 = .ok (.ifCond .ne 5, 3) := by decide +kernel
theorem dX6_forgottenNumber_11 : decode cX6_forgottenNumber 11 = .ok (.iconst (-1), 1) := by decide +kernel
theorem dX6_forgottenNumber_12 : decode cX6_forgottenNumber 12 = .ok (.ireturn, 1) := by decide +kernel
theorem dX6_forgottenNumber_13 : decode cX6_forgottenNumber 13 = .ok (.aload_n 0, 1) := by decide +kernel
theorem dX6_forgottenNumber_14 : decode cX6_forgottenNumber 14 = .ok (.getfield 10, 3) := by decide +kernel
theorem dX6_forgottenNumber_17 : decode cX6_forgottenNumber 17 = .ok (.getfield 116, 3) := by decide +kernel
theorem dX6_forgottenNumber_20 : decode cX6_forgottenNumber 20 = .ok (.iconst 1, 1) := by decide +kernel
theorem dX6_forgottenNumber_21 : decode cX6_forgottenNumber 21 = .ok (.iload_n 1, 1) := by decide +kernel
theorem dX6_forgottenNumber_22 : decode cX6_forgottenNumber 22 = .ok (.ishl, 1) := by decide +kernel
theorem dX6_forgottenNumber_23 : decode cX6_forgottenNumber 23 = .ok (.iconst (-1), 1) := by decide +kernel
theorem dX6_forgottenNumber_24 : decode cX6_forgottenNumber 24 = .ok (.ixor, 1) := by decide +kernel
theorem dX6_forgottenNumber_25 : decode cX6_forgottenNumber 25 = .ok (.iand, 1) := by decide +kernel
theorem dX6_forgottenNumber_26 : decode cX6_forgottenNumber 26 = .ok (.istore_n 3, 1) := by decide +kernel
theorem dX6_forgottenNumber_27 : decode cX6_forgottenNumber 27 = .ok (.iload_n 2, 1) := by decide +kernel
theorem dX6_forgottenNumber_28 : decode cX6_forgottenNumber 28 = .ok (.ifCond .ne 25, 3) := by decide +kernel
theorem dX6_forgottenNumber_31 : decode cX6_forgottenNumber 31 = .ok (.aload_n 0, 1) := by decide +kernel
theorem dX6_forgottenNumber_32 : decode cX6_forgottenNumber 32 = .ok (.getfield 10, 3) := by decide +kernel
theorem dX6_forgottenNumber_35 : decode cX6_forgottenNumber 35 = .ok (.aload_n 0, 1) := by decide +kernel
theorem dX6_forgottenNumber_36 : decode cX6_forgottenNumber 36 = .ok (.getfield 10, 3) := by decide +kernel
theorem dX6_forgottenNumber_39 : decode cX6_forgottenNumber 39 = .ok (.getfield 59, 3) := by decide +kernel
theorem dX6_forgottenNumber_42 : decode cX6_forgottenNumber 42 = .ok (.invokestatic 298, 3) := by decide +kernel
theorem dX6_forgottenNumber_45 : decode cX6_forgottenNumber 45 = .ok (.iload_n 3, 1) := by decide +kernel
theorem dX6_forgottenNumber_46 : decode cX6_forgottenNumber 46 = .ok (.iconst (-1), 1) := by decide +kernel
theorem dX6_forgottenNumber_47 : decode cX6_forgottenNumber 47 = .ok (.ixor, 1) := by decide +kernel
theorem dX6_forgottenNumber_48 : decode cX6_forgottenNumber 48 = .ok (.iand, 1) := by decide +kernel
theorem dX6_forgottenNumber_49 : decode cX6_forgottenNumber 49 = .ok (.invokevirtual 123, 3) := by decide +kernel
theorem dX6_forgottenNumber_52 : decode cX6_forgottenNumber 52 = .ok (.ireturn, 1) := by decide +kernel
theorem dX6_forgottenNumber_53 : decode cX6_forgottenNumber 53 = .ok (.aload_n 0, 1) := by decide +kernel
theorem dX6_forgottenNumber_54 : decode cX6_forgottenNumber 54 = .ok (.getfield 44, 3) := by decide +kernel
theorem dX6_forgottenNumber_57 : decode cX6_forgottenNumber 57 = .ok (.aload_n 0, 1) := by decide +kernel
theorem dX6_forgottenNumber_58 : decode cX6_forgottenNumber 58 = .ok (.getfield 10, 3) := by decide +kernel
theorem dX6_forgottenNumber_61 : decode cX6_forgottenNumber 61 = .ok (.iload_n 3, 1) := by decide +kernel
theorem dX6_forgottenNumber_62 : decode cX6_forgottenNumber 62 = .ok (.aload_n 0, 1) := by decide +kernel
theorem dX6_forgottenNumber_63 : decode cX6_forgottenNumber 63 = .ok (.getfield 33, 3) := by decide +kernel
theorem dX6_forgottenNumber_66 : decode cX6_forgottenNumber 66 = .ok (.invokevirtual 268, 3) := by decide +kernel
theorem dX6_forgottenNumber_69 : decode cX6_forgottenNumber 69 = .ok (.aload_n 0, 1) := by decide +kernel
theorem dX6_forgottenNumber_70 : decode cX6_forgottenNumber 70 = .ok (.getfield 44, 3) := by decide +kernel
theorem dX6_forgottenNumber_73 : decode cX6_forgottenNumber 73 = .ok (.getfield 285, 3) := by decide +kernel
theorem dX6_forgottenNumber_76 : decode cX6_forgottenNumber 76 = .ok (.ireturn, 1) := by decide +kernel
set_option maxRecDepth 20000 in
theorem ggX6_shareDecided_X3_onesOf : GoodIn wsX6_shareDecided wsX3_onesOf := goodIn_r _ [7, 8, 9, 10, 11, 37, 38, 39, 40, 41, 42, 43, 44] (by decide +kernel) (by decide +kernel)
set_option maxRecDepth 20000 in
theorem gX6_shareDecided_X3_onesOf : GoodIn wsX6_shareDecided (wsV RX6 83 RX3 yX3_onesOf wsX3_onesOf) := goodIn_app (goodIn_of _ (by decide +kernel)) ggX6_shareDecided_X3_onesOf
set_option maxRecDepth 20000 in
theorem ggX6_shareDecided_X3_zerosOf : GoodIn wsX6_shareDecided wsX3_zerosOf := goodIn_r _ [15, 16, 9, 10, 11, 37, 38, 39, 40, 41, 42, 43, 44] (by decide +kernel) (by decide +kernel)
set_option maxRecDepth 20000 in
theorem gX6_shareDecided_X3_zerosOf : GoodIn wsX6_shareDecided (wsV RX6 272 RX3 yX3_zerosOf wsX3_zerosOf) := goodIn_app (goodIn_of _ (by decide +kernel)) ggX6_shareDecided_X3_zerosOf
set_option maxRecDepth 20000 in
theorem ggX6_shareDecided_J13_bitCount_95d88 : GoodIn wsX6_shareDecided wsJ13_bitCount_95d88 := goodIn_r _ [20, 21, 22, 23] (by decide +kernel) (by decide +kernel)
set_option maxRecDepth 20000 in
theorem gX6_shareDecided_J13_bitCount_95d88 : GoodIn wsX6_shareDecided (va_wsS RX6 87 yJ13_bitCount_95d88 wsJ13_bitCount_95d88) := goodIn_app (goodIn_of _ (by decide +kernel)) ggX6_shareDecided_J13_bitCount_95d88
set_option maxRecDepth 20000 in
theorem ggX6_shareDecided_X5_undecidedOf : GoodIn wsX6_shareDecided wsX5_undecidedOf := goodIn_r _ [28, 29, 9, 10, 11, 45, 46, 47, 48, 49, 50, 51, 52, 53, 54, 55, 56] (by decide +kernel) (by decide +kernel)
set_option maxRecDepth 20000 in
theorem gX6_shareDecided_X5_undecidedOf : GoodIn wsX6_shareDecided (wsV RX6 303 RX5 yX5_undecidedOf wsX5_undecidedOf) := goodIn_app (goodIn_of _ (by decide +kernel)) ggX6_shareDecided_X5_undecidedOf
theorem dX6_shareDecided_0 : decode cX6_shareDecided 0 = .ok (.iconst 0, 1) := by decide +kernel
theorem dX6_shareDecided_1 : decode cX6_shareDecided 1 = .ok (.istore_n 2, 1) := by decide +kernel
theorem dX6_shareDecided_2 : decode cX6_shareDecided 2 = .ok (.iconst 0, 1) := by decide +kernel
theorem dX6_shareDecided_3 : decode cX6_shareDecided 3 = .ok (.istore_n 3, 1) := by decide +kernel
theorem dX6_shareDecided_4 : decode cX6_shareDecided 4 = .ok (.iconst 0, 1) := by decide +kernel
theorem dX6_shareDecided_5 : decode cX6_shareDecided 5 = .ok (.istore 4, 2) := by decide +kernel
theorem dX6_shareDecided_7 : decode cX6_shareDecided 7 = .ok (.iload 4, 2) := by decide +kernel
theorem dX6_shareDecided_9 : decode cX6_shareDecided 9 = .ok (.iconst 4, 1) := by decide +kernel
theorem dX6_shareDecided_10 : decode cX6_shareDecided 10 = .ok (.if_icmp .ge 57, 3) := by decide +kernel
theorem dX6_shareDecided_13 : decode cX6_shareDecided 13 = .ok (.aload_n 0, 1) := by decide +kernel
theorem dX6_shareDecided_14 : decode cX6_shareDecided 14 = .ok (.getfield 10, 3) := by decide +kernel
theorem dX6_shareDecided_17 : decode cX6_shareDecided 17 = .ok (.iload 4, 2) := by decide +kernel
theorem dX6_shareDecided_19 : decode cX6_shareDecided 19 = .ok (.invokevirtual 83, 3) := by decide +kernel
theorem dX6_shareDecided_22 : decode cX6_shareDecided 22 = .ok (.aload_n 0, 1) := by decide +kernel
theorem dX6_shareDecided_23 : decode cX6_shareDecided 23 = .ok (.getfield 10, 3) := by decide +kernel
theorem dX6_shareDecided_26 : decode cX6_shareDecided 26 = .ok (.iload 4, 2) := by decide +kernel
theorem dX6_shareDecided_28 : decode cX6_shareDecided 28 = .ok (.invokevirtual 272, 3) := by decide +kernel
theorem dX6_shareDecided_31 : decode cX6_shareDecided 31 = .ok (.lor, 1) := by decide +kernel
theorem dX6_shareDecided_32 : decode cX6_shareDecided 32 = .ok (.lstore 5, 2) := by decide +kernel
theorem dX6_shareDecided_34 : decode cX6_shareDecided 34 = .ok (.iload_n 2, 1) := by decide +kernel
theorem dX6_shareDecided_35 : decode cX6_shareDecided 35 = .ok (.lload 5, 2) := by decide +kernel
theorem dX6_shareDecided_37 : decode cX6_shareDecided 37 = .ok (.invokestatic 87, 3) := by decide +kernel
theorem dX6_shareDecided_40 : decode cX6_shareDecided 40 = .ok (.iadd, 1) := by decide +kernel
theorem dX6_shareDecided_41 : decode cX6_shareDecided 41 = .ok (.istore_n 2, 1) := by decide +kernel
theorem dX6_shareDecided_42 : decode cX6_shareDecided 42 = .ok (.iload_n 3, 1) := by decide +kernel
theorem dX6_shareDecided_43 : decode cX6_shareDecided 43 = .ok (.lload 5, 2) := by decide +kernel
theorem dX6_shareDecided_45 : decode cX6_shareDecided 45 = .ok (.aload_n 1, 1) := by decide +kernel
theorem dX6_shareDecided_46 : decode cX6_shareDecided 46 = .ok (.iload 4, 2) := by decide +kernel
theorem dX6_shareDecided_48 : decode cX6_shareDecided 48 = .ok (.invokevirtual 303, 3) := by decide +kernel
theorem dX6_shareDecided_51 : decode cX6_shareDecided 51 = .ok (.ldc2_w 306, 3) := by decide +kernel
theorem dX6_shareDecided_54 : decode cX6_shareDecided 54 = .ok (.lxor, 1) := by decide +kernel
theorem dX6_shareDecided_55 : decode cX6_shareDecided 55 = .ok (.land, 1) := by decide +kernel
theorem dX6_shareDecided_56 : decode cX6_shareDecided 56 = .ok (.invokestatic 87, 3) := by decide +kernel
theorem dX6_shareDecided_59 : decode cX6_shareDecided 59 = .ok (.iadd, 1) := by decide +kernel
theorem dX6_shareDecided_60 : decode cX6_shareDecided 60 = .ok (.istore_n 3, 1) := by decide +kernel
theorem dX6_shareDecided_61 : decode cX6_shareDecided 61 = .ok (.iinc 4 1, 3) := by decide +kernel
theorem dX6_shareDecided_64 : decode cX6_shareDecided 64 = .ok (.goto (-57), 3) := by decide +kernel
theorem dX6_shareDecided_67 : decode cX6_shareDecided 67 = .ok (.iload_n 2, 1) := by decide +kernel
theorem dX6_shareDecided_68 : decode cX6_shareDecided 68 = .ok (.ifCond .ne 5, 3) := by decide +kernel
theorem dX6_shareDecided_71 : decode cX6_shareDecided 71 = .ok (.dconst 1, 1) := by decide +kernel
theorem dX6_shareDecided_72 : decode cX6_shareDecided 72 = .ok (.dreturn, 1) := by decide +kernel
theorem dX6_shareDecided_73 : decode cX6_shareDecided 73 = .ok (.iload_n 3, 1) := by decide +kernel
theorem dX6_shareDecided_74 : decode cX6_shareDecided 74 = .ok (.i2d, 1) := by decide +kernel
theorem dX6_shareDecided_75 : decode cX6_shareDecided 75 = .ok (.iload_n 2, 1) := by decide +kernel
theorem dX6_shareDecided_76 : decode cX6_shareDecided 76 = .ok (.i2d, 1) := by decide +kernel
theorem dX6_shareDecided_77 : decode cX6_shareDecided 77 = .ok (.ddiv, 1) := by decide +kernel
theorem dX6_shareDecided_78 : decode cX6_shareDecided 78 = .ok (.dreturn, 1) := by decide +kernel
theorem dX6_mixed_0 : decode cX6_mixed 0 = .ok (.ldc2_w 308, 3) := by decide +kernel
theorem dX6_mixed_3 : decode cX6_mixed 3 = .ok (.lload_n 0, 1) := by decide +kernel
theorem dX6_mixed_4 : decode cX6_mixed 4 = .ok (.lmul, 1) := by decide +kernel
theorem dX6_mixed_5 : decode cX6_mixed 5 = .ok (.lload_n 2, 1) := by decide +kernel
theorem dX6_mixed_6 : decode cX6_mixed 6 = .ok (.ladd, 1) := by decide +kernel
theorem dX6_mixed_7 : decode cX6_mixed 7 = .ok (.lreturn, 1) := by decide +kernel
set_option maxRecDepth 20000 in
theorem ggX6_mixedRows_X3_rowCount : GoodIn wsX6_mixedRows wsX3_rowCount := goodIn_r _ [6, 7, 57, 58, 59, 60, 61, 62, 63, 64] (by decide +kernel) (by decide +kernel)
set_option maxRecDepth 20000 in
theorem gX6_mixedRows_X3_rowCount : GoodIn wsX6_mixedRows (wsV RX6 259 RX3 yX3_rowCount wsX3_rowCount) := goodIn_app (goodIn_of _ (by decide +kernel)) ggX6_mixedRows_X3_rowCount
set_option maxRecDepth 20000 in
theorem ggX6_mixedRows_X6_rowNumber : GoodIn wsX6_mixedRows wsX6_rowNumber := goodIn_r _ [12, 1, 13, 14, 15, 5, 16, 17, 18, 19, 20, 21, 22, 11, 23, 24, 25, 26, 27, 28, 29, 30, 31, 32, 33, 34, 35, 36, 37, 38, 39, 40, 41, 42, 43, 44, 45, 50, 51, 52, 53, 54, 55, 56, 57, 58, 59, 60, 61, 62, 63, 64, 65, 66, 67, 68, 69, 70, 71, 72, 73, 74, 75, 76] (by decide +kernel) (by decide +kernel)
set_option maxRecDepth 20000 in
theorem gX6_mixedRows_X6_rowNumber : GoodIn wsX6_mixedRows (wsV RX6 195 RX6 yX6_rowNumber wsX6_rowNumber) := goodIn_app (goodIn_of _ (by decide +kernel)) ggX6_mixedRows_X6_rowNumber
set_option maxRecDepth 20000 in
theorem ggX6_mixedRows_X6_mixed : GoodIn wsX6_mixedRows wsX6_mixed := goodIn_r _ [48, 49] (by decide +kernel) (by decide +kernel)
set_option maxRecDepth 20000 in
theorem gX6_mixedRows_X6_mixed : GoodIn wsX6_mixedRows (va_wsS RX6 232 yX6_mixed wsX6_mixed) := goodIn_app (goodIn_of _ (by decide +kernel)) ggX6_mixedRows_X6_mixed
theorem dX6_mixedRows_0 : decode cX6_mixedRows 0 = .ok (.lload_n 1, 1) := by decide +kernel
theorem dX6_mixedRows_1 : decode cX6_mixedRows 1 = .ok (.lstore 5, 2) := by decide +kernel
theorem dX6_mixedRows_3 : decode cX6_mixedRows 3 = .ok (.aload_n 0, 1) := by decide +kernel
theorem dX6_mixedRows_4 : decode cX6_mixedRows 4 = .ok (.getfield 10, 3) := by decide +kernel
theorem dX6_mixedRows_7 : decode cX6_mixedRows 7 = .ok (.invokevirtual 259, 3) := by decide +kernel
theorem dX6_mixedRows_10 : decode cX6_mixedRows 10 = .ok (.istore 7, 2) := by decide +kernel
theorem dX6_mixedRows_12 : decode cX6_mixedRows 12 = .ok (.iconst 0, 1) := by decide +kernel
theorem dX6_mixedRows_13 : decode cX6_mixedRows 13 = .ok (.istore 8, 2) := by decide +kernel
theorem dX6_mixedRows_15 : decode cX6_mixedRows 15 = .ok (.iload 8, 2) := by decide +kernel
theorem dX6_mixedRows_17 : decode cX6_mixedRows 17 = .ok (.iload 7, 2) := by decide +kernel
theorem dX6_mixedRows_19 : decode cX6_mixedRows 19 = .ok (.if_icmp .ge 43, 3) := by decide +kernel
theorem dX6_mixedRows_22 : decode cX6_mixedRows 22 = .ok (.iconst 0, 1) := by decide +kernel
theorem dX6_mixedRows_23 : decode cX6_mixedRows 23 = .ok (.istore 9, 2) := by decide +kernel
theorem dX6_mixedRows_25 : decode cX6_mixedRows 25 = .ok (.iload 9, 2) := by decide +kernel
theorem dX6_mixedRows_27 : decode cX6_mixedRows 27 = .ok (.iconst 2, 1) := by decide +kernel
theorem dX6_mixedRows_28 : decode cX6_mixedRows 28 = .ok (.if_icmp .gt 28, 3) := by decide +kernel
theorem dX6_mixedRows_31 : decode cX6_mixedRows 31 = .ok (.lload 5, 2) := by decide +kernel
theorem dX6_mixedRows_33 : decode cX6_mixedRows 33 = .ok (.aload_n 0, 1) := by decide +kernel
theorem dX6_mixedRows_34 : decode cX6_mixedRows 34 = .ok (.aload_n 3, 1) := by decide +kernel
theorem dX6_mixedRows_35 : decode cX6_mixedRows 35 = .ok (.iload 4, 2) := by decide +kernel
theorem dX6_mixedRows_37 : decode cX6_mixedRows 37 = .ok (.iload 8, 2) := by decide +kernel
theorem dX6_mixedRows_39 : decode cX6_mixedRows 39 = .ok (.iload 9, 2) := by decide +kernel
theorem dX6_mixedRows_41 : decode cX6_mixedRows 41 = .ok (.invokevirtual 195, 3) := by decide +kernel
theorem dX6_mixedRows_44 : decode cX6_mixedRows 44 = .ok (.i2l, 1) := by decide +kernel
theorem dX6_mixedRows_45 : decode cX6_mixedRows 45 = .ok (.invokestatic 232, 3) := by decide +kernel
theorem dX6_mixedRows_48 : decode cX6_mixedRows 48 = .ok (.lstore 5, 2) := by decide +kernel
theorem dX6_mixedRows_50 : decode cX6_mixedRows 50 = .ok (.iinc 9 1, 3) := by decide +kernel
theorem dX6_mixedRows_53 : decode cX6_mixedRows 53 = .ok (.goto (-28), 3) := by decide +kernel
theorem dX6_mixedRows_56 : decode cX6_mixedRows 56 = .ok (.iinc 8 1, 3) := by decide +kernel
theorem dX6_mixedRows_59 : decode cX6_mixedRows 59 = .ok (.goto (-44), 3) := by decide +kernel
theorem dX6_mixedRows_62 : decode cX6_mixedRows 62 = .ok (.lload 5, 2) := by decide +kernel
theorem dX6_mixedRows_64 : decode cX6_mixedRows 64 = .ok (.lreturn, 1) := by decide +kernel
set_option maxRecDepth 20000 in
theorem ggX6_mixedOutput_X6_outputNumber : GoodIn wsX6_mixedOutput wsX6_outputNumber := goodIn_r _ [6, 1, 7, 8, 9, 10, 11, 12, 13, 5, 14, 15, 16, 17, 18, 19, 20, 21, 22, 23, 24, 25, 26, 27, 28, 29, 30, 31, 32, 33, 34, 35, 36, 37, 38, 39, 40, 41, 42, 43, 44, 45, 46, 47, 48, 49, 50, 51, 52, 53, 54, 55, 56, 57, 58, 59, 60, 61, 62, 63, 64, 65, 66, 67, 68, 69, 70, 71, 72, 73, 74, 75, 76, 77, 127, 128, 129, 130, 131, 132, 133, 134, 135, 136, 137, 138, 139, 140, 141, 142, 143, 144, 145, 146, 147, 148, 149, 150, 151, 152, 153] (by decide +kernel) (by decide +kernel)
set_option maxRecDepth 20000 in
theorem gX6_mixedOutput_X6_outputNumber : GoodIn wsX6_mixedOutput (wsV RX6 199 RX6 yX6_outputNumber wsX6_outputNumber) := goodIn_app (goodIn_of _ (by decide +kernel)) ggX6_mixedOutput_X6_outputNumber
set_option maxRecDepth 20000 in
theorem ggX6_mixedOutput_X6_mixed : GoodIn wsX6_mixedOutput wsX6_mixed := goodIn_r _ [80, 81] (by decide +kernel) (by decide +kernel)
set_option maxRecDepth 20000 in
theorem gX6_mixedOutput_X6_mixed : GoodIn wsX6_mixedOutput (va_wsS RX6 232 yX6_mixed wsX6_mixed) := goodIn_app (goodIn_of _ (by decide +kernel)) ggX6_mixedOutput_X6_mixed
set_option maxRecDepth 20000 in
theorem ggX6_mixedOutput_X5_sizeOf : GoodIn wsX6_mixedOutput wsX5_sizeOf := goodIn_r _ [61, 52, 13, 5, 14, 142, 143, 144, 145, 146, 147, 148, 149, 150, 151, 152, 153] (by decide +kernel) (by decide +kernel)
set_option maxRecDepth 20000 in
theorem gX6_mixedOutput_X5_sizeOf : GoodIn wsX6_mixedOutput (wsV RX6 310 RX5 yX5_sizeOf wsX5_sizeOf) := goodIn_app (goodIn_of _ (by decide +kernel)) ggX6_mixedOutput_X5_sizeOf
set_option maxRecDepth 20000 in
theorem ggX6_mixedOutput_X5_productNumber : GoodIn wsX6_mixedOutput wsX5_productNumber := goodIn_r _ [86, 48, 62, 63, 64, 45, 65, 52, 66, 13, 5, 14, 87, 88, 89, 90, 91, 92, 93, 94, 95, 96, 97, 98, 53, 16, 17, 18, 19, 20, 21, 99, 100, 101, 102, 67, 68, 69, 70, 71, 72, 73, 142, 143, 144, 145, 146, 147, 148, 149, 150, 151, 152, 153] (by decide +kernel) (by decide +kernel)
set_option maxRecDepth 20000 in
theorem gX6_mixedOutput_X5_productNumber : GoodIn wsX6_mixedOutput (wsV RX6 203 RX5 yX5_productNumber wsX5_productNumber) := goodIn_app (goodIn_of _ (by decide +kernel)) ggX6_mixedOutput_X5_productNumber
set_option maxRecDepth 20000 in
theorem ggX6_mixedOutput_X3_neededBy : GoodIn wsX6_mixedOutput wsX3_neededBy := goodIn_r _ [106, 26, 107, 8, 9, 10, 11, 12, 13, 5, 14, 108, 95, 89, 96, 97, 98, 109, 28, 29, 30, 31, 134, 135, 136, 137, 138, 139, 140, 141] (by decide +kernel) (by decide +kernel)
set_option maxRecDepth 20000 in
theorem gX6_mixedOutput_X3_neededBy : GoodIn wsX6_mixedOutput (wsV RX6 214 RX3 yX3_neededBy wsX3_neededBy) := goodIn_app (goodIn_of _ (by decide +kernel)) ggX6_mixedOutput_X3_neededBy
set_option maxRecDepth 20000 in
theorem ggX6_mixedOutput_X5_sameAnswers : GoodIn wsX6_mixedOutput wsX5_sameAnswers := goodIn_r _ [113, 48, 114, 115, 116, 45, 117, 118, 13, 5, 14, 53, 16, 17, 18, 19, 20, 21, 142, 143, 144, 145, 146, 147, 148, 149, 150, 151, 152, 153] (by decide +kernel) (by decide +kernel)
set_option maxRecDepth 20000 in
theorem gX6_mixedOutput_X5_sameAnswers : GoodIn wsX6_mixedOutput (wsV RX6 220 RX5 yX5_sameAnswers wsX5_sameAnswers) := goodIn_app (goodIn_of _ (by decide +kernel)) ggX6_mixedOutput_X5_sameAnswers
set_option maxRecDepth 20000 in
theorem ggX6_mixedOutput_X5_nearestUndecided : GoodIn wsX6_mixedOutput wsX5_nearestUndecided := goodIn_r _ [122, 67, 68, 69, 70, 71, 72, 73, 123, 124, 125, 45, 126, 50, 13, 5, 14, 142, 143, 144, 145, 146, 147, 148, 149, 150, 151, 152, 153] (by decide +kernel) (by decide +kernel)
set_option maxRecDepth 20000 in
theorem gX6_mixedOutput_X5_nearestUndecided : GoodIn wsX6_mixedOutput (wsV RX6 223 RX5 yX5_nearestUndecided wsX5_nearestUndecided) := goodIn_app (goodIn_of _ (by decide +kernel)) ggX6_mixedOutput_X5_nearestUndecided
theorem dX6_mixedOutput_0 : decode cX6_mixedOutput 0 = .ok (.lload_n 1, 1) := by decide +kernel
theorem dX6_mixedOutput_1 : decode cX6_mixedOutput 1 = .ok (.lstore 5, 2) := by decide +kernel
theorem dX6_mixedOutput_3 : decode cX6_mixedOutput 3 = .ok (.iconst 0, 1) := by decide +kernel
theorem dX6_mixedOutput_4 : decode cX6_mixedOutput 4 = .ok (.istore 7, 2) := by decide +kernel
theorem dX6_mixedOutput_6 : decode cX6_mixedOutput 6 = .ok (.iload 7, 2) := by decide +kernel
theorem dX6_mixedOutput_8 : decode cX6_mixedOutput 8 = .ok (.bipush 10, 2) := by decide +kernel
theorem dX6_mixedOutput_10 : decode cX6_mixedOutput 10 = .ok (.if_icmp .gt 26, 3) := by decide +kernel
theorem dX6_mixedOutput_13 : decode cX6_mixedOutput 13 = .ok (.lload 5, 2) := by decide +kernel
theorem dX6_mixedOutput_15 : decode cX6_mixedOutput 15 = .ok (.aload_n 0, 1) := by decide +kernel
theorem dX6_mixedOutput_16 : decode cX6_mixedOutput 16 = .ok (.aload_n 3, 1) := by decide +kernel
theorem dX6_mixedOutput_17 : decode cX6_mixedOutput 17 = .ok (.iload 4, 2) := by decide +kernel
theorem dX6_mixedOutput_19 : decode cX6_mixedOutput 19 = .ok (.iload 7, 2) := by decide +kernel
theorem dX6_mixedOutput_21 : decode cX6_mixedOutput 21 = .ok (.invokevirtual 199, 3) := by decide +kernel
theorem dX6_mixedOutput_24 : decode cX6_mixedOutput 24 = .ok (.i2l, 1) := by decide +kernel
theorem dX6_mixedOutput_25 : decode cX6_mixedOutput 25 = .ok (.invokestatic 232, 3) := by decide +kernel
theorem dX6_mixedOutput_28 : decode cX6_mixedOutput 28 = .ok (.lstore 5, 2) := by decide +kernel
theorem dX6_mixedOutput_30 : decode cX6_mixedOutput 30 = .ok (.iinc 7 1, 3) := by decide +kernel
theorem dX6_mixedOutput_33 : decode cX6_mixedOutput 33 = .ok (.goto (-27), 3) := by decide +kernel
theorem dX6_mixedOutput_36 : decode cX6_mixedOutput 36 = .ok (.aload_n 3, 1) := by decide +kernel
theorem dX6_mixedOutput_37 : decode cX6_mixedOutput 37 = .ok (.iload 4, 2) := by decide +kernel
theorem dX6_mixedOutput_39 : decode cX6_mixedOutput 39 = .ok (.invokevirtual 310, 3) := by decide +kernel
theorem dX6_mixedOutput_42 : decode cX6_mixedOutput 42 = .ok (.istore 7, 2) := by decide +kernel
theorem dX6_mixedOutput_44 : decode cX6_mixedOutput 44 = .ok (.iconst 0, 1) := by decide +kernel
theorem dX6_mixedOutput_45 : decode cX6_mixedOutput 45 = .ok (.istore 8, 2) := by decide +kernel
theorem dX6_mixedOutput_47 : decode cX6_mixedOutput 47 = .ok (.iload 8, 2) := by decide +kernel
theorem dX6_mixedOutput_49 : decode cX6_mixedOutput 49 = .ok (.iload 7, 2) := by decide +kernel
theorem dX6_mixedOutput_51 : decode cX6_mixedOutput 51 = .ok (.if_icmp .ge 42, 3) := by decide +kernel
theorem dX6_mixedOutput_54 : decode cX6_mixedOutput 54 = .ok (.iconst 0, 1) := by decide +kernel
theorem dX6_mixedOutput_55 : decode cX6_mixedOutput 55 = .ok (.istore 9, 2) := by decide +kernel
theorem dX6_mixedOutput_57 : decode cX6_mixedOutput 57 = .ok (.iload 9, 2) := by decide +kernel
theorem dX6_mixedOutput_59 : decode cX6_mixedOutput 59 = .ok (.iconst 3, 1) := by decide +kernel
theorem dX6_mixedOutput_60 : decode cX6_mixedOutput 60 = .ok (.if_icmp .gt 27, 3) := by decide +kernel
theorem dX6_mixedOutput_63 : decode cX6_mixedOutput 63 = .ok (.lload 5, 2) := by decide +kernel
theorem dX6_mixedOutput_65 : decode cX6_mixedOutput 65 = .ok (.aload_n 3, 1) := by decide +kernel
theorem dX6_mixedOutput_66 : decode cX6_mixedOutput 66 = .ok (.iload 4, 2) := by decide +kernel
theorem dX6_mixedOutput_68 : decode cX6_mixedOutput 68 = .ok (.iload 8, 2) := by decide +kernel
theorem dX6_mixedOutput_70 : decode cX6_mixedOutput 70 = .ok (.iload 9, 2) := by decide +kernel
theorem dX6_mixedOutput_72 : decode cX6_mixedOutput 72 = .ok (.invokevirtual 203, 3) := by decide +kernel
theorem dX6_mixedOutput_75 : decode cX6_mixedOutput 75 = .ok (.i2l, 1) := by decide +kernel
theorem dX6_mixedOutput_76 : decode cX6_mixedOutput 76 = .ok (.invokestatic 232, 3) := by decide +kernel
theorem dX6_mixedOutput_79 : decode cX6_mixedOutput 79 = .ok (.lstore 5, 2) := by decide +kernel
theorem dX6_mixedOutput_81 : decode cX6_mixedOutput 81 = .ok (.iinc 9 1, 3) := by decide +kernel
theorem dX6_mixedOutput_84 : decode cX6_mixedOutput 84 = .ok (.goto (-27), 3) := by decide +kernel
theorem dX6_mixedOutput_87 : decode cX6_mixedOutput 87 = .ok (.iinc 8 1, 3) := by decide +kernel
theorem dX6_mixedOutput_90 : decode cX6_mixedOutput 90 = .ok (.goto (-43), 3) := by decide +kernel
theorem dX6_mixedOutput_93 : decode cX6_mixedOutput 93 = .ok (.lload 5, 2) := by decide +kernel
theorem dX6_mixedOutput_95 : decode cX6_mixedOutput 95 = .ok (.aload_n 0, 1) := by decide +kernel
theorem dX6_mixedOutput_96 : decode cX6_mixedOutput 96 = .ok (.getfield 10, 3) := by decide +kernel
theorem dX6_mixedOutput_99 : decode cX6_mixedOutput 99 = .ok (.iload 4, 2) := by decide +kernel
theorem dX6_mixedOutput_101 : decode cX6_mixedOutput 101 = .ok (.invokevirtual 214, 3) := by decide +kernel
theorem dX6_mixedOutput_104 : decode cX6_mixedOutput 104 = .ok (.i2l, 1) := by decide +kernel
theorem dX6_mixedOutput_105 : decode cX6_mixedOutput 105 = .ok (.invokestatic 232, 3) := by decide +kernel
theorem dX6_mixedOutput_108 : decode cX6_mixedOutput 108 = .ok (.lstore 5, 2) := by decide +kernel
theorem dX6_mixedOutput_110 : decode cX6_mixedOutput 110 = .ok (.lload 5, 2) := by decide +kernel
theorem dX6_mixedOutput_112 : decode cX6_mixedOutput 112 = .ok (.aload_n 3, 1) := by decide +kernel
theorem dX6_mixedOutput_113 : decode cX6_mixedOutput 113 = .ok (.iload 4, 2) := by decide +kernel
theorem dX6_mixedOutput_115 : decode cX6_mixedOutput 115 = .ok (.iconst 0, 1) := by decide +kernel
theorem dX6_mixedOutput_116 : decode cX6_mixedOutput 116 = .ok (.invokevirtual 220, 3) := by decide +kernel
theorem dX6_mixedOutput_119 : decode cX6_mixedOutput 119 = .ok (.i2l, 1) := by decide +kernel
theorem dX6_mixedOutput_120 : decode cX6_mixedOutput 120 = .ok (.invokestatic 232, 3) := by decide +kernel
theorem dX6_mixedOutput_123 : decode cX6_mixedOutput 123 = .ok (.lstore 5, 2) := by decide +kernel
theorem dX6_mixedOutput_125 : decode cX6_mixedOutput 125 = .ok (.lload 5, 2) := by decide +kernel
theorem dX6_mixedOutput_127 : decode cX6_mixedOutput 127 = .ok (.aload_n 3, 1) := by decide +kernel
theorem dX6_mixedOutput_128 : decode cX6_mixedOutput 128 = .ok (.iload 4, 2) := by decide +kernel
theorem dX6_mixedOutput_130 : decode cX6_mixedOutput 130 = .ok (.iconst 0, 1) := by decide +kernel
theorem dX6_mixedOutput_131 : decode cX6_mixedOutput 131 = .ok (.invokevirtual 223, 3) := by decide +kernel
theorem dX6_mixedOutput_134 : decode cX6_mixedOutput 134 = .ok (.i2l, 1) := by decide +kernel
theorem dX6_mixedOutput_135 : decode cX6_mixedOutput 135 = .ok (.invokestatic 232, 3) := by decide +kernel
theorem dX6_mixedOutput_138 : decode cX6_mixedOutput 138 = .ok (.lreturn, 1) := by decide +kernel
theorem dX6_bitsOfShare_0 : decode cX6_bitsOfShare 0 = .ok (.dload_n 0, 1) := by decide +kernel
theorem dX6_bitsOfShare_1 : decode cX6_bitsOfShare 1 = .ok (.dconst 0, 1) := by decide +kernel
theorem dX6_bitsOfShare_2 : decode cX6_bitsOfShare 2 = .ok (.dcmp .g, 1) := by decide +kernel
theorem dX6_bitsOfShare_3 : decode cX6_bitsOfShare 3 = .ok (.ifCond .gt 5, 3) := by decide +kernel
theorem dX6_bitsOfShare_6 : decode cX6_bitsOfShare 6 = .ok (.lconst 0, 1) := by decide +kernel
theorem dX6_bitsOfShare_7 : decode cX6_bitsOfShare 7 = .ok (.lreturn, 1) := by decide +kernel
theorem dX6_bitsOfShare_8 : decode cX6_bitsOfShare 8 = .ok (.dload_n 0, 1) := by decide +kernel
theorem dX6_bitsOfShare_9 : decode cX6_bitsOfShare 9 = .ok (.dstore_n 2, 1) := by decide +kernel
theorem dX6_bitsOfShare_10 : decode cX6_bitsOfShare 10 = .ok (.ldc2_w 313, 3) := by decide +kernel
theorem dX6_bitsOfShare_13 : decode cX6_bitsOfShare 13 = .ok (.lstore 4, 2) := by decide +kernel
theorem dX6_bitsOfShare_15 : decode cX6_bitsOfShare 15 = .ok (.iconst 0, 1) := by decide +kernel
theorem dX6_bitsOfShare_16 : decode cX6_bitsOfShare 16 = .ok (.istore 6, 2) := by decide +kernel
theorem dX6_bitsOfShare_18 : decode cX6_bitsOfShare 18 = .ok (.iload 6, 2) := by decide +kernel
theorem dX6_bitsOfShare_20 : decode cX6_bitsOfShare 20 = .ok (.sipush 1022, 3) := by decide +kernel
theorem dX6_bitsOfShare_23 : decode cX6_bitsOfShare 23 = .ok (.if_icmp .ge 27, 3) := by decide +kernel
theorem dX6_bitsOfShare_26 : decode cX6_bitsOfShare 26 = .ok (.dload_n 2, 1) := by decide +kernel
theorem dX6_bitsOfShare_27 : decode cX6_bitsOfShare 27 = .ok (.dconst 1, 1) := by decide +kernel
theorem dX6_bitsOfShare_28 : decode cX6_bitsOfShare 28 = .ok (.dcmp .g, 1) := by decide +kernel
theorem dX6_bitsOfShare_29 : decode cX6_bitsOfShare 29 = .ok (.ifCond .ge 21, 3) := by decide +kernel
theorem dX6_bitsOfShare_32 : decode cX6_bitsOfShare 32 = .ok (.dload_n 2, 1) := by decide +kernel
theorem dX6_bitsOfShare_33 : decode cX6_bitsOfShare 33 = .ok (.ldc2_w 315, 3) := by decide +kernel
theorem dX6_bitsOfShare_36 : decode cX6_bitsOfShare 36 = .ok (.dmul, 1) := by decide +kernel
theorem dX6_bitsOfShare_37 : decode cX6_bitsOfShare 37 = .ok (.dstore_n 2, 1) := by decide +kernel
theorem dX6_bitsOfShare_38 : decode cX6_bitsOfShare 38 = .ok (.lload 4, 2) := by decide +kernel
theorem dX6_bitsOfShare_40 : decode cX6_bitsOfShare 40 = .ok (.lconst 1, 1) := by decide +kernel
theorem dX6_bitsOfShare_41 : decode cX6_bitsOfShare 41 = .ok (.lsub, 1) := by decide +kernel
theorem dX6_bitsOfShare_42 : decode cX6_bitsOfShare 42 = .ok (.lstore 4, 2) := by decide +kernel
theorem dX6_bitsOfShare_44 : decode cX6_bitsOfShare 44 = .ok (.iinc 6 1, 3) := by decide +kernel
theorem dX6_bitsOfShare_47 : decode cX6_bitsOfShare 47 = .ok (.goto (-29), 3) := by decide +kernel
theorem dX6_bitsOfShare_50 : decode cX6_bitsOfShare 50 = .ok (.lload 4, 2) := by decide +kernel
theorem dX6_bitsOfShare_52 : decode cX6_bitsOfShare 52 = .ok (.bipush 52, 2) := by decide +kernel
theorem dX6_bitsOfShare_54 : decode cX6_bitsOfShare 54 = .ok (.lshl, 1) := by decide +kernel
theorem dX6_bitsOfShare_55 : decode cX6_bitsOfShare 55 = .ok (.dload_n 2, 1) := by decide +kernel
theorem dX6_bitsOfShare_56 : decode cX6_bitsOfShare 56 = .ok (.dconst 1, 1) := by decide +kernel
theorem dX6_bitsOfShare_57 : decode cX6_bitsOfShare 57 = .ok (.dsub, 1) := by decide +kernel
theorem dX6_bitsOfShare_58 : decode cX6_bitsOfShare 58 = .ok (.ldc2_w 317, 3) := by decide +kernel
theorem dX6_bitsOfShare_61 : decode cX6_bitsOfShare 61 = .ok (.dmul, 1) := by decide +kernel
theorem dX6_bitsOfShare_62 : decode cX6_bitsOfShare 62 = .ok (.d2l, 1) := by decide +kernel
theorem dX6_bitsOfShare_63 : decode cX6_bitsOfShare 63 = .ok (.ladd, 1) := by decide +kernel
theorem dX6_bitsOfShare_64 : decode cX6_bitsOfShare 64 = .ok (.lreturn, 1) := by decide +kernel
