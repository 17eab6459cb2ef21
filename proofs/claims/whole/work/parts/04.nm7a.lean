theorem dX7_init_0 : decode cX7_init 0 = .ok (.aload_n 0, 1) := by decide +kernel
theorem dX7_init_1 : decode cX7_init 1 = .ok (.invokespecial 1, 3) := by decide +kernel
theorem dX7_init_4 : decode cX7_init 4 = .ok (.aload_n 0, 1) := by decide +kernel
theorem dX7_init_5 : decode cX7_init 5 = .ok (.sipush 268, 3) := by decide +kernel
theorem dX7_init_8 : decode cX7_init 8 = .ok (.newarray .int, 2) := by decide +kernel
theorem dX7_init_10 : decode cX7_init 10 = .ok (.putfield 7, 3) := by decide +kernel
theorem dX7_init_13 : decode cX7_init 13 = .ok (.aload_n 0, 1) := by decide +kernel
theorem dX7_init_14 : decode cX7_init 14 = .ok (.sipush 1608, 3) := by decide +kernel
theorem dX7_init_17 : decode cX7_init 17 = .ok (.newarray .int, 2) := by decide +kernel
theorem dX7_init_19 : decode cX7_init 19 = .ok (.putfield 13, 3) := by decide +kernel
theorem dX7_init_22 : decode cX7_init 22 = .ok (.aload_n 0, 1) := by decide +kernel
theorem dX7_init_23 : decode cX7_init 23 = .ok (.bipush 60, 2) := by decide +kernel
theorem dX7_init_25 : decode cX7_init 25 = .ok (.newarray .int, 2) := by decide +kernel
theorem dX7_init_27 : decode cX7_init 27 = .ok (.putfield 16, 3) := by decide +kernel
theorem dX7_init_30 : decode cX7_init 30 = .ok (.aload_n 0, 1) := by decide +kernel
theorem dX7_init_31 : decode cX7_init 31 = .ok (.sipush 4096, 3) := by decide +kernel
theorem dX7_init_34 : decode cX7_init 34 = .ok (.newarray .long, 2) := by decide +kernel
theorem dX7_init_36 : decode cX7_init 36 = .ok (.putfield 19, 3) := by decide +kernel
theorem dX7_init_39 : decode cX7_init 39 = .ok (.aload_n 0, 1) := by decide +kernel
theorem dX7_init_40 : decode cX7_init 40 = .ok (.sipush 4096, 3) := by decide +kernel
theorem dX7_init_43 : decode cX7_init 43 = .ok (.newarray .int, 2) := by decide +kernel
theorem dX7_init_45 : decode cX7_init 45 = .ok (.putfield 23, 3) := by decide +kernel
theorem dX7_init_48 : decode cX7_init 48 = .ok (.aload_n 0, 1) := by decide +kernel
theorem dX7_init_49 : decode cX7_init 49 = .ok (.sipush 256, 3) := by decide +kernel
theorem dX7_init_52 : decode cX7_init 52 = .ok (.newarray .int, 2) := by decide +kernel
theorem dX7_init_54 : decode cX7_init 54 = .ok (.putfield 26, 3) := by decide +kernel
theorem dX7_init_57 : decode cX7_init 57 = .ok (.aload_n 0, 1) := by decide +kernel
theorem dX7_init_58 : decode cX7_init 58 = .ok (.iconst 4, 1) := by decide +kernel
theorem dX7_init_59 : decode cX7_init 59 = .ok (.newarray .int, 2) := by decide +kernel
theorem dX7_init_61 : decode cX7_init 61 = .ok (.putfield 29, 3) := by decide +kernel
theorem dX7_init_64 : decode cX7_init 64 = .ok (.aload_n 0, 1) := by decide +kernel
theorem dX7_init_65 : decode cX7_init 65 = .ok (.bipush 48, 2) := by decide +kernel
theorem dX7_init_67 : decode cX7_init 67 = .ok (.newarray .int, 2) := by decide +kernel
theorem dX7_init_69 : decode cX7_init 69 = .ok (.putfield 32, 3) := by decide +kernel
theorem dX7_init_72 : decode cX7_init 72 = .ok (.aload_n 0, 1) := by decide +kernel
theorem dX7_init_73 : decode cX7_init 73 = .ok (.sipush 256, 3) := by decide +kernel
theorem dX7_init_76 : decode cX7_init 76 = .ok (.newarray .int, 2) := by decide +kernel
theorem dX7_init_78 : decode cX7_init 78 = .ok (.putfield 35, 3) := by decide +kernel
theorem dX7_init_81 : decode cX7_init 81 = .ok (.aload_n 0, 1) := by decide +kernel
theorem dX7_init_82 : decode cX7_init 82 = .ok (.getfield 7, 3) := by decide +kernel
theorem dX7_init_85 : decode cX7_init 85 = .ok (.iconst 0, 1) := by decide +kernel
theorem dX7_init_86 : decode cX7_init 86 = .ok (.iconst 4, 1) := by decide +kernel
theorem dX7_init_87 : decode cX7_init 87 = .ok (.iastore, 1) := by decide +kernel
theorem dX7_init_88 : decode cX7_init 88 = .ok (.aload_n 0, 1) := by decide +kernel
theorem dX7_init_89 : decode cX7_init 89 = .ok (.getfield 7, 3) := by decide +kernel
theorem dX7_init_92 : decode cX7_init 92 = .ok (.iconst 1, 1) := by decide +kernel
theorem dX7_init_93 : decode cX7_init 93 = .ok (.bipush 15, 2) := by decide +kernel
theorem dX7_init_95 : decode cX7_init 95 = .ok (.iastore, 1) := by decide +kernel
theorem dX7_init_96 : decode cX7_init 96 = .ok (.return_, 1) := by decide +kernel
theorem dX7_thrown_0 : decode cX7_thrown 0 = .ok (.aload_n 0, 1) := by decide +kernel
theorem dX7_thrown_1 : decode cX7_thrown 1 = .ok (.getfield 38, 3) := by decide +kernel
theorem dX7_thrown_4 : decode cX7_thrown 4 = .ok (.ireturn, 1) := by decide +kernel
theorem dX7_within_0 : decode cX7_within 0 = .ok (.iload_n 0, 1) := by decide +kernel
theorem dX7_within_1 : decode cX7_within 1 = .ok (.iload_n 1, 1) := by decide +kernel
theorem dX7_within_2 : decode cX7_within 2 = .ok (.if_icmp .lt 12, 3) := by decide +kernel
theorem dX7_within_5 : decode cX7_within 5 = .ok (.iload_n 0, 1) := by decide +kernel
theorem dX7_within_6 : decode cX7_within 6 = .ok (.iload_n 2, 1) := by decide +kernel
theorem dX7_within_7 : decode cX7_within 7 = .ok (.if_icmp .gt 7, 3) := by decide +kernel
theorem dX7_within_10 : decode cX7_within 10 = .ok (.iconst 1, 1) := by decide +kernel
theorem dX7_within_11 : decode cX7_within 11 = .ok (.goto 4, 3) := by decide +kernel
theorem dX7_within_14 : decode cX7_within 14 = .ok (.iconst 0, 1) := by decide +kernel
theorem dX7_within_15 : decode cX7_within 15 = .ok (.ireturn, 1) := by decide +kernel
theorem dX7_ones_0 : decode cX7_ones 0 = .ok (.iconst 0, 1) := by decide +kernel
theorem dX7_ones_1 : decode cX7_ones 1 = .ok (.istore_n 1, 1) := by decide +kernel
theorem dX7_ones_2 : decode cX7_ones 2 = .ok (.iconst 0, 1) := by decide +kernel
theorem dX7_ones_3 : decode cX7_ones 3 = .ok (.istore_n 2, 1) := by decide +kernel
theorem dX7_ones_4 : decode cX7_ones 4 = .ok (.iload_n 2, 1) := by decide +kernel
theorem dX7_ones_5 : decode cX7_ones 5 = .ok (.bipush 6, 2) := by decide +kernel
theorem dX7_ones_7 : decode cX7_ones 7 = .ok (.if_icmp .ge 17, 3) := by decide +kernel
theorem dX7_ones_10 : decode cX7_ones 10 = .ok (.iload_n 1, 1) := by decide +kernel
theorem dX7_ones_11 : decode cX7_ones 11 = .ok (.iload_n 0, 1) := by decide +kernel
theorem dX7_ones_12 : decode cX7_ones 12 = .ok (.iload_n 2, 1) := by decide +kernel
theorem dX7_ones_13 : decode cX7_ones 13 = .ok (.ishr, 1) := by decide +kernel
theorem dX7_ones_14 : decode cX7_ones 14 = .ok (.iconst 1, 1) := by decide +kernel
theorem dX7_ones_15 : decode cX7_ones 15 = .ok (.iand, 1) := by decide +kernel
theorem dX7_ones_16 : decode cX7_ones 16 = .ok (.iadd, 1) := by decide +kernel
theorem dX7_ones_17 : decode cX7_ones 17 = .ok (.istore_n 1, 1) := by decide +kernel
theorem dX7_ones_18 : decode cX7_ones 18 = .ok (.iinc 2 1, 3) := by decide +kernel
theorem dX7_ones_21 : decode cX7_ones 21 = .ok (.goto (-17), 3) := by decide +kernel
theorem dX7_ones_24 : decode cX7_ones 24 = .ok (.iload_n 1, 1) := by decide +kernel
theorem dX7_ones_25 : decode cX7_ones 25 = .ok (.ireturn, 1) := by decide +kernel
theorem dX7_onesOf_0 : decode cX7_onesOf 0 = .ok (.iconst 0, 1) := by decide +kernel
theorem dX7_onesOf_1 : decode cX7_onesOf 1 = .ok (.istore_n 2, 1) := by decide +kernel
theorem dX7_onesOf_2 : decode cX7_onesOf 2 = .ok (.iconst 0, 1) := by decide +kernel
theorem dX7_onesOf_3 : decode cX7_onesOf 3 = .ok (.istore_n 3, 1) := by decide +kernel
theorem dX7_onesOf_4 : decode cX7_onesOf 4 = .ok (.iload_n 3, 1) := by decide +kernel
theorem dX7_onesOf_5 : decode cX7_onesOf 5 = .ok (.bipush 64, 2) := by decide +kernel
theorem dX7_onesOf_7 : decode cX7_onesOf 7 = .ok (.if_icmp .ge 18, 3) := by decide +kernel
theorem dX7_onesOf_10 : decode cX7_onesOf 10 = .ok (.iload_n 2, 1) := by decide +kernel
theorem dX7_onesOf_11 : decode cX7_onesOf 11 = .ok (.lload_n 0, 1) := by decide +kernel
theorem dX7_onesOf_12 : decode cX7_onesOf 12 = .ok (.iload_n 3, 1) := by decide +kernel
theorem dX7_onesOf_13 : decode cX7_onesOf 13 = .ok (.lushr, 1) := by decide +kernel
theorem dX7_onesOf_14 : decode cX7_onesOf 14 = .ok (.lconst 1, 1) := by decide +kernel
theorem dX7_onesOf_15 : decode cX7_onesOf 15 = .ok (.land, 1) := by decide +kernel
theorem dX7_onesOf_16 : decode cX7_onesOf 16 = .ok (.l2i, 1) := by decide +kernel
theorem dX7_onesOf_17 : decode cX7_onesOf 17 = .ok (.iadd, 1) := by decide +kernel
theorem dX7_onesOf_18 : decode cX7_onesOf 18 = .ok (.istore_n 2, 1) := by decide +kernel
theorem dX7_onesOf_19 : decode cX7_onesOf 19 = .ok (.iinc 3 1, 3) := by decide +kernel
theorem dX7_onesOf_22 : decode cX7_onesOf 22 = .ok (.goto (-18), 3) := by decide +kernel
theorem dX7_onesOf_25 : decode cX7_onesOf 25 = .ok (.iload_n 2, 1) := by decide +kernel
theorem dX7_onesOf_26 : decode cX7_onesOf 26 = .ok (.ireturn, 1) := by decide +kernel
theorem dX7_save_0 : decode cX7_save 0 = .ok (.aload_n 0, 1) := by decide +kernel
theorem dX7_save_1 : decode cX7_save 1 = .ok (.getfield 42, 3) := by decide +kernel
theorem dX7_save_4 : decode cX7_save 4 = .ok (.bipush 6, 2) := by decide +kernel
theorem dX7_save_6 : decode cX7_save 6 = .ok (.if_icmp .ne 46, 3) := by decide +kernel
theorem dX7_save_9 : decode cX7_save 9 = .ok (.sipush 268, 3) := by decide +kernel
theorem dX7_save_12 : decode cX7_save 12 = .ok (.istore_n 1, 1) := by decide +kernel
theorem dX7_save_13 : decode cX7_save 13 = .ok (.iload_n 1, 1) := by decide +kernel
theorem dX7_save_14 : decode cX7_save 14 = .ok (.sipush 1608, 3) := by decide +kernel
theorem dX7_save_17 : decode cX7_save 17 = .ok (.if_icmp .ge 25, 3) := by decide +kernel
theorem dX7_save_20 : decode cX7_save 20 = .ok (.aload_n 0, 1) := by decide +kernel
theorem dX7_save_21 : decode cX7_save 21 = .ok (.getfield 13, 3) := by decide +kernel
theorem dX7_save_24 : decode cX7_save 24 = .ok (.iload_n 1, 1) := by decide +kernel
theorem dX7_save_25 : decode cX7_save 25 = .ok (.sipush 268, 3) := by decide +kernel
theorem dX7_save_28 : decode cX7_save 28 = .ok (.isub, 1) := by decide +kernel
theorem dX7_save_29 : decode cX7_save 29 = .ok (.aload_n 0, 1) := by decide +kernel
theorem dX7_save_30 : decode cX7_save 30 = .ok (.getfield 13, 3) := by decide +kernel
theorem dX7_save_33 : decode cX7_save 33 = .ok (.iload_n 1, 1) := by decide +kernel
theorem dX7_save_34 : decode cX7_save 34 = .ok (.iaload, 1) := by decide +kernel
theorem dX7_save_35 : decode cX7_save 35 = .ok (.iastore, 1) := by decide +kernel
theorem dX7_save_36 : decode cX7_save 36 = .ok (.iinc 1 1, 3) := by decide +kernel
theorem dX7_save_39 : decode cX7_save 39 = .ok (.goto (-26), 3) := by decide +kernel
theorem dX7_save_42 : decode cX7_save 42 = .ok (.aload_n 0, 1) := by decide +kernel
theorem dX7_save_43 : decode cX7_save 43 = .ok (.dup, 1) := by decide +kernel
theorem dX7_save_44 : decode cX7_save 44 = .ok (.getfield 42, 3) := by decide +kernel
theorem dX7_save_47 : decode cX7_save 47 = .ok (.iconst 1, 1) := by decide +kernel
theorem dX7_save_48 : decode cX7_save 48 = .ok (.isub, 1) := by decide +kernel
theorem dX7_save_49 : decode cX7_save 49 = .ok (.putfield 42, 3) := by decide +kernel
theorem dX7_save_52 : decode cX7_save 52 = .ok (.iconst 0, 1) := by decide +kernel
theorem dX7_save_53 : decode cX7_save 53 = .ok (.istore_n 1, 1) := by decide +kernel
theorem dX7_save_54 : decode cX7_save 54 = .ok (.iload_n 1, 1) := by decide +kernel
theorem dX7_save_55 : decode cX7_save 55 = .ok (.sipush 268, 3) := by decide +kernel
theorem dX7_save_58 : decode cX7_save 58 = .ok (.if_icmp .ge 30, 3) := by decide +kernel
theorem dX7_save_61 : decode cX7_save 61 = .ok (.aload_n 0, 1) := by decide +kernel
theorem dX7_save_62 : decode cX7_save 62 = .ok (.getfield 13, 3) := by decide +kernel
theorem dX7_save_65 : decode cX7_save 65 = .ok (.sipush 268, 3) := by decide +kernel
theorem dX7_save_68 : decode cX7_save 68 = .ok (.aload_n 0, 1) := by decide +kernel
theorem dX7_save_69 : decode cX7_save 69 = .ok (.getfield 42, 3) := by decide +kernel
theorem dX7_save_72 : decode cX7_save 72 = .ok (.imul, 1) := by decide +kernel
theorem dX7_save_73 : decode cX7_save 73 = .ok (.iload_n 1, 1) := by decide +kernel
theorem dX7_save_74 : decode cX7_save 74 = .ok (.iadd, 1) := by decide +kernel
theorem dX7_save_75 : decode cX7_save 75 = .ok (.aload_n 0, 1) := by decide +kernel
theorem dX7_save_76 : decode cX7_save 76 = .ok (.getfield 7, 3) := by decide +kernel
theorem dX7_save_79 : decode cX7_save 79 = .ok (.iload_n 1, 1) := by decide +kernel
theorem dX7_save_80 : decode cX7_save 80 = .ok (.iaload, 1) := by decide +kernel
theorem dX7_save_81 : decode cX7_save 81 = .ok (.iastore, 1) := by decide +kernel
theorem dX7_save_82 : decode cX7_save 82 = .ok (.iinc 1 1, 3) := by decide +kernel
theorem dX7_save_85 : decode cX7_save 85 = .ok (.goto (-31), 3) := by decide +kernel
theorem dX7_save_88 : decode cX7_save 88 = .ok (.aload_n 0, 1) := by decide +kernel
theorem dX7_save_89 : decode cX7_save 89 = .ok (.dup, 1) := by decide +kernel
theorem dX7_save_90 : decode cX7_save 90 = .ok (.getfield 42, 3) := by decide +kernel
theorem dX7_save_93 : decode cX7_save 93 = .ok (.iconst 1, 1) := by decide +kernel
theorem dX7_save_94 : decode cX7_save 94 = .ok (.iadd, 1) := by decide +kernel
theorem dX7_save_95 : decode cX7_save 95 = .ok (.putfield 42, 3) := by decide +kernel
theorem dX7_save_98 : decode cX7_save 98 = .ok (.return_, 1) := by decide +kernel
theorem dX7_rows_0 : decode cX7_rows 0 = .ok (.iconst 1, 1) := by decide +kernel
theorem dX7_rows_1 : decode cX7_rows 1 = .ok (.aload_n 0, 1) := by decide +kernel
theorem dX7_rows_2 : decode cX7_rows 2 = .ok (.getfield 7, 3) := by decide +kernel
theorem dX7_rows_5 : decode cX7_rows 5 = .ok (.iconst 0, 1) := by decide +kernel
theorem dX7_rows_6 : decode cX7_rows 6 = .ok (.iaload, 1) := by decide +kernel
theorem dX7_rows_7 : decode cX7_rows 7 = .ok (.ishl, 1) := by decide +kernel
theorem dX7_rows_8 : decode cX7_rows 8 = .ok (.ireturn, 1) := by decide +kernel
set_option maxRecDepth 20000 in
theorem ggX7_isRow_X7_rows : GoodIn wsX7_isRow wsX7_rows := goodIn_r _ [5, 6, 10, 11, 12, 13, 14, 15, 16, 17, 18, 19, 20, 21, 22, 23, 24, 25] (by decide +kernel) (by decide +kernel)
set_option maxRecDepth 20000 in
theorem gX7_isRow_X7_rows : GoodIn wsX7_isRow (wsV RX7 45 RX7 yX7_rows wsX7_rows) := goodIn_app (goodIn_of _ (by decide +kernel)) ggX7_isRow_X7_rows
set_option maxRecDepth 20000 in
theorem ggX7_isRow_X7_within : GoodIn wsX7_isRow wsX7_within := goodIn_r _ [9] (by decide +kernel) (by decide +kernel)
set_option maxRecDepth 20000 in
theorem gX7_isRow_X7_within : GoodIn wsX7_isRow (va_wsS RX7 49 yX7_within wsX7_within) := goodIn_app (goodIn_of _ (by decide +kernel)) ggX7_isRow_X7_within
theorem dX7_isRow_0 : decode cX7_isRow 0 = .ok (.iload_n 1, 1) := by decide +kernel
theorem dX7_isRow_1 : decode cX7_isRow 1 = .ok (.iconst 0, 1) := by decide +kernel
theorem dX7_isRow_2 : decode cX7_isRow 2 = .ok (.aload_n 0, 1) := by decide +kernel
theorem dX7_isRow_3 : decode cX7_isRow 3 = .ok (.invokevirtual 45, 3) := by decide +kernel
theorem dX7_isRow_6 : decode cX7_isRow 6 = .ok (.iconst 1, 1) := by decide +kernel
theorem dX7_isRow_7 : decode cX7_isRow 7 = .ok (.isub, 1) := by decide +kernel
theorem dX7_isRow_8 : decode cX7_isRow 8 = .ok (.invokestatic 49, 3) := by decide +kernel
theorem dX7_isRow_11 : decode cX7_isRow 11 = .ok (.ireturn, 1) := by decide +kernel
set_option maxRecDepth 20000 in
theorem ggX7_isInput_X7_within : GoodIn wsX7_isInput wsX7_within := goodIn_r _ [5] (by decide +kernel) (by decide +kernel)
set_option maxRecDepth 20000 in
theorem gX7_isInput_X7_within : GoodIn wsX7_isInput (va_wsS RX7 49 yX7_within wsX7_within) := goodIn_app (goodIn_of _ (by decide +kernel)) ggX7_isInput_X7_within
theorem dX7_isInput_0 : decode cX7_isInput 0 = .ok (.iload_n 1, 1) := by decide +kernel
theorem dX7_isInput_1 : decode cX7_isInput 1 = .ok (.iconst 0, 1) := by decide +kernel
theorem dX7_isInput_2 : decode cX7_isInput 2 = .ok (.aload_n 0, 1) := by decide +kernel
theorem dX7_isInput_3 : decode cX7_isInput 3 = .ok (.getfield 7, 3) := by decide +kernel
theorem dX7_isInput_6 : decode cX7_isInput 6 = .ok (.iconst 0, 1) := by decide +kernel
theorem dX7_isInput_7 : decode cX7_isInput 7 = .ok (.iaload, 1) := by decide +kernel
theorem dX7_isInput_8 : decode cX7_isInput 8 = .ok (.iconst 1, 1) := by decide +kernel
theorem dX7_isInput_9 : decode cX7_isInput 9 = .ok (.isub, 1) := by decide +kernel
theorem dX7_isInput_10 : decode cX7_isInput 10 = .ok (.invokestatic 49, 3) := by decide +kernel
theorem dX7_isInput_13 : decode cX7_isInput 13 = .ok (.ireturn, 1) := by decide +kernel
set_option maxRecDepth 20000 in
theorem ggX7_isOutput_X7_within : GoodIn wsX7_isOutput wsX7_within := goodIn_r _ [4] (by decide +kernel) (by decide +kernel)
set_option maxRecDepth 20000 in
theorem gX7_isOutput_X7_within : GoodIn wsX7_isOutput (va_wsS RX7 49 yX7_within wsX7_within) := goodIn_app (goodIn_of _ (by decide +kernel)) ggX7_isOutput_X7_within
theorem dX7_isOutput_0 : decode cX7_isOutput 0 = .ok (.iload_n 0, 1) := by decide +kernel
theorem dX7_isOutput_1 : decode cX7_isOutput 1 = .ok (.iconst 0, 1) := by decide +kernel
theorem dX7_isOutput_2 : decode cX7_isOutput 2 = .ok (.iconst 3, 1) := by decide +kernel
theorem dX7_isOutput_3 : decode cX7_isOutput 3 = .ok (.invokestatic 49, 3) := by decide +kernel
theorem dX7_isOutput_6 : decode cX7_isOutput 6 = .ok (.ireturn, 1) := by decide +kernel
theorem dX7_truth_0 : decode cX7_truth 0 = .ok (.aload_n 0, 1) := by decide +kernel
theorem dX7_truth_1 : decode cX7_truth 1 = .ok (.getfield 7, 3) := by decide +kernel
theorem dX7_truth_4 : decode cX7_truth 4 = .ok (.bipush 12, 2) := by decide +kernel
theorem dX7_truth_6 : decode cX7_truth 6 = .ok (.bipush 64, 2) := by decide +kernel
theorem dX7_truth_8 : decode cX7_truth 8 = .ok (.iload_n 1, 1) := by decide +kernel
theorem dX7_truth_9 : decode cX7_truth 9 = .ok (.imul, 1) := by decide +kernel
theorem dX7_truth_10 : decode cX7_truth 10 = .ok (.iadd, 1) := by decide +kernel
theorem dX7_truth_11 : decode cX7_truth 11 = .ok (.iload_n 2, 1) := by decide +kernel
theorem dX7_truth_12 : decode cX7_truth 12 = .ok (.iadd, 1) := by decide +kernel
theorem dX7_truth_13 : decode cX7_truth 13 = .ok (.iaload, 1) := by decide +kernel
theorem dX7_truth_14 : decode cX7_truth 14 = .ok (.ireturn, 1) := by decide +kernel
theorem dX7_setTruth_0 : decode cX7_setTruth 0 = .ok (.aload_n 0, 1) := by decide +kernel
theorem dX7_setTruth_1 : decode cX7_setTruth 1 = .ok (.getfield 7, 3) := by decide +kernel
theorem dX7_setTruth_4 : decode cX7_setTruth 4 = .ok (.bipush 12, 2) := by decide +kernel
theorem dX7_setTruth_6 : decode cX7_setTruth 6 = .ok (.bipush 64, 2) := by decide +kernel
theorem dX7_setTruth_8 : decode cX7_setTruth 8 = .ok (.iload_n 1, 1) := by decide +kernel
theorem dX7_setTruth_9 : decode cX7_setTruth 9 = .ok (.imul, 1) := by decide +kernel
theorem dX7_setTruth_10 : decode cX7_setTruth 10 = .ok (.iadd, 1) := by decide +kernel
theorem dX7_setTruth_11 : decode cX7_setTruth 11 = .ok (.iload_n 2, 1) := by decide +kernel
theorem dX7_setTruth_12 : decode cX7_setTruth 12 = .ok (.iadd, 1) := by decide +kernel
theorem dX7_setTruth_13 : decode cX7_setTruth 13 = .ok (.iload_n 3, 1) := by decide +kernel
theorem dX7_setTruth_14 : decode cX7_setTruth 14 = .ok (.iastore, 1) := by decide +kernel
theorem dX7_setTruth_15 : decode cX7_setTruth 15 = .ok (.return_, 1) := by decide +kernel
set_option maxRecDepth 20000 in
theorem ggX7_decided_X7_rows : GoodIn wsX7_decided wsX7_rows := goodIn_r _ [6, 1, 11, 12, 13, 14, 15, 16, 17, 18, 19, 20, 21, 22, 23, 24, 25, 26] (by decide +kernel) (by decide +kernel)
set_option maxRecDepth 20000 in
theorem gX7_decided_X7_rows : GoodIn wsX7_decided (wsV RX7 45 RX7 yX7_rows wsX7_rows) := goodIn_app (goodIn_of _ (by decide +kernel)) ggX7_decided_X7_rows
set_option maxRecDepth 20000 in
theorem ggX7_decided_X7_truth : GoodIn wsX7_decided wsX7_truth := goodIn_r _ [10, 1, 11, 12, 13, 14, 15, 16, 17, 18, 19, 20, 21, 22, 23, 24, 25, 26] (by decide +kernel) (by decide +kernel)
set_option maxRecDepth 20000 in
theorem gX7_decided_X7_truth : GoodIn wsX7_decided (wsV RX7 53 RX7 yX7_truth wsX7_truth) := goodIn_app (goodIn_of _ (by decide +kernel)) ggX7_decided_X7_truth
theorem dX7_decided_0 : decode cX7_decided 0 = .ok (.iconst 0, 1) := by decide +kernel
theorem dX7_decided_1 : decode cX7_decided 1 = .ok (.istore_n 3, 1) := by decide +kernel
theorem dX7_decided_2 : decode cX7_decided 2 = .ok (.iconst 0, 1) := by decide +kernel
theorem dX7_decided_3 : decode cX7_decided 3 = .ok (.istore 4, 2) := by decide +kernel
theorem dX7_decided_5 : decode cX7_decided 5 = .ok (.iconst 0, 1) := by decide +kernel
theorem dX7_decided_6 : decode cX7_decided 6 = .ok (.istore 5, 2) := by decide +kernel
theorem dX7_decided_8 : decode cX7_decided 8 = .ok (.iload 5, 2) := by decide +kernel
theorem dX7_decided_10 : decode cX7_decided 10 = .ok (.aload_n 0, 1) := by decide +kernel
theorem dX7_decided_11 : decode cX7_decided 11 = .ok (.invokevirtual 45, 3) := by decide +kernel
theorem dX7_decided_14 : decode cX7_decided 14 = .ok (.if_icmp .ge 66, 3) := by decide +kernel
theorem dX7_decided_17 : decode cX7_decided 17 = .ok (.iload 5, 2) := by decide +kernel
theorem dX7_decided_19 : decode cX7_decided 19 = .ok (.iload_n 2, 1) := by decide +kernel
theorem dX7_decided_20 : decode cX7_decided 20 = .ok (.ixor, 1) := by decide +kernel
theorem dX7_decided_21 : decode cX7_decided 21 = .ok (.aload_n 0, 1) := by decide +kernel
theorem dX7_decided_22 : decode cX7_decided 22 = .ok (.getfield 7, 3) := by decide +kernel
theorem dX7_decided_25 : decode cX7_decided 25 = .ok (.iconst 1, 1) := by decide +kernel
theorem dX7_decided_26 : decode cX7_decided 26 = .ok (.iaload, 1) := by decide +kernel
theorem dX7_decided_27 : decode cX7_decided 27 = .ok (.iand, 1) := by decide +kernel
theorem dX7_decided_28 : decode cX7_decided 28 = .ok (.ifCond .ne 46, 3) := by decide +kernel
theorem dX7_decided_31 : decode cX7_decided 31 = .ok (.iload_n 3, 1) := by decide +kernel
theorem dX7_decided_32 : decode cX7_decided 32 = .ok (.ifCond .ne 13, 3) := by decide +kernel
theorem dX7_decided_35 : decode cX7_decided 35 = .ok (.aload_n 0, 1) := by decide +kernel
theorem dX7_decided_36 : decode cX7_decided 36 = .ok (.iload_n 1, 1) := by decide +kernel
theorem dX7_decided_37 : decode cX7_decided 37 = .ok (.iload 5, 2) := by decide +kernel
theorem dX7_decided_39 : decode cX7_decided 39 = .ok (.invokevirtual 53, 3) := by decide +kernel
theorem dX7_decided_42 : decode cX7_decided 42 = .ok (.ifCond .ne 7, 3) := by decide +kernel
theorem dX7_decided_45 : decode cX7_decided 45 = .ok (.iconst 1, 1) := by decide +kernel
theorem dX7_decided_46 : decode cX7_decided 46 = .ok (.goto 4, 3) := by decide +kernel
theorem dX7_decided_49 : decode cX7_decided 49 = .ok (.iconst 0, 1) := by decide +kernel
theorem dX7_decided_50 : decode cX7_decided 50 = .ok (.istore_n 3, 1) := by decide +kernel
theorem dX7_decided_51 : decode cX7_decided 51 = .ok (.iload 4, 2) := by decide +kernel
theorem dX7_decided_53 : decode cX7_decided 53 = .ok (.ifCond .ne 14, 3) := by decide +kernel
theorem dX7_decided_56 : decode cX7_decided 56 = .ok (.aload_n 0, 1) := by decide +kernel
theorem dX7_decided_57 : decode cX7_decided 57 = .ok (.iload_n 1, 1) := by decide +kernel
theorem dX7_decided_58 : decode cX7_decided 58 = .ok (.iload 5, 2) := by decide +kernel
theorem dX7_decided_60 : decode cX7_decided 60 = .ok (.invokevirtual 53, 3) := by decide +kernel
theorem dX7_decided_63 : decode cX7_decided 63 = .ok (.iconst 1, 1) := by decide +kernel
theorem dX7_decided_64 : decode cX7_decided 64 = .ok (.if_icmp .ne 7, 3) := by decide +kernel
theorem dX7_decided_67 : decode cX7_decided 67 = .ok (.iconst 1, 1) := by decide +kernel
theorem dX7_decided_68 : decode cX7_decided 68 = .ok (.goto 4, 3) := by decide +kernel
theorem dX7_decided_71 : decode cX7_decided 71 = .ok (.iconst 0, 1) := by decide +kernel
theorem dX7_decided_72 : decode cX7_decided 72 = .ok (.istore 4, 2) := by decide +kernel
theorem dX7_decided_74 : decode cX7_decided 74 = .ok (.iinc 5 1, 3) := by decide +kernel
theorem dX7_decided_77 : decode cX7_decided 77 = .ok (.goto (-69), 3) := by decide +kernel
theorem dX7_decided_80 : decode cX7_decided 80 = .ok (.iload_n 3, 1) := by decide +kernel
theorem dX7_decided_81 : decode cX7_decided 81 = .ok (.ifCond .eq 16, 3) := by decide +kernel
theorem dX7_decided_84 : decode cX7_decided 84 = .ok (.iload 4, 2) := by decide +kernel
theorem dX7_decided_86 : decode cX7_decided 86 = .ok (.ifCond .eq 7, 3) := by decide +kernel
theorem dX7_decided_89 : decode cX7_decided 89 = .ok (.iconst 3, 1) := by decide +kernel
theorem dX7_decided_90 : decode cX7_decided 90 = .ok (.goto 17, 3) := by decide +kernel
theorem dX7_decided_93 : decode cX7_decided 93 = .ok (.iconst 0, 1) := by decide +kernel
theorem dX7_decided_94 : decode cX7_decided 94 = .ok (.goto 13, 3) := by decide +kernel
theorem dX7_decided_97 : decode cX7_decided 97 = .ok (.iload 4, 2) := by decide +kernel
theorem dX7_decided_99 : decode cX7_decided 99 = .ok (.ifCond .eq 7, 3) := by decide +kernel
theorem dX7_decided_102 : decode cX7_decided 102 = .ok (.iconst 1, 1) := by decide +kernel
theorem dX7_decided_103 : decode cX7_decided 103 = .ok (.goto 4, 3) := by decide +kernel
theorem dX7_decided_106 : decode cX7_decided 106 = .ok (.iconst 2, 1) := by decide +kernel
theorem dX7_decided_107 : decode cX7_decided 107 = .ok (.ireturn, 1) := by decide +kernel
set_option maxRecDepth 20000 in
theorem ggX7_decidedRows_X7_rows : GoodIn wsX7_decidedRows wsX7_rows := goodIn_r _ [5, 6, 15, 16, 17, 18, 19, 20, 21, 22, 23, 24, 25, 26, 27, 28, 29, 30] (by decide +kernel) (by decide +kernel)
set_option maxRecDepth 20000 in
theorem gX7_decidedRows_X7_rows : GoodIn wsX7_decidedRows (wsV RX7 45 RX7 yX7_rows wsX7_rows) := goodIn_app (goodIn_of _ (by decide +kernel)) ggX7_decidedRows_X7_rows
set_option maxRecDepth 20000 in
theorem ggX7_decidedRows_X7_decided : GoodIn wsX7_decidedRows wsX7_decided := goodIn_r _ [10, 6, 1, 2, 3, 4, 5, 11, 12, 13, 14, 15, 16, 17, 18, 19, 20, 21, 22, 23, 24, 25, 26, 27, 28, 29, 30] (by decide +kernel) (by decide +kernel)
set_option maxRecDepth 20000 in
theorem gX7_decidedRows_X7_decided : GoodIn wsX7_decidedRows (wsV RX7 57 RX7 yX7_decided wsX7_decided) := goodIn_app (goodIn_of _ (by decide +kernel)) ggX7_decidedRows_X7_decided
theorem dX7_decidedRows_0 : decode cX7_decidedRows 0 = .ok (.iconst 0, 1) := by decide +kernel
theorem dX7_decidedRows_1 : decode cX7_decidedRows 1 = .ok (.istore_n 3, 1) := by decide +kernel
theorem dX7_decidedRows_2 : decode cX7_decidedRows 2 = .ok (.iconst 0, 1) := by decide +kernel
theorem dX7_decidedRows_3 : decode cX7_decidedRows 3 = .ok (.istore 4, 2) := by decide +kernel
theorem dX7_decidedRows_5 : decode cX7_decidedRows 5 = .ok (.iload 4, 2) := by decide +kernel
theorem dX7_decidedRows_7 : decode cX7_decidedRows 7 = .ok (.aload_n 0, 1) := by decide +kernel
theorem dX7_decidedRows_8 : decode cX7_decidedRows 8 = .ok (.invokevirtual 45, 3) := by decide +kernel
theorem dX7_decidedRows_11 : decode cX7_decidedRows 11 = .ok (.if_icmp .ge 28, 3) := by decide +kernel
theorem dX7_decidedRows_14 : decode cX7_decidedRows 14 = .ok (.iload_n 3, 1) := by decide +kernel
theorem dX7_decidedRows_15 : decode cX7_decidedRows 15 = .ok (.aload_n 0, 1) := by decide +kernel
theorem dX7_decidedRows_16 : decode cX7_decidedRows 16 = .ok (.iload_n 1, 1) := by decide +kernel
theorem dX7_decidedRows_17 : decode cX7_decidedRows 17 = .ok (.iload 4, 2) := by decide +kernel
theorem dX7_decidedRows_19 : decode cX7_decidedRows 19 = .ok (.invokevirtual 57, 3) := by decide +kernel
theorem dX7_decidedRows_22 : decode cX7_decidedRows 22 = .ok (.iload_n 2, 1) := by decide +kernel
theorem dX7_decidedRows_23 : decode cX7_decidedRows 23 = .ok (.if_icmp .ne 7, 3) := by decide +kernel
theorem dX7_decidedRows_26 : decode cX7_decidedRows 26 = .ok (.iconst 1, 1) := by decide +kernel
theorem dX7_decidedRows_27 : decode cX7_decidedRows 27 = .ok (.goto 4, 3) := by decide +kernel
theorem dX7_decidedRows_30 : decode cX7_decidedRows 30 = .ok (.iconst 0, 1) := by decide +kernel
theorem dX7_decidedRows_31 : decode cX7_decidedRows 31 = .ok (.iadd, 1) := by decide +kernel
theorem dX7_decidedRows_32 : decode cX7_decidedRows 32 = .ok (.istore_n 3, 1) := by decide +kernel
theorem dX7_decidedRows_33 : decode cX7_decidedRows 33 = .ok (.iinc 4 1, 3) := by decide +kernel
theorem dX7_decidedRows_36 : decode cX7_decidedRows 36 = .ok (.goto (-31), 3) := by decide +kernel
theorem dX7_decidedRows_39 : decode cX7_decidedRows 39 = .ok (.iload_n 3, 1) := by decide +kernel
theorem dX7_decidedRows_40 : decode cX7_decidedRows 40 = .ok (.ireturn, 1) := by decide +kernel
set_option maxRecDepth 20000 in
theorem ggX7_undecided_X7_decidedRows : GoodIn wsX7_undecided wsX7_decidedRows := goodIn_r _ [5, 6, 7, 8, 4, 9, 10, 11, 12, 13, 14, 15, 16, 17, 18, 19, 20, 21, 22, 23, 24, 25, 26, 27, 28, 29, 30, 31, 32, 33, 34] (by decide +kernel) (by decide +kernel)
set_option maxRecDepth 20000 in
theorem gX7_undecided_X7_decidedRows : GoodIn wsX7_undecided (wsV RX7 60 RX7 yX7_decidedRows wsX7_decidedRows) := goodIn_app (goodIn_of _ (by decide +kernel)) ggX7_undecided_X7_decidedRows
theorem dX7_undecided_0 : decode cX7_undecided 0 = .ok (.iconst 0, 1) := by decide +kernel
theorem dX7_undecided_1 : decode cX7_undecided 1 = .ok (.istore_n 1, 1) := by decide +kernel
theorem dX7_undecided_2 : decode cX7_undecided 2 = .ok (.iconst 0, 1) := by decide +kernel
theorem dX7_undecided_3 : decode cX7_undecided 3 = .ok (.istore_n 2, 1) := by decide +kernel
theorem dX7_undecided_4 : decode cX7_undecided 4 = .ok (.iload_n 2, 1) := by decide +kernel
theorem dX7_undecided_5 : decode cX7_undecided 5 = .ok (.iconst 4, 1) := by decide +kernel
theorem dX7_undecided_6 : decode cX7_undecided 6 = .ok (.if_icmp .ge 18, 3) := by decide +kernel
theorem dX7_undecided_9 : decode cX7_undecided 9 = .ok (.iload_n 1, 1) := by decide +kernel
theorem dX7_undecided_10 : decode cX7_undecided 10 = .ok (.aload_n 0, 1) := by decide +kernel
theorem dX7_undecided_11 : decode cX7_undecided 11 = .ok (.iload_n 2, 1) := by decide +kernel
theorem dX7_undecided_12 : decode cX7_undecided 12 = .ok (.iconst 3, 1) := by decide +kernel
theorem dX7_undecided_13 : decode cX7_undecided 13 = .ok (.invokevirtual 60, 3) := by decide +kernel
theorem dX7_undecided_16 : decode cX7_undecided 16 = .ok (.iadd, 1) := by decide +kernel
theorem dX7_undecided_17 : decode cX7_undecided 17 = .ok (.istore_n 1, 1) := by decide +kernel
theorem dX7_undecided_18 : decode cX7_undecided 18 = .ok (.iinc 2 1, 3) := by decide +kernel
theorem dX7_undecided_21 : decode cX7_undecided 21 = .ok (.goto (-17), 3) := by decide +kernel
theorem dX7_undecided_24 : decode cX7_undecided 24 = .ok (.iload_n 1, 1) := by decide +kernel
theorem dX7_undecided_25 : decode cX7_undecided 25 = .ok (.ireturn, 1) := by decide +kernel
set_option maxRecDepth 20000 in
theorem ggX7_rowsOf_X7_rows : GoodIn wsX7_rowsOf wsX7_rows := goodIn_r _ [5, 6, 7, 8, 9, 10, 11, 12, 13, 14, 15, 16, 17, 18, 19, 20, 21, 22] (by decide +kernel) (by decide +kernel)
set_option maxRecDepth 20000 in
theorem gX7_rowsOf_X7_rows : GoodIn wsX7_rowsOf (wsV RX7 45 RX7 yX7_rows wsX7_rows) := goodIn_app (goodIn_of _ (by decide +kernel)) ggX7_rowsOf_X7_rows
theorem dX7_rowsOf_0 : decode cX7_rowsOf 0 = .ok (.iload_n 1, 1) := by decide +kernel
theorem dX7_rowsOf_1 : decode cX7_rowsOf 1 = .ok (.bipush 64, 2) := by decide +kernel
theorem dX7_rowsOf_3 : decode cX7_rowsOf 3 = .ok (.idiv, 1) := by decide +kernel
theorem dX7_rowsOf_4 : decode cX7_rowsOf 4 = .ok (.istore_n 2, 1) := by decide +kernel
theorem dX7_rowsOf_5 : decode cX7_rowsOf 5 = .ok (.iload_n 1, 1) := by decide +kernel
theorem dX7_rowsOf_6 : decode cX7_rowsOf 6 = .ok (.bipush 64, 2) := by decide +kernel
theorem dX7_rowsOf_8 : decode cX7_rowsOf 8 = .ok (.irem, 1) := by decide +kernel
theorem dX7_rowsOf_9 : decode cX7_rowsOf 9 = .ok (.istore_n 3, 1) := by decide +kernel
theorem dX7_rowsOf_10 : decode cX7_rowsOf 10 = .ok (.lconst 0, 1) := by decide +kernel
theorem dX7_rowsOf_11 : decode cX7_rowsOf 11 = .ok (.lstore 4, 2) := by decide +kernel
theorem dX7_rowsOf_13 : decode cX7_rowsOf 13 = .ok (.iconst 0, 1) := by decide +kernel
theorem dX7_rowsOf_14 : decode cX7_rowsOf 14 = .ok (.istore 6, 2) := by decide +kernel
theorem dX7_rowsOf_16 : decode cX7_rowsOf 16 = .ok (.iload 6, 2) := by decide +kernel
theorem dX7_rowsOf_18 : decode cX7_rowsOf 18 = .ok (.aload_n 0, 1) := by decide +kernel
theorem dX7_rowsOf_19 : decode cX7_rowsOf 19 = .ok (.invokevirtual 45, 3) := by decide +kernel
theorem dX7_rowsOf_22 : decode cX7_rowsOf 22 = .ok (.if_icmp .ge 30, 3) := by decide +kernel
theorem dX7_rowsOf_25 : decode cX7_rowsOf 25 = .ok (.lload 4, 2) := by decide +kernel
theorem dX7_rowsOf_27 : decode cX7_rowsOf 27 = .ok (.iload 6, 2) := by decide +kernel
theorem dX7_rowsOf_29 : decode cX7_rowsOf 29 = .ok (.iload_n 2, 1) := by decide +kernel
theorem dX7_rowsOf_30 : decode cX7_rowsOf 30 = .ok (.iand, 1) := by decide +kernel
theorem dX7_rowsOf_31 : decode cX7_rowsOf 31 = .ok (.iload_n 3, 1) := by decide +kernel
theorem dX7_rowsOf_32 : decode cX7_rowsOf 32 = .ok (.if_icmp .ne 10, 3) := by decide +kernel
theorem dX7_rowsOf_35 : decode cX7_rowsOf 35 = .ok (.lconst 1, 1) := by decide +kernel
theorem dX7_rowsOf_36 : decode cX7_rowsOf 36 = .ok (.iload 6, 2) := by decide +kernel
theorem dX7_rowsOf_38 : decode cX7_rowsOf 38 = .ok (.lshl, 1) := by decide +kernel
theorem dX7_rowsOf_39 : decode cX7_rowsOf 39 = .ok (.goto 4, 3) := by decide +kernel
theorem dX7_rowsOf_42 : decode cX7_rowsOf 42 = .ok (.lconst 0, 1) := by decide +kernel
theorem dX7_rowsOf_43 : decode cX7_rowsOf 43 = .ok (.lor, 1) := by decide +kernel
theorem dX7_rowsOf_44 : decode cX7_rowsOf 44 = .ok (.lstore 4, 2) := by decide +kernel
theorem dX7_rowsOf_46 : decode cX7_rowsOf 46 = .ok (.iinc 6 1, 3) := by decide +kernel
theorem dX7_rowsOf_49 : decode cX7_rowsOf 49 = .ok (.goto (-33), 3) := by decide +kernel
theorem dX7_rowsOf_52 : decode cX7_rowsOf 52 = .ok (.lload 4, 2) := by decide +kernel
theorem dX7_rowsOf_54 : decode cX7_rowsOf 54 = .ok (.lreturn, 1) := by decide +kernel
theorem dX7_isProduct_0 : decode cX7_isProduct 0 = .ok (.iload_n 1, 1) := by decide +kernel
theorem dX7_isProduct_1 : decode cX7_isProduct 1 = .ok (.bipush 64, 2) := by decide +kernel
theorem dX7_isProduct_3 : decode cX7_isProduct 3 = .ok (.idiv, 1) := by decide +kernel
theorem dX7_isProduct_4 : decode cX7_isProduct 4 = .ok (.istore_n 2, 1) := by decide +kernel
theorem dX7_isProduct_5 : decode cX7_isProduct 5 = .ok (.iload_n 2, 1) := by decide +kernel
theorem dX7_isProduct_6 : decode cX7_isProduct 6 = .ok (.aload_n 0, 1) := by decide +kernel
theorem dX7_isProduct_7 : decode cX7_isProduct 7 = .ok (.getfield 7, 3) := by decide +kernel
theorem dX7_isProduct_10 : decode cX7_isProduct 10 = .ok (.iconst 1, 1) := by decide +kernel
theorem dX7_isProduct_11 : decode cX7_isProduct 11 = .ok (.iaload, 1) := by decide +kernel
theorem dX7_isProduct_12 : decode cX7_isProduct 12 = .ok (.iconst (-1), 1) := by decide +kernel
theorem dX7_isProduct_13 : decode cX7_isProduct 13 = .ok (.ixor, 1) := by decide +kernel
theorem dX7_isProduct_14 : decode cX7_isProduct 14 = .ok (.iand, 1) := by decide +kernel
theorem dX7_isProduct_15 : decode cX7_isProduct 15 = .ok (.ifCond .ne 18, 3) := by decide +kernel
theorem dX7_isProduct_18 : decode cX7_isProduct 18 = .ok (.iload_n 1, 1) := by decide +kernel
theorem dX7_isProduct_19 : decode cX7_isProduct 19 = .ok (.bipush 64, 2) := by decide +kernel
theorem dX7_isProduct_21 : decode cX7_isProduct 21 = .ok (.irem, 1) := by decide +kernel
theorem dX7_isProduct_22 : decode cX7_isProduct 22 = .ok (.iload_n 2, 1) := by decide +kernel
theorem dX7_isProduct_23 : decode cX7_isProduct 23 = .ok (.iconst (-1), 1) := by decide +kernel
theorem dX7_isProduct_24 : decode cX7_isProduct 24 = .ok (.ixor, 1) := by decide +kernel
theorem dX7_isProduct_25 : decode cX7_isProduct 25 = .ok (.iand, 1) := by decide +kernel
theorem dX7_isProduct_26 : decode cX7_isProduct 26 = .ok (.ifCond .ne 7, 3) := by decide +kernel
theorem dX7_isProduct_29 : decode cX7_isProduct 29 = .ok (.iconst 1, 1) := by decide +kernel
theorem dX7_isProduct_30 : decode cX7_isProduct 30 = .ok (.goto 4, 3) := by decide +kernel
theorem dX7_isProduct_33 : decode cX7_isProduct 33 = .ok (.iconst 0, 1) := by decide +kernel
theorem dX7_isProduct_34 : decode cX7_isProduct 34 = .ok (.ireturn, 1) := by decide +kernel
set_option maxRecDepth 20000 in
theorem ggX7_layGood_X7_rows : GoodIn wsX7_layGood wsX7_rows := goodIn_r _ [6, 7, 24, 25, 26, 27, 28, 29, 30, 31, 32, 33, 34, 35, 36, 37, 38, 39] (by decide +kernel) (by decide +kernel)
set_option maxRecDepth 20000 in
theorem gX7_layGood_X7_rows : GoodIn wsX7_layGood (wsV RX7 45 RX7 yX7_rows wsX7_rows) := goodIn_app (goodIn_of _ (by decide +kernel)) ggX7_layGood_X7_rows
set_option maxRecDepth 20000 in
theorem ggX7_layGood_X7_decided : GoodIn wsX7_layGood wsX7_decided := goodIn_r _ [11, 7, 2, 3, 4, 5, 6, 12, 13, 14, 15, 24, 25, 26, 27, 28, 29, 30, 31, 32, 33, 34, 35, 36, 37, 38, 39] (by decide +kernel) (by decide +kernel)
set_option maxRecDepth 20000 in
theorem gX7_layGood_X7_decided : GoodIn wsX7_layGood (wsV RX7 57 RX7 yX7_decided wsX7_decided) := goodIn_app (goodIn_of _ (by decide +kernel)) ggX7_layGood_X7_decided
set_option maxRecDepth 20000 in
theorem ggX7_layGood_X7_isProduct : GoodIn wsX7_layGood wsX7_isProduct := goodIn_r _ [19, 7, 24, 25, 26, 27, 28, 29, 30, 31, 32, 33, 34, 35, 36, 37, 38, 39] (by decide +kernel) (by decide +kernel)
set_option maxRecDepth 20000 in
theorem gX7_layGood_X7_isProduct : GoodIn wsX7_layGood (wsV RX7 63 RX7 yX7_isProduct wsX7_isProduct) := goodIn_app (goodIn_of _ (by decide +kernel)) ggX7_layGood_X7_isProduct
set_option maxRecDepth 20000 in
theorem ggX7_layGood_X7_rowsOf : GoodIn wsX7_layGood wsX7_rowsOf := goodIn_r _ [23, 2, 3, 4, 5, 6, 7, 24, 25, 26, 27, 28, 29, 30, 31, 32, 33, 34, 35, 36, 37, 38, 39] (by decide +kernel) (by decide +kernel)
set_option maxRecDepth 20000 in
theorem gX7_layGood_X7_rowsOf : GoodIn wsX7_layGood (wsV RX7 67 RX7 yX7_rowsOf wsX7_rowsOf) := goodIn_app (goodIn_of _ (by decide +kernel)) ggX7_layGood_X7_rowsOf
theorem dX7_layGood_0 : decode cX7_layGood 0 = .ok (.lconst 0, 1) := by decide +kernel
theorem dX7_layGood_1 : decode cX7_layGood 1 = .ok (.lstore_n 2, 1) := by decide +kernel
theorem dX7_layGood_2 : decode cX7_layGood 2 = .ok (.iconst 0, 1) := by decide +kernel
theorem dX7_layGood_3 : decode cX7_layGood 3 = .ok (.istore 4, 2) := by decide +kernel
theorem dX7_layGood_5 : decode cX7_layGood 5 = .ok (.iload 4, 2) := by decide +kernel
theorem dX7_layGood_7 : decode cX7_layGood 7 = .ok (.aload_n 0, 1) := by decide +kernel
theorem dX7_layGood_8 : decode cX7_layGood 8 = .ok (.invokevirtual 45, 3) := by decide +kernel
theorem dX7_layGood_11 : decode cX7_layGood 11 = .ok (.if_icmp .ge 30, 3) := by decide +kernel
theorem dX7_layGood_14 : decode cX7_layGood 14 = .ok (.lload_n 2, 1) := by decide +kernel
theorem dX7_layGood_15 : decode cX7_layGood 15 = .ok (.aload_n 0, 1) := by decide +kernel
theorem dX7_layGood_16 : decode cX7_layGood 16 = .ok (.iload_n 1, 1) := by decide +kernel
theorem dX7_layGood_17 : decode cX7_layGood 17 = .ok (.iload 4, 2) := by decide +kernel
theorem dX7_layGood_19 : decode cX7_layGood 19 = .ok (.invokevirtual 57, 3) := by decide +kernel
theorem dX7_layGood_22 : decode cX7_layGood 22 = .ok (.ifCond .ne 10, 3) := by decide +kernel
theorem dX7_layGood_25 : decode cX7_layGood 25 = .ok (.lconst 1, 1) := by decide +kernel
theorem dX7_layGood_26 : decode cX7_layGood 26 = .ok (.iload 4, 2) := by decide +kernel
theorem dX7_layGood_28 : decode cX7_layGood 28 = .ok (.lshl, 1) := by decide +kernel
theorem dX7_layGood_29 : decode cX7_layGood 29 = .ok (.goto 4, 3) := by decide +kernel
theorem dX7_layGood_32 : decode cX7_layGood 32 = .ok (.lconst 0, 1) := by decide +kernel
theorem dX7_layGood_33 : decode cX7_layGood 33 = .ok (.lor, 1) := by decide +kernel
theorem dX7_layGood_34 : decode cX7_layGood 34 = .ok (.lstore_n 2, 1) := by decide +kernel
theorem dX7_layGood_35 : decode cX7_layGood 35 = .ok (.iinc 4 1, 3) := by decide +kernel
theorem dX7_layGood_38 : decode cX7_layGood 38 = .ok (.goto (-33), 3) := by decide +kernel
theorem dX7_layGood_41 : decode cX7_layGood 41 = .ok (.iconst 0, 1) := by decide +kernel
theorem dX7_layGood_42 : decode cX7_layGood 42 = .ok (.istore 4, 2) := by decide +kernel
theorem dX7_layGood_44 : decode cX7_layGood 44 = .ok (.iload 4, 2) := by decide +kernel
theorem dX7_layGood_46 : decode cX7_layGood 46 = .ok (.sipush 4096, 3) := by decide +kernel
theorem dX7_layGood_49 : decode cX7_layGood 49 = .ok (.if_icmp .ge 52, 3) := by decide +kernel
theorem dX7_layGood_52 : decode cX7_layGood 52 = .ok (.aload_n 0, 1) := by decide +kernel
theorem dX7_layGood_53 : decode cX7_layGood 53 = .ok (.iload 4, 2) := by decide +kernel
theorem dX7_layGood_55 : decode cX7_layGood 55 = .ok (.invokevirtual 63, 3) := by decide +kernel
theorem dX7_layGood_58 : decode cX7_layGood 58 = .ok (.ifCond .eq 12, 3) := by decide +kernel
theorem dX7_layGood_61 : decode cX7_layGood 61 = .ok (.aload_n 0, 1) := by decide +kernel
theorem dX7_layGood_62 : decode cX7_layGood 62 = .ok (.iload 4, 2) := by decide +kernel
theorem dX7_layGood_64 : decode cX7_layGood 64 = .ok (.invokevirtual 67, 3) := by decide +kernel
theorem dX7_layGood_67 : decode cX7_layGood 67 = .ok (.goto 4, 3) := by decide +kernel
theorem dX7_layGood_70 : decode cX7_layGood 70 = .ok (.lconst 0, 1) := by decide +kernel
theorem dX7_layGood_71 : decode cX7_layGood 71 = .ok (.lstore 5, 2) := by decide +kernel
theorem dX7_layGood_73 : decode cX7_layGood 73 = .ok (.aload_n 0, 1) := by decide +kernel
theorem dX7_layGood_74 : decode cX7_layGood 74 = .ok (.getfield 19, 3) := by decide +kernel
theorem dX7_layGood_77 : decode cX7_layGood 77 = .ok (.iload 4, 2) := by decide +kernel
theorem dX7_layGood_79 : decode cX7_layGood 79 = .ok (.lload 5, 2) := by decide +kernel
theorem dX7_layGood_81 : decode cX7_layGood 81 = .ok (.lload_n 2, 1) := by decide +kernel
theorem dX7_layGood_82 : decode cX7_layGood 82 = .ok (.land, 1) := by decide +kernel
theorem dX7_layGood_83 : decode cX7_layGood 83 = .ok (.lconst 0, 1) := by decide +kernel
theorem dX7_layGood_84 : decode cX7_layGood 84 = .ok (.lcmp, 1) := by decide +kernel
theorem dX7_layGood_85 : decode cX7_layGood 85 = .ok (.ifCond .ne 8, 3) := by decide +kernel
theorem dX7_layGood_88 : decode cX7_layGood 88 = .ok (.lload 5, 2) := by decide +kernel
theorem dX7_layGood_90 : decode cX7_layGood 90 = .ok (.goto 4, 3) := by decide +kernel
theorem dX7_layGood_93 : decode cX7_layGood 93 = .ok (.lconst 0, 1) := by decide +kernel
theorem dX7_layGood_94 : decode cX7_layGood 94 = .ok (.lastore, 1) := by decide +kernel
theorem dX7_layGood_95 : decode cX7_layGood 95 = .ok (.iinc 4 1, 3) := by decide +kernel
theorem dX7_layGood_98 : decode cX7_layGood 98 = .ok (.goto (-54), 3) := by decide +kernel
theorem dX7_layGood_101 : decode cX7_layGood 101 = .ok (.return_, 1) := by decide +kernel
theorem dX7_isPrime_0 : decode cX7_isPrime 0 = .ok (.aload_n 0, 1) := by decide +kernel
theorem dX7_isPrime_1 : decode cX7_isPrime 1 = .ok (.getfield 19, 3) := by decide +kernel
theorem dX7_isPrime_4 : decode cX7_isPrime 4 = .ok (.iload_n 1, 1) := by decide +kernel
theorem dX7_isPrime_5 : decode cX7_isPrime 5 = .ok (.laload, 1) := by decide +kernel
theorem dX7_isPrime_6 : decode cX7_isPrime 6 = .ok (.lconst 0, 1) := by decide +kernel
theorem dX7_isPrime_7 : decode cX7_isPrime 7 = .ok (.lcmp, 1) := by decide +kernel
theorem dX7_isPrime_8 : decode cX7_isPrime 8 = .ok (.ifCond .eq 7, 3) := by decide +kernel
theorem dX7_isPrime_11 : decode cX7_isPrime 11 = .ok (.iconst 1, 1) := by decide +kernel
theorem dX7_isPrime_12 : decode cX7_isPrime 12 = .ok (.goto 4, 3) := by decide +kernel
theorem dX7_isPrime_15 : decode cX7_isPrime 15 = .ok (.iconst 0, 1) := by decide +kernel
theorem dX7_isPrime_16 : decode cX7_isPrime 16 = .ok (.istore_n 2, 1) := by decide +kernel
theorem dX7_isPrime_17 : decode cX7_isPrime 17 = .ok (.iconst 0, 1) := by decide +kernel
theorem dX7_isPrime_18 : decode cX7_isPrime 18 = .ok (.istore_n 3, 1) := by decide +kernel
theorem dX7_isPrime_19 : decode cX7_isPrime 19 = .ok (.iload_n 3, 1) := by decide +kernel
theorem dX7_isPrime_20 : decode cX7_isPrime 20 = .ok (.bipush 6, 2) := by decide +kernel
theorem dX7_isPrime_22 : decode cX7_isPrime 22 = .ok (.if_icmp .ge 68, 3) := by decide +kernel
theorem dX7_isPrime_25 : decode cX7_isPrime 25 = .ok (.iload_n 2, 1) := by decide +kernel
theorem dX7_isPrime_26 : decode cX7_isPrime 26 = .ok (.ifCond .eq 64, 3) := by decide +kernel
theorem dX7_isPrime_29 : decode cX7_isPrime 29 = .ok (.iconst 1, 1) := by decide +kernel
theorem dX7_isPrime_30 : decode cX7_isPrime 30 = .ok (.iload_n 3, 1) := by decide +kernel
theorem dX7_isPrime_31 : decode cX7_isPrime 31 = .ok (.ishl, 1) := by decide +kernel
theorem dX7_isPrime_32 : decode cX7_isPrime 32 = .ok (.istore 4, 2) := by decide +kernel
theorem dX7_isPrime_34 : decode cX7_isPrime 34 = .ok (.iload_n 1, 1) := by decide +kernel
theorem dX7_isPrime_35 : decode cX7_isPrime 35 = .ok (.bipush 64, 2) := by decide +kernel
theorem dX7_isPrime_37 : decode cX7_isPrime 37 = .ok (.idiv, 1) := by decide +kernel
theorem dX7_isPrime_38 : decode cX7_isPrime 38 = .ok (.iload 4, 2) := by decide +kernel
theorem dX7_isPrime_40 : decode cX7_isPrime 40 = .ok (.iand, 1) := by decide +kernel
theorem dX7_isPrime_41 : decode cX7_isPrime 41 = .ok (.ifCond .eq 7, 3) := by decide +kernel
theorem dX7_isPrime_44 : decode cX7_isPrime 44 = .ok (.iconst 1, 1) := by decide +kernel
theorem dX7_isPrime_45 : decode cX7_isPrime 45 = .ok (.goto 4, 3) := by decide +kernel
theorem dX7_isPrime_48 : decode cX7_isPrime 48 = .ok (.iconst 0, 1) := by decide +kernel
theorem dX7_isPrime_49 : decode cX7_isPrime 49 = .ok (.istore 5, 2) := by decide +kernel
theorem dX7_isPrime_51 : decode cX7_isPrime 51 = .ok (.iload 5, 2) := by decide +kernel
theorem dX7_isPrime_53 : decode cX7_isPrime 53 = .ok (.ifCond .eq 25, 3) := by decide +kernel
theorem dX7_isPrime_56 : decode cX7_isPrime 56 = .ok (.aload_n 0, 1) := by decide +kernel
theorem dX7_isPrime_57 : decode cX7_isPrime 57 = .ok (.getfield 19, 3) := by decide +kernel
theorem dX7_isPrime_60 : decode cX7_isPrime 60 = .ok (.iload_n 1, 1) := by decide +kernel
theorem dX7_isPrime_61 : decode cX7_isPrime 61 = .ok (.bipush 64, 2) := by decide +kernel
theorem dX7_isPrime_63 : decode cX7_isPrime 63 = .ok (.iload 4, 2) := by decide +kernel
theorem dX7_isPrime_65 : decode cX7_isPrime 65 = .ok (.imul, 1) := by decide +kernel
theorem dX7_isPrime_66 : decode cX7_isPrime 66 = .ok (.isub, 1) := by decide +kernel
theorem dX7_isPrime_67 : decode cX7_isPrime 67 = .ok (.iload_n 1, 1) := by decide +kernel
theorem dX7_isPrime_68 : decode cX7_isPrime 68 = .ok (.iload 4, 2) := by decide +kernel
theorem dX7_isPrime_70 : decode cX7_isPrime 70 = .ok (.iand, 1) := by decide +kernel
theorem dX7_isPrime_71 : decode cX7_isPrime 71 = .ok (.isub, 1) := by decide +kernel
theorem dX7_isPrime_72 : decode cX7_isPrime 72 = .ok (.laload, 1) := by decide +kernel
theorem dX7_isPrime_73 : decode cX7_isPrime 73 = .ok (.lconst 0, 1) := by decide +kernel
theorem dX7_isPrime_74 : decode cX7_isPrime 74 = .ok (.lcmp, 1) := by decide +kernel
theorem dX7_isPrime_75 : decode cX7_isPrime 75 = .ok (.ifCond .ne 7, 3) := by decide +kernel
theorem dX7_isPrime_78 : decode cX7_isPrime 78 = .ok (.iconst 1, 1) := by decide +kernel
theorem dX7_isPrime_79 : decode cX7_isPrime 79 = .ok (.goto 4, 3) := by decide +kernel
theorem dX7_isPrime_82 : decode cX7_isPrime 82 = .ok (.iconst 0, 1) := by decide +kernel
theorem dX7_isPrime_83 : decode cX7_isPrime 83 = .ok (.istore_n 2, 1) := by decide +kernel
theorem dX7_isPrime_84 : decode cX7_isPrime 84 = .ok (.iinc 3 1, 3) := by decide +kernel
theorem dX7_isPrime_87 : decode cX7_isPrime 87 = .ok (.goto (-68), 3) := by decide +kernel
theorem dX7_isPrime_90 : decode cX7_isPrime 90 = .ok (.iload_n 2, 1) := by decide +kernel
theorem dX7_isPrime_91 : decode cX7_isPrime 91 = .ok (.ireturn, 1) := by decide +kernel
set_option maxRecDepth 20000 in
theorem ggX7_layPrimes_X7_layGood : GoodIn wsX7_layPrimes wsX7_layGood := goodIn_r _ [7, 8, 9, 10, 11, 6, 12, 13, 14, 15, 16, 17, 18, 19, 20, 21, 22, 23, 24, 25, 26, 27, 28, 29, 34, 35, 36, 37, 38, 39, 40, 41, 42, 43, 44, 45, 46, 47, 48, 49] (by decide +kernel) (by decide +kernel)
set_option maxRecDepth 20000 in
theorem gX7_layPrimes_X7_layGood : GoodIn wsX7_layPrimes (wsV RX7 71 RX7 yX7_layGood wsX7_layGood) := goodIn_app (goodIn_of _ (by decide +kernel)) ggX7_layPrimes_X7_layGood
set_option maxRecDepth 20000 in
theorem ggX7_layPrimes_X7_isPrime : GoodIn wsX7_layPrimes wsX7_isPrime := goodIn_r _ [33, 8, 34, 35, 36, 37, 38, 39, 40, 41, 42, 43, 44, 45, 46, 47, 48, 49] (by decide +kernel) (by decide +kernel)
set_option maxRecDepth 20000 in
theorem gX7_layPrimes_X7_isPrime : GoodIn wsX7_layPrimes (wsV RX7 78 RX7 yX7_isPrime wsX7_isPrime) := goodIn_app (goodIn_of _ (by decide +kernel)) ggX7_layPrimes_X7_isPrime
theorem dX7_layPrimes_0 : decode cX7_layPrimes 0 = .ok (.aload_n 0, 1) := by decide +kernel
theorem dX7_layPrimes_1 : decode cX7_layPrimes 1 = .ok (.iload_n 1, 1) := by decide +kernel
theorem dX7_layPrimes_2 : decode cX7_layPrimes 2 = .ok (.invokevirtual 71, 3) := by decide +kernel
theorem dX7_layPrimes_5 : decode cX7_layPrimes 5 = .ok (.aload_n 0, 1) := by decide +kernel
theorem dX7_layPrimes_6 : decode cX7_layPrimes 6 = .ok (.iconst 0, 1) := by decide +kernel
theorem dX7_layPrimes_7 : decode cX7_layPrimes 7 = .ok (.putfield 75, 3) := by decide +kernel
theorem dX7_layPrimes_10 : decode cX7_layPrimes 10 = .ok (.iconst 0, 1) := by decide +kernel
theorem dX7_layPrimes_11 : decode cX7_layPrimes 11 = .ok (.istore_n 2, 1) := by decide +kernel
theorem dX7_layPrimes_12 : decode cX7_layPrimes 12 = .ok (.iload_n 2, 1) := by decide +kernel
theorem dX7_layPrimes_13 : decode cX7_layPrimes 13 = .ok (.sipush 4096, 3) := by decide +kernel
theorem dX7_layPrimes_16 : decode cX7_layPrimes 16 = .ok (.if_icmp .ge 43, 3) := by decide +kernel
theorem dX7_layPrimes_19 : decode cX7_layPrimes 19 = .ok (.aload_n 0, 1) := by decide +kernel
theorem dX7_layPrimes_20 : decode cX7_layPrimes 20 = .ok (.getfield 23, 3) := by decide +kernel
theorem dX7_layPrimes_23 : decode cX7_layPrimes 23 = .ok (.iload_n 2, 1) := by decide +kernel
theorem dX7_layPrimes_24 : decode cX7_layPrimes 24 = .ok (.aload_n 0, 1) := by decide +kernel
theorem dX7_layPrimes_25 : decode cX7_layPrimes 25 = .ok (.iload_n 2, 1) := by decide +kernel
theorem dX7_layPrimes_26 : decode cX7_layPrimes 26 = .ok (.invokevirtual 78, 3) := by decide +kernel
theorem dX7_layPrimes_29 : decode cX7_layPrimes 29 = .ok (.ifCond .eq 7, 3) := by decide +kernel
theorem dX7_layPrimes_32 : decode cX7_layPrimes 32 = .ok (.iconst 1, 1) := by decide +kernel
theorem dX7_layPrimes_33 : decode cX7_layPrimes 33 = .ok (.goto 4, 3) := by decide +kernel
theorem dX7_layPrimes_36 : decode cX7_layPrimes 36 = .ok (.iconst 0, 1) := by decide +kernel
theorem dX7_layPrimes_37 : decode cX7_layPrimes 37 = .ok (.iastore, 1) := by decide +kernel
theorem dX7_layPrimes_38 : decode cX7_layPrimes 38 = .ok (.aload_n 0, 1) := by decide +kernel
theorem dX7_layPrimes_39 : decode cX7_layPrimes 39 = .ok (.dup, 1) := by decide +kernel
theorem dX7_layPrimes_40 : decode cX7_layPrimes 40 = .ok (.getfield 75, 3) := by decide +kernel
theorem dX7_layPrimes_43 : decode cX7_layPrimes 43 = .ok (.aload_n 0, 1) := by decide +kernel
theorem dX7_layPrimes_44 : decode cX7_layPrimes 44 = .ok (.getfield 23, 3) := by decide +kernel
theorem dX7_layPrimes_47 : decode cX7_layPrimes 47 = .ok (.iload_n 2, 1) := by decide +kernel
theorem dX7_layPrimes_48 : decode cX7_layPrimes 48 = .ok (.iaload, 1) := by decide +kernel
theorem dX7_layPrimes_49 : decode cX7_layPrimes 49 = .ok (.iadd, 1) := by decide +kernel
theorem dX7_layPrimes_50 : decode cX7_layPrimes 50 = .ok (.putfield 75, 3) := by decide +kernel
theorem dX7_layPrimes_53 : decode cX7_layPrimes 53 = .ok (.iinc 2 1, 3) := by decide +kernel
theorem dX7_layPrimes_56 : decode cX7_layPrimes 56 = .ok (.goto (-44), 3) := by decide +kernel
theorem dX7_layPrimes_59 : decode cX7_layPrimes 59 = .ok (.return_, 1) := by decide +kernel
set_option maxRecDepth 20000 in
theorem ggX7_bestPrime_X7_onesOf : GoodIn wsX7_bestPrime wsX7_onesOf := goodIn_r _ [6] (by decide +kernel) (by decide +kernel)
set_option maxRecDepth 20000 in
theorem gX7_bestPrime_X7_onesOf : GoodIn wsX7_bestPrime (va_wsS RX7 81 yX7_onesOf wsX7_onesOf) := goodIn_app (goodIn_of _ (by decide +kernel)) ggX7_bestPrime_X7_onesOf
set_option maxRecDepth 20000 in
theorem ggX7_bestPrime_X7_ones : GoodIn wsX7_bestPrime wsX7_ones := goodIn_r _ [9] (by decide +kernel) (by decide +kernel)
set_option maxRecDepth 20000 in
theorem gX7_bestPrime_X7_ones : GoodIn wsX7_bestPrime (va_wsS RX7 85 yX7_ones wsX7_ones) := goodIn_app (goodIn_of _ (by decide +kernel)) ggX7_bestPrime_X7_ones
theorem dX7_bestPrime_0 : decode cX7_bestPrime 0 = .ok (.iconst (-1), 1) := by decide +kernel
theorem dX7_bestPrime_1 : decode cX7_bestPrime 1 = .ok (.istore_n 3, 1) := by decide +kernel
theorem dX7_bestPrime_2 : decode cX7_bestPrime 2 = .ok (.iconst 0, 1) := by decide +kernel
theorem dX7_bestPrime_3 : decode cX7_bestPrime 3 = .ok (.istore 4, 2) := by decide +kernel
theorem dX7_bestPrime_5 : decode cX7_bestPrime 5 = .ok (.iconst 0, 1) := by decide +kernel
theorem dX7_bestPrime_6 : decode cX7_bestPrime 6 = .ok (.istore 5, 2) := by decide +kernel
theorem dX7_bestPrime_8 : decode cX7_bestPrime 8 = .ok (.iload 5, 2) := by decide +kernel
theorem dX7_bestPrime_10 : decode cX7_bestPrime 10 = .ok (.sipush 4096, 3) := by decide +kernel
theorem dX7_bestPrime_13 : decode cX7_bestPrime 13 = .ok (.if_icmp .ge 108, 3) := by decide +kernel
theorem dX7_bestPrime_16 : decode cX7_bestPrime 16 = .ok (.aload_n 0, 1) := by decide +kernel
theorem dX7_bestPrime_17 : decode cX7_bestPrime 17 = .ok (.getfield 23, 3) := by decide +kernel
theorem dX7_bestPrime_20 : decode cX7_bestPrime 20 = .ok (.iload 5, 2) := by decide +kernel
theorem dX7_bestPrime_22 : decode cX7_bestPrime 22 = .ok (.iaload, 1) := by decide +kernel
theorem dX7_bestPrime_23 : decode cX7_bestPrime 23 = .ok (.iconst 1, 1) := by decide +kernel
theorem dX7_bestPrime_24 : decode cX7_bestPrime 24 = .ok (.if_icmp .ne 18, 3) := by decide +kernel
theorem dX7_bestPrime_27 : decode cX7_bestPrime 27 = .ok (.aload_n 0, 1) := by decide +kernel
theorem dX7_bestPrime_28 : decode cX7_bestPrime 28 = .ok (.getfield 19, 3) := by decide +kernel
theorem dX7_bestPrime_31 : decode cX7_bestPrime 31 = .ok (.iload 5, 2) := by decide +kernel
theorem dX7_bestPrime_33 : decode cX7_bestPrime 33 = .ok (.laload, 1) := by decide +kernel
theorem dX7_bestPrime_34 : decode cX7_bestPrime 34 = .ok (.lload_n 1, 1) := by decide +kernel
theorem dX7_bestPrime_35 : decode cX7_bestPrime 35 = .ok (.land, 1) := by decide +kernel
theorem dX7_bestPrime_36 : decode cX7_bestPrime 36 = .ok (.invokestatic 81, 3) := by decide +kernel
theorem dX7_bestPrime_39 : decode cX7_bestPrime 39 = .ok (.goto 4, 3) := by decide +kernel
theorem dX7_bestPrime_42 : decode cX7_bestPrime 42 = .ok (.iconst 0, 1) := by decide +kernel
theorem dX7_bestPrime_43 : decode cX7_bestPrime 43 = .ok (.istore 6, 2) := by decide +kernel
theorem dX7_bestPrime_45 : decode cX7_bestPrime 45 = .ok (.iload 6, 2) := by decide +kernel
theorem dX7_bestPrime_47 : decode cX7_bestPrime 47 = .ok (.iload 4, 2) := by decide +kernel
theorem dX7_bestPrime_49 : decode cX7_bestPrime 49 = .ok (.if_icmp .gt 33, 3) := by decide +kernel
theorem dX7_bestPrime_52 : decode cX7_bestPrime 52 = .ok (.iload 6, 2) := by decide +kernel
theorem dX7_bestPrime_54 : decode cX7_bestPrime 54 = .ok (.iload 4, 2) := by decide +kernel
theorem dX7_bestPrime_56 : decode cX7_bestPrime 56 = .ok (.if_icmp .ne 30, 3) := by decide +kernel
theorem dX7_bestPrime_59 : decode cX7_bestPrime 59 = .ok (.iload 6, 2) := by decide +kernel
theorem dX7_bestPrime_61 : decode cX7_bestPrime 61 = .ok (.ifCond .le 25, 3) := by decide +kernel
theorem dX7_bestPrime_64 : decode cX7_bestPrime 64 = .ok (.iload 5, 2) := by decide +kernel
theorem dX7_bestPrime_66 : decode cX7_bestPrime 66 = .ok (.bipush 64, 2) := by decide +kernel
theorem dX7_bestPrime_68 : decode cX7_bestPrime 68 = .ok (.idiv, 1) := by decide +kernel
theorem dX7_bestPrime_69 : decode cX7_bestPrime 69 = .ok (.invokestatic 85, 3) := by decide +kernel
theorem dX7_bestPrime_72 : decode cX7_bestPrime 72 = .ok (.iload_n 3, 1) := by decide +kernel
theorem dX7_bestPrime_73 : decode cX7_bestPrime 73 = .ok (.bipush 64, 2) := by decide +kernel
theorem dX7_bestPrime_75 : decode cX7_bestPrime 75 = .ok (.idiv, 1) := by decide +kernel
theorem dX7_bestPrime_76 : decode cX7_bestPrime 76 = .ok (.invokestatic 85, 3) := by decide +kernel
theorem dX7_bestPrime_79 : decode cX7_bestPrime 79 = .ok (.if_icmp .ge 7, 3) := by decide +kernel
theorem dX7_bestPrime_82 : decode cX7_bestPrime 82 = .ok (.iconst 1, 1) := by decide +kernel
theorem dX7_bestPrime_83 : decode cX7_bestPrime 83 = .ok (.goto 4, 3) := by decide +kernel
theorem dX7_bestPrime_86 : decode cX7_bestPrime 86 = .ok (.iconst 0, 1) := by decide +kernel
theorem dX7_bestPrime_87 : decode cX7_bestPrime 87 = .ok (.istore 7, 2) := by decide +kernel
theorem dX7_bestPrime_89 : decode cX7_bestPrime 89 = .ok (.iload 7, 2) := by decide +kernel
theorem dX7_bestPrime_91 : decode cX7_bestPrime 91 = .ok (.ifCond .eq 8, 3) := by decide +kernel
theorem dX7_bestPrime_94 : decode cX7_bestPrime 94 = .ok (.iload 5, 2) := by decide +kernel
theorem dX7_bestPrime_96 : decode cX7_bestPrime 96 = .ok (.goto 4, 3) := by decide +kernel
theorem dX7_bestPrime_99 : decode cX7_bestPrime 99 = .ok (.iload_n 3, 1) := by decide +kernel
theorem dX7_bestPrime_100 : decode cX7_bestPrime 100 = .ok (.istore_n 3, 1) := by decide +kernel
theorem dX7_bestPrime_101 : decode cX7_bestPrime 101 = .ok (.iload 7, 2) := by decide +kernel
theorem dX7_bestPrime_103 : decode cX7_bestPrime 103 = .ok (.ifCond .eq 8, 3) := by decide +kernel
theorem dX7_bestPrime_106 : decode cX7_bestPrime 106 = .ok (.iload 6, 2) := by decide +kernel
theorem dX7_bestPrime_108 : decode cX7_bestPrime 108 = .ok (.goto 5, 3) := by decide +kernel
theorem dX7_bestPrime_111 : decode cX7_bestPrime 111 = .ok (.iload 4, 2) := by decide +kernel
theorem dX7_bestPrime_113 : decode cX7_bestPrime 113 = .ok (.istore 4, 2) := by decide +kernel
theorem dX7_bestPrime_115 : decode cX7_bestPrime 115 = .ok (.iinc 5 1, 3) := by decide +kernel
theorem dX7_bestPrime_118 : decode cX7_bestPrime 118 = .ok (.goto (-110), 3) := by decide +kernel
theorem dX7_bestPrime_121 : decode cX7_bestPrime 121 = .ok (.iload_n 3, 1) := by decide +kernel
theorem dX7_bestPrime_122 : decode cX7_bestPrime 122 = .ok (.ireturn, 1) := by decide +kernel
set_option maxRecDepth 20000 in
theorem ggX7_layCover_X7_layPrimes : GoodIn wsX7_layCover wsX7_layPrimes := goodIn_r _ [9, 10, 11, 12, 13, 14, 8, 15, 3, 16, 17, 18, 19, 20, 21, 22, 23, 24, 25, 26, 27, 28, 29, 30, 31, 32, 33, 34, 35, 36, 37, 38, 39, 40, 51, 52, 53, 54, 55, 56, 57, 58, 59, 60, 61, 62, 63, 64, 65, 66] (by decide +kernel) (by decide +kernel)
set_option maxRecDepth 20000 in
theorem gX7_layCover_X7_layPrimes : GoodIn wsX7_layCover (wsV RX7 89 RX7 yX7_layPrimes wsX7_layPrimes) := goodIn_app (goodIn_of _ (by decide +kernel)) ggX7_layCover_X7_layPrimes
set_option maxRecDepth 20000 in
theorem ggX7_layCover_X7_rows : GoodIn wsX7_layCover wsX7_rows := goodIn_r _ [19, 20, 51, 52, 53, 54, 55, 56, 57, 58, 59, 60, 61, 62, 63, 64, 65, 66] (by decide +kernel) (by decide +kernel)
set_option maxRecDepth 20000 in
theorem gX7_layCover_X7_rows : GoodIn wsX7_layCover (wsV RX7 45 RX7 yX7_rows wsX7_rows) := goodIn_app (goodIn_of _ (by decide +kernel)) ggX7_layCover_X7_rows
set_option maxRecDepth 20000 in
theorem ggX7_layCover_X7_decided : GoodIn wsX7_layCover wsX7_decided := goodIn_r _ [24, 20, 16, 17, 18, 8, 19, 25, 26, 27, 28, 51, 52, 53, 54, 55, 56, 57, 58, 59, 60, 61, 62, 63, 64, 65, 66] (by decide +kernel) (by decide +kernel)
set_option maxRecDepth 20000 in
theorem gX7_layCover_X7_decided : GoodIn wsX7_layCover (wsV RX7 57 RX7 yX7_decided wsX7_decided) := goodIn_app (goodIn_of _ (by decide +kernel)) ggX7_layCover_X7_decided
set_option maxRecDepth 20000 in
theorem ggX7_layCover_X7_bestPrime : GoodIn wsX7_layCover wsX7_bestPrime := goodIn_r _ [44, 11, 3, 45, 46, 8, 47, 48, 49, 50, 51, 52, 53, 54, 55, 56, 57, 58, 59, 60, 61, 62, 63, 64, 65, 66] (by decide +kernel) (by decide +kernel)
set_option maxRecDepth 20000 in
theorem gX7_layCover_X7_bestPrime : GoodIn wsX7_layCover (wsV RX7 92 RX7 yX7_bestPrime wsX7_bestPrime) := goodIn_app (goodIn_of _ (by decide +kernel)) ggX7_layCover_X7_bestPrime
theorem dX7_layCover_0 : decode cX7_layCover 0 = .ok (.aload_n 0, 1) := by decide +kernel
theorem dX7_layCover_1 : decode cX7_layCover 1 = .ok (.iload_n 1, 1) := by decide +kernel
theorem dX7_layCover_2 : decode cX7_layCover 2 = .ok (.invokevirtual 89, 3) := by decide +kernel
theorem dX7_layCover_5 : decode cX7_layCover 5 = .ok (.lconst 0, 1) := by decide +kernel
theorem dX7_layCover_6 : decode cX7_layCover 6 = .ok (.lstore_n 2, 1) := by decide +kernel
theorem dX7_layCover_7 : decode cX7_layCover 7 = .ok (.iconst 0, 1) := by decide +kernel
theorem dX7_layCover_8 : decode cX7_layCover 8 = .ok (.istore 4, 2) := by decide +kernel
theorem dX7_layCover_10 : decode cX7_layCover 10 = .ok (.iload 4, 2) := by decide +kernel
theorem dX7_layCover_12 : decode cX7_layCover 12 = .ok (.aload_n 0, 1) := by decide +kernel
theorem dX7_layCover_13 : decode cX7_layCover 13 = .ok (.invokevirtual 45, 3) := by decide +kernel
theorem dX7_layCover_16 : decode cX7_layCover 16 = .ok (.if_icmp .ge 31, 3) := by decide +kernel
theorem dX7_layCover_19 : decode cX7_layCover 19 = .ok (.lload_n 2, 1) := by decide +kernel
theorem dX7_layCover_20 : decode cX7_layCover 20 = .ok (.aload_n 0, 1) := by decide +kernel
theorem dX7_layCover_21 : decode cX7_layCover 21 = .ok (.iload_n 1, 1) := by decide +kernel
theorem dX7_layCover_22 : decode cX7_layCover 22 = .ok (.iload 4, 2) := by decide +kernel
theorem dX7_layCover_24 : decode cX7_layCover 24 = .ok (.invokevirtual 57, 3) := by decide +kernel
theorem dX7_layCover_27 : decode cX7_layCover 27 = .ok (.iconst 1, 1) := by decide +kernel
theorem dX7_layCover_28 : decode cX7_layCover 28 = .ok (.if_icmp .ne 10, 3) := by decide +kernel
theorem dX7_layCover_31 : decode cX7_layCover 31 = .ok (.lconst 1, 1) := by decide +kernel
theorem dX7_layCover_32 : decode cX7_layCover 32 = .ok (.iload 4, 2) := by decide +kernel
theorem dX7_layCover_34 : decode cX7_layCover 34 = .ok (.lshl, 1) := by decide +kernel
theorem dX7_layCover_35 : decode cX7_layCover 35 = .ok (.goto 4, 3) := by decide +kernel
theorem dX7_layCover_38 : decode cX7_layCover 38 = .ok (.lconst 0, 1) := by decide +kernel
theorem dX7_layCover_39 : decode cX7_layCover 39 = .ok (.lor, 1) := by decide +kernel
theorem dX7_layCover_40 : decode cX7_layCover 40 = .ok (.lstore_n 2, 1) := by decide +kernel
theorem dX7_layCover_41 : decode cX7_layCover 41 = .ok (.iinc 4 1, 3) := by decide +kernel
theorem dX7_layCover_44 : decode cX7_layCover 44 = .ok (.goto (-34), 3) := by decide +kernel
theorem dX7_layCover_47 : decode cX7_layCover 47 = .ok (.aload_n 0, 1) := by decide +kernel
theorem dX7_layCover_48 : decode cX7_layCover 48 = .ok (.getfield 29, 3) := by decide +kernel
theorem dX7_layCover_51 : decode cX7_layCover 51 = .ok (.iload_n 1, 1) := by decide +kernel
theorem dX7_layCover_52 : decode cX7_layCover 52 = .ok (.iconst 0, 1) := by decide +kernel
theorem dX7_layCover_53 : decode cX7_layCover 53 = .ok (.iastore, 1) := by decide +kernel
theorem dX7_layCover_54 : decode cX7_layCover 54 = .ok (.lload_n 2, 1) := by decide +kernel
theorem dX7_layCover_55 : decode cX7_layCover 55 = .ok (.lconst 0, 1) := by decide +kernel
theorem dX7_layCover_56 : decode cX7_layCover 56 = .ok (.lcmp, 1) := by decide +kernel
theorem dX7_layCover_57 : decode cX7_layCover 57 = .ok (.ifCond .eq 55, 3) := by decide +kernel
theorem dX7_layCover_60 : decode cX7_layCover 60 = .ok (.aload_n 0, 1) := by decide +kernel
theorem dX7_layCover_61 : decode cX7_layCover 61 = .ok (.lload_n 2, 1) := by decide +kernel
theorem dX7_layCover_62 : decode cX7_layCover 62 = .ok (.invokevirtual 92, 3) := by decide +kernel
theorem dX7_layCover_65 : decode cX7_layCover 65 = .ok (.istore 4, 2) := by decide +kernel
theorem dX7_layCover_67 : decode cX7_layCover 67 = .ok (.aload_n 0, 1) := by decide +kernel
theorem dX7_layCover_68 : decode cX7_layCover 68 = .ok (.getfield 26, 3) := by decide +kernel
theorem dX7_layCover_71 : decode cX7_layCover 71 = .ok (.bipush 64, 2) := by decide +kernel
theorem dX7_layCover_73 : decode cX7_layCover 73 = .ok (.iload_n 1, 1) := by decide +kernel
theorem dX7_layCover_74 : decode cX7_layCover 74 = .ok (.imul, 1) := by decide +kernel
theorem dX7_layCover_75 : decode cX7_layCover 75 = .ok (.aload_n 0, 1) := by decide +kernel
theorem dX7_layCover_76 : decode cX7_layCover 76 = .ok (.getfield 29, 3) := by decide +kernel
theorem dX7_layCover_79 : decode cX7_layCover 79 = .ok (.iload_n 1, 1) := by decide +kernel
theorem dX7_layCover_80 : decode cX7_layCover 80 = .ok (.iaload, 1) := by decide +kernel
theorem dX7_layCover_81 : decode cX7_layCover 81 = .ok (.iadd, 1) := by decide +kernel
theorem dX7_layCover_82 : decode cX7_layCover 82 = .ok (.iload 4, 2) := by decide +kernel
theorem dX7_layCover_84 : decode cX7_layCover 84 = .ok (.iastore, 1) := by decide +kernel
theorem dX7_layCover_85 : decode cX7_layCover 85 = .ok (.aload_n 0, 1) := by decide +kernel
theorem dX7_layCover_86 : decode cX7_layCover 86 = .ok (.getfield 29, 3) := by decide +kernel
theorem dX7_layCover_89 : decode cX7_layCover 89 = .ok (.iload_n 1, 1) := by decide +kernel
theorem dX7_layCover_90 : decode cX7_layCover 90 = .ok (.dup2, 1) := by decide +kernel
theorem dX7_layCover_91 : decode cX7_layCover 91 = .ok (.iaload, 1) := by decide +kernel
theorem dX7_layCover_92 : decode cX7_layCover 92 = .ok (.iconst 1, 1) := by decide +kernel
theorem dX7_layCover_93 : decode cX7_layCover 93 = .ok (.iadd, 1) := by decide +kernel
theorem dX7_layCover_94 : decode cX7_layCover 94 = .ok (.iastore, 1) := by decide +kernel
theorem dX7_layCover_95 : decode cX7_layCover 95 = .ok (.lload_n 2, 1) := by decide +kernel
theorem dX7_layCover_96 : decode cX7_layCover 96 = .ok (.aload_n 0, 1) := by decide +kernel
theorem dX7_layCover_97 : decode cX7_layCover 97 = .ok (.getfield 19, 3) := by decide +kernel
theorem dX7_layCover_100 : decode cX7_layCover 100 = .ok (.iload 4, 2) := by decide +kernel
theorem dX7_layCover_102 : decode cX7_layCover 102 = .ok (.laload, 1) := by decide +kernel
theorem dX7_layCover_103 : decode cX7_layCover 103 = .ok (.ldc2_w 95, 3) := by decide +kernel
theorem dX7_layCover_106 : decode cX7_layCover 106 = .ok (.lxor, 1) := by decide +kernel
theorem dX7_layCover_107 : decode cX7_layCover 107 = .ok (.land, 1) := by decide +kernel
theorem dX7_layCover_108 : decode cX7_layCover 108 = .ok (.lstore_n 2, 1) := by decide +kernel
theorem dX7_layCover_109 : decode cX7_layCover 109 = .ok (.goto (-55), 3) := by decide +kernel
theorem dX7_layCover_112 : decode cX7_layCover 112 = .ok (.return_, 1) := by decide +kernel
set_option maxRecDepth 20000 in
theorem ggX7_layAll_X7_layCover : GoodIn wsX7_layAll wsX7_layCover := goodIn_r _ [5, 6, 7, 8, 9, 10, 11, 12, 4, 13, 14, 15, 16, 17, 18, 19, 20, 21, 22, 23, 24, 25, 26, 27, 28, 29, 30, 31, 32, 33, 34, 35, 36, 37, 38, 39, 40, 41, 42, 43, 44, 45, 46, 47, 48, 49, 50, 51, 52, 53, 54, 55, 56, 57, 58, 59, 60, 61, 62, 63, 64, 65, 66, 67, 68, 69, 70] (by decide +kernel) (by decide +kernel)
set_option maxRecDepth 20000 in
theorem gX7_layAll_X7_layCover : GoodIn wsX7_layAll (wsV RX7 97 RX7 yX7_layCover wsX7_layCover) := goodIn_app (goodIn_of _ (by decide +kernel)) ggX7_layAll_X7_layCover
theorem dX7_layAll_0 : decode cX7_layAll 0 = .ok (.iconst 0, 1) := by decide +kernel
theorem dX7_layAll_1 : decode cX7_layAll 1 = .ok (.istore_n 1, 1) := by decide +kernel
theorem dX7_layAll_2 : decode cX7_layAll 2 = .ok (.iload_n 1, 1) := by decide +kernel
theorem dX7_layAll_3 : decode cX7_layAll 3 = .ok (.iconst 4, 1) := by decide +kernel
theorem dX7_layAll_4 : decode cX7_layAll 4 = .ok (.if_icmp .ge 14, 3) := by decide +kernel
theorem dX7_layAll_7 : decode cX7_layAll 7 = .ok (.aload_n 0, 1) := by decide +kernel
theorem dX7_layAll_8 : decode cX7_layAll 8 = .ok (.iload_n 1, 1) := by decide +kernel
theorem dX7_layAll_9 : decode cX7_layAll 9 = .ok (.invokevirtual 97, 3) := by decide +kernel
theorem dX7_layAll_12 : decode cX7_layAll 12 = .ok (.iinc 1 1, 3) := by decide +kernel
theorem dX7_layAll_15 : decode cX7_layAll 15 = .ok (.goto (-13), 3) := by decide +kernel
theorem dX7_layAll_18 : decode cX7_layAll 18 = .ok (.return_, 1) := by decide +kernel
theorem dX7_hasProduct_0 : decode cX7_hasProduct 0 = .ok (.iconst 0, 1) := by decide +kernel
theorem dX7_hasProduct_1 : decode cX7_hasProduct 1 = .ok (.istore_n 3, 1) := by decide +kernel
theorem dX7_hasProduct_2 : decode cX7_hasProduct 2 = .ok (.iconst 0, 1) := by decide +kernel
theorem dX7_hasProduct_3 : decode cX7_hasProduct 3 = .ok (.istore 4, 2) := by decide +kernel
theorem dX7_hasProduct_5 : decode cX7_hasProduct 5 = .ok (.iload 4, 2) := by decide +kernel
theorem dX7_hasProduct_7 : decode cX7_hasProduct 7 = .ok (.aload_n 0, 1) := by decide +kernel
theorem dX7_hasProduct_8 : decode cX7_hasProduct 8 = .ok (.getfield 29, 3) := by decide +kernel
theorem dX7_hasProduct_11 : decode cX7_hasProduct 11 = .ok (.iload_n 1, 1) := by decide +kernel
theorem dX7_hasProduct_12 : decode cX7_hasProduct 12 = .ok (.iaload, 1) := by decide +kernel
theorem dX7_hasProduct_13 : decode cX7_hasProduct 13 = .ok (.if_icmp .ge 35, 3) := by decide +kernel
theorem dX7_hasProduct_16 : decode cX7_hasProduct 16 = .ok (.iload_n 3, 1) := by decide +kernel
theorem dX7_hasProduct_17 : decode cX7_hasProduct 17 = .ok (.ifCond .ne 19, 3) := by decide +kernel
theorem dX7_hasProduct_20 : decode cX7_hasProduct 20 = .ok (.aload_n 0, 1) := by decide +kernel
theorem dX7_hasProduct_21 : decode cX7_hasProduct 21 = .ok (.getfield 26, 3) := by decide +kernel
theorem dX7_hasProduct_24 : decode cX7_hasProduct 24 = .ok (.bipush 64, 2) := by decide +kernel
theorem dX7_hasProduct_26 : decode cX7_hasProduct 26 = .ok (.iload_n 1, 1) := by decide +kernel
theorem dX7_hasProduct_27 : decode cX7_hasProduct 27 = .ok (.imul, 1) := by decide +kernel
theorem dX7_hasProduct_28 : decode cX7_hasProduct 28 = .ok (.iload 4, 2) := by decide +kernel
theorem dX7_hasProduct_30 : decode cX7_hasProduct 30 = .ok (.iadd, 1) := by decide +kernel
theorem dX7_hasProduct_31 : decode cX7_hasProduct 31 = .ok (.iaload, 1) := by decide +kernel
theorem dX7_hasProduct_32 : decode cX7_hasProduct 32 = .ok (.iload_n 2, 1) := by decide +kernel
theorem dX7_hasProduct_33 : decode cX7_hasProduct 33 = .ok (.if_icmp .ne 7, 3) := by decide +kernel
theorem dX7_hasProduct_36 : decode cX7_hasProduct 36 = .ok (.iconst 1, 1) := by decide +kernel
theorem dX7_hasProduct_37 : decode cX7_hasProduct 37 = .ok (.goto 4, 3) := by decide +kernel
theorem dX7_hasProduct_40 : decode cX7_hasProduct 40 = .ok (.iconst 0, 1) := by decide +kernel
theorem dX7_hasProduct_41 : decode cX7_hasProduct 41 = .ok (.istore_n 3, 1) := by decide +kernel
theorem dX7_hasProduct_42 : decode cX7_hasProduct 42 = .ok (.iinc 4 1, 3) := by decide +kernel
theorem dX7_hasProduct_45 : decode cX7_hasProduct 45 = .ok (.goto (-40), 3) := by decide +kernel
theorem dX7_hasProduct_48 : decode cX7_hasProduct 48 = .ok (.iload_n 3, 1) := by decide +kernel
theorem dX7_hasProduct_49 : decode cX7_hasProduct 49 = .ok (.ireturn, 1) := by decide +kernel
theorem dX7_answer_0 : decode cX7_answer 0 = .ok (.iconst 0, 1) := by decide +kernel
theorem dX7_answer_1 : decode cX7_answer 1 = .ok (.istore_n 3, 1) := by decide +kernel
theorem dX7_answer_2 : decode cX7_answer 2 = .ok (.iconst 0, 1) := by decide +kernel
theorem dX7_answer_3 : decode cX7_answer 3 = .ok (.istore 4, 2) := by decide +kernel
theorem dX7_answer_5 : decode cX7_answer 5 = .ok (.iload 4, 2) := by decide +kernel
theorem dX7_answer_7 : decode cX7_answer 7 = .ok (.aload_n 0, 1) := by decide +kernel
theorem dX7_answer_8 : decode cX7_answer 8 = .ok (.getfield 29, 3) := by decide +kernel
theorem dX7_answer_11 : decode cX7_answer 11 = .ok (.iload_n 1, 1) := by decide +kernel
theorem dX7_answer_12 : decode cX7_answer 12 = .ok (.iaload, 1) := by decide +kernel
theorem dX7_answer_13 : decode cX7_answer 13 = .ok (.if_icmp .ge 44, 3) := by decide +kernel
theorem dX7_answer_16 : decode cX7_answer 16 = .ok (.aload_n 0, 1) := by decide +kernel
theorem dX7_answer_17 : decode cX7_answer 17 = .ok (.getfield 26, 3) := by decide +kernel
theorem dX7_answer_20 : decode cX7_answer 20 = .ok (.bipush 64, 2) := by decide +kernel
theorem dX7_answer_22 : decode cX7_answer 22 = .ok (.iload_n 1, 1) := by decide +kernel
theorem dX7_answer_23 : decode cX7_answer 23 = .ok (.imul, 1) := by decide +kernel
theorem dX7_answer_24 : decode cX7_answer 24 = .ok (.iload 4, 2) := by decide +kernel
theorem dX7_answer_26 : decode cX7_answer 26 = .ok (.iadd, 1) := by decide +kernel
theorem dX7_answer_27 : decode cX7_answer 27 = .ok (.iaload, 1) := by decide +kernel
theorem dX7_answer_28 : decode cX7_answer 28 = .ok (.istore 5, 2) := by decide +kernel
theorem dX7_answer_30 : decode cX7_answer 30 = .ok (.iload_n 2, 1) := by decide +kernel
theorem dX7_answer_31 : decode cX7_answer 31 = .ok (.iload 5, 2) := by decide +kernel
theorem dX7_answer_33 : decode cX7_answer 33 = .ok (.bipush 64, 2) := by decide +kernel
theorem dX7_answer_35 : decode cX7_answer 35 = .ok (.idiv, 1) := by decide +kernel
theorem dX7_answer_36 : decode cX7_answer 36 = .ok (.iand, 1) := by decide +kernel
theorem dX7_answer_37 : decode cX7_answer 37 = .ok (.iload 5, 2) := by decide +kernel
theorem dX7_answer_39 : decode cX7_answer 39 = .ok (.bipush 64, 2) := by decide +kernel
theorem dX7_answer_41 : decode cX7_answer 41 = .ok (.irem, 1) := by decide +kernel
theorem dX7_answer_42 : decode cX7_answer 42 = .ok (.if_icmp .ne 7, 3) := by decide +kernel
theorem dX7_answer_45 : decode cX7_answer 45 = .ok (.iconst 1, 1) := by decide +kernel
theorem dX7_answer_46 : decode cX7_answer 46 = .ok (.goto 4, 3) := by decide +kernel
theorem dX7_answer_49 : decode cX7_answer 49 = .ok (.iload_n 3, 1) := by decide +kernel
theorem dX7_answer_50 : decode cX7_answer 50 = .ok (.istore_n 3, 1) := by decide +kernel
theorem dX7_answer_51 : decode cX7_answer 51 = .ok (.iinc 4 1, 3) := by decide +kernel
theorem dX7_answer_54 : decode cX7_answer 54 = .ok (.goto (-49), 3) := by decide +kernel
theorem dX7_answer_57 : decode cX7_answer 57 = .ok (.iload_n 3, 1) := by decide +kernel
theorem dX7_answer_58 : decode cX7_answer 58 = .ok (.ireturn, 1) := by decide +kernel
set_option maxRecDepth 20000 in
theorem ggX7_coversWith_X7_hasProduct : GoodIn wsX7_coversWith wsX7_hasProduct := goodIn_r _ [5, 6, 7, 8, 9, 10, 11, 12, 13, 14, 15, 16, 17, 18, 19, 20, 21, 22, 23] (by decide +kernel) (by decide +kernel)
set_option maxRecDepth 20000 in
theorem gX7_coversWith_X7_hasProduct : GoodIn wsX7_coversWith (wsV RX7 100 RX7 yX7_hasProduct wsX7_hasProduct) := goodIn_app (goodIn_of _ (by decide +kernel)) ggX7_coversWith_X7_hasProduct
theorem dX7_coversWith_0 : decode cX7_coversWith 0 = .ok (.iconst 0, 1) := by decide +kernel
theorem dX7_coversWith_1 : decode cX7_coversWith 1 = .ok (.istore_n 2, 1) := by decide +kernel
theorem dX7_coversWith_2 : decode cX7_coversWith 2 = .ok (.iconst 0, 1) := by decide +kernel
theorem dX7_coversWith_3 : decode cX7_coversWith 3 = .ok (.istore_n 3, 1) := by decide +kernel
theorem dX7_coversWith_4 : decode cX7_coversWith 4 = .ok (.iload_n 3, 1) := by decide +kernel
theorem dX7_coversWith_5 : decode cX7_coversWith 5 = .ok (.iconst 4, 1) := by decide +kernel
theorem dX7_coversWith_6 : decode cX7_coversWith 6 = .ok (.if_icmp .ge 26, 3) := by decide +kernel
theorem dX7_coversWith_9 : decode cX7_coversWith 9 = .ok (.iload_n 2, 1) := by decide +kernel
theorem dX7_coversWith_10 : decode cX7_coversWith 10 = .ok (.aload_n 0, 1) := by decide +kernel
theorem dX7_coversWith_11 : decode cX7_coversWith 11 = .ok (.iload_n 3, 1) := by decide +kernel
theorem dX7_coversWith_12 : decode cX7_coversWith 12 = .ok (.iload_n 1, 1) := by decide +kernel
theorem dX7_coversWith_13 : decode cX7_coversWith 13 = .ok (.invokevirtual 100, 3) := by decide +kernel
theorem dX7_coversWith_16 : decode cX7_coversWith 16 = .ok (.ifCond .eq 7, 3) := by decide +kernel
theorem dX7_coversWith_19 : decode cX7_coversWith 19 = .ok (.iconst 1, 1) := by decide +kernel
theorem dX7_coversWith_20 : decode cX7_coversWith 20 = .ok (.goto 4, 3) := by decide +kernel
theorem dX7_coversWith_23 : decode cX7_coversWith 23 = .ok (.iconst 0, 1) := by decide +kernel
theorem dX7_coversWith_24 : decode cX7_coversWith 24 = .ok (.iadd, 1) := by decide +kernel
theorem dX7_coversWith_25 : decode cX7_coversWith 25 = .ok (.istore_n 2, 1) := by decide +kernel
theorem dX7_coversWith_26 : decode cX7_coversWith 26 = .ok (.iinc 3 1, 3) := by decide +kernel
theorem dX7_coversWith_29 : decode cX7_coversWith 29 = .ok (.goto (-25), 3) := by decide +kernel
theorem dX7_coversWith_32 : decode cX7_coversWith 32 = .ok (.iload_n 2, 1) := by decide +kernel
theorem dX7_coversWith_33 : decode cX7_coversWith 33 = .ok (.ireturn, 1) := by decide +kernel
set_option maxRecDepth 20000 in
theorem ggX7_partsOf_X7_isProduct : GoodIn wsX7_partsOf wsX7_isProduct := goodIn_r _ [5, 6, 20, 21, 22, 23, 24, 25, 26, 27, 28, 29, 30, 31, 32, 33, 34, 35] (by decide +kernel) (by decide +kernel)
set_option maxRecDepth 20000 in
theorem gX7_partsOf_X7_isProduct : GoodIn wsX7_partsOf (wsV RX7 63 RX7 yX7_isProduct wsX7_isProduct) := goodIn_app (goodIn_of _ (by decide +kernel)) ggX7_partsOf_X7_isProduct
set_option maxRecDepth 20000 in
theorem ggX7_partsOf_X7_coversWith : GoodIn wsX7_partsOf wsX7_coversWith := goodIn_r _ [10, 11, 12, 13, 4, 14, 15, 16, 20, 21, 22, 23, 24, 25, 26, 27, 28, 29, 30, 31, 32, 33, 34, 35] (by decide +kernel) (by decide +kernel)
set_option maxRecDepth 20000 in
theorem gX7_partsOf_X7_coversWith : GoodIn wsX7_partsOf (wsV RX7 104 RX7 yX7_coversWith wsX7_coversWith) := goodIn_app (goodIn_of _ (by decide +kernel)) ggX7_partsOf_X7_coversWith
set_option maxRecDepth 20000 in
theorem ggX7_partsOf_X7_ones : GoodIn wsX7_partsOf wsX7_ones := goodIn_r _ [19] (by decide +kernel) (by decide +kernel)
set_option maxRecDepth 20000 in
theorem gX7_partsOf_X7_ones : GoodIn wsX7_partsOf (va_wsS RX7 85 yX7_ones wsX7_ones) := goodIn_app (goodIn_of _ (by decide +kernel)) ggX7_partsOf_X7_ones
theorem dX7_partsOf_0 : decode cX7_partsOf 0 = .ok (.iconst 0, 1) := by decide +kernel
theorem dX7_partsOf_1 : decode cX7_partsOf 1 = .ok (.istore_n 2, 1) := by decide +kernel
theorem dX7_partsOf_2 : decode cX7_partsOf 2 = .ok (.iconst 0, 1) := by decide +kernel
theorem dX7_partsOf_3 : decode cX7_partsOf 3 = .ok (.istore_n 3, 1) := by decide +kernel
theorem dX7_partsOf_4 : decode cX7_partsOf 4 = .ok (.iload_n 3, 1) := by decide +kernel
theorem dX7_partsOf_5 : decode cX7_partsOf 5 = .ok (.sipush 4096, 3) := by decide +kernel
theorem dX7_partsOf_8 : decode cX7_partsOf 8 = .ok (.if_icmp .ge 70, 3) := by decide +kernel
theorem dX7_partsOf_11 : decode cX7_partsOf 11 = .ok (.aload_n 0, 1) := by decide +kernel
theorem dX7_partsOf_12 : decode cX7_partsOf 12 = .ok (.iload_n 3, 1) := by decide +kernel
theorem dX7_partsOf_13 : decode cX7_partsOf 13 = .ok (.invokevirtual 63, 3) := by decide +kernel
theorem dX7_partsOf_16 : decode cX7_partsOf 16 = .ok (.ifCond .eq 11, 3) := by decide +kernel
theorem dX7_partsOf_19 : decode cX7_partsOf 19 = .ok (.aload_n 0, 1) := by decide +kernel
theorem dX7_partsOf_20 : decode cX7_partsOf 20 = .ok (.iload_n 3, 1) := by decide +kernel
theorem dX7_partsOf_21 : decode cX7_partsOf 21 = .ok (.invokevirtual 104, 3) := by decide +kernel
theorem dX7_partsOf_24 : decode cX7_partsOf 24 = .ok (.goto 4, 3) := by decide +kernel
theorem dX7_partsOf_27 : decode cX7_partsOf 27 = .ok (.iconst 0, 1) := by decide +kernel
theorem dX7_partsOf_28 : decode cX7_partsOf 28 = .ok (.istore 4, 2) := by decide +kernel
theorem dX7_partsOf_30 : decode cX7_partsOf 30 = .ok (.iload 4, 2) := by decide +kernel
theorem dX7_partsOf_32 : decode cX7_partsOf 32 = .ok (.ifCond .le 40, 3) := by decide +kernel
theorem dX7_partsOf_35 : decode cX7_partsOf 35 = .ok (.iload_n 2, 1) := by decide +kernel
theorem dX7_partsOf_36 : decode cX7_partsOf 36 = .ok (.iload_n 1, 1) := by decide +kernel
theorem dX7_partsOf_37 : decode cX7_partsOf 37 = .ok (.ifCond .ne 7, 3) := by decide +kernel
theorem dX7_partsOf_40 : decode cX7_partsOf 40 = .ok (.iconst 1, 1) := by decide +kernel
theorem dX7_partsOf_41 : decode cX7_partsOf 41 = .ok (.goto 29, 3) := by decide +kernel
theorem dX7_partsOf_44 : decode cX7_partsOf 44 = .ok (.iload_n 1, 1) := by decide +kernel
theorem dX7_partsOf_45 : decode cX7_partsOf 45 = .ok (.iconst 1, 1) := by decide +kernel
theorem dX7_partsOf_46 : decode cX7_partsOf 46 = .ok (.if_icmp .ne 17, 3) := by decide +kernel
theorem dX7_partsOf_49 : decode cX7_partsOf 49 = .ok (.iload 4, 2) := by decide +kernel
theorem dX7_partsOf_51 : decode cX7_partsOf 51 = .ok (.iconst 1, 1) := by decide +kernel
theorem dX7_partsOf_52 : decode cX7_partsOf 52 = .ok (.if_icmp .le 7, 3) := by decide +kernel
theorem dX7_partsOf_55 : decode cX7_partsOf 55 = .ok (.iconst 1, 1) := by decide +kernel
theorem dX7_partsOf_56 : decode cX7_partsOf 56 = .ok (.goto 14, 3) := by decide +kernel
theorem dX7_partsOf_59 : decode cX7_partsOf 59 = .ok (.iconst 0, 1) := by decide +kernel
theorem dX7_partsOf_60 : decode cX7_partsOf 60 = .ok (.goto 10, 3) := by decide +kernel
theorem dX7_partsOf_63 : decode cX7_partsOf 63 = .ok (.iload_n 3, 1) := by decide +kernel
theorem dX7_partsOf_64 : decode cX7_partsOf 64 = .ok (.bipush 64, 2) := by decide +kernel
theorem dX7_partsOf_66 : decode cX7_partsOf 66 = .ok (.idiv, 1) := by decide +kernel
theorem dX7_partsOf_67 : decode cX7_partsOf 67 = .ok (.invokestatic 85, 3) := by decide +kernel
theorem dX7_partsOf_70 : decode cX7_partsOf 70 = .ok (.iadd, 1) := by decide +kernel
theorem dX7_partsOf_71 : decode cX7_partsOf 71 = .ok (.istore_n 2, 1) := by decide +kernel
theorem dX7_partsOf_72 : decode cX7_partsOf 72 = .ok (.iinc 3 1, 3) := by decide +kernel
theorem dX7_partsOf_75 : decode cX7_partsOf 75 = .ok (.goto (-71), 3) := by decide +kernel
theorem dX7_partsOf_78 : decode cX7_partsOf 78 = .ok (.iload_n 2, 1) := by decide +kernel
theorem dX7_partsOf_79 : decode cX7_partsOf 79 = .ok (.ireturn, 1) := by decide +kernel
set_option maxRecDepth 20000 in
theorem ggX7_begin_X7_within : GoodIn wsX7_begin wsX7_within := goodIn_r _ [6] (by decide +kernel) (by decide +kernel)
set_option maxRecDepth 20000 in
theorem gX7_begin_X7_within : GoodIn wsX7_begin (va_wsS RX7 49 yX7_within wsX7_within) := goodIn_app (goodIn_of _ (by decide +kernel)) ggX7_begin_X7_within
set_option maxRecDepth 20000 in
theorem ggX7_begin_X7_save : GoodIn wsX7_begin wsX7_save := goodIn_r _ [10, 11, 12, 2, 13, 14, 15, 16, 17, 18, 19, 20, 21, 22, 23, 24, 25, 26, 27, 28] (by decide +kernel) (by decide +kernel)
set_option maxRecDepth 20000 in
theorem gX7_begin_X7_save : GoodIn wsX7_begin (wsV RX7 107 RX7 yX7_save wsX7_save) := goodIn_app (goodIn_of _ (by decide +kernel)) ggX7_begin_X7_save
theorem dX7_begin_0 : decode cX7_begin 0 = .ok (.aload_n 0, 1) := by decide +kernel
theorem dX7_begin_1 : decode cX7_begin 1 = .ok (.iload_n 1, 1) := by decide +kernel
theorem dX7_begin_2 : decode cX7_begin 2 = .ok (.iconst 1, 1) := by decide +kernel
theorem dX7_begin_3 : decode cX7_begin 3 = .ok (.bipush 6, 2) := by decide +kernel
theorem dX7_begin_5 : decode cX7_begin 5 = .ok (.invokestatic 49, 3) := by decide +kernel
theorem dX7_begin_8 : decode cX7_begin 8 = .ok (.ifCond .eq 7, 3) := by decide +kernel
theorem dX7_begin_11 : decode cX7_begin 11 = .ok (.iconst 0, 1) := by decide +kernel
theorem dX7_begin_12 : decode cX7_begin 12 = .ok (.goto 4, 3) := by decide +kernel
theorem dX7_begin_15 : decode cX7_begin 15 = .ok (.iconst 1, 1) := by decide +kernel
theorem dX7_begin_16 : decode cX7_begin 16 = .ok (.putfield 38, 3) := by decide +kernel
theorem dX7_begin_19 : decode cX7_begin 19 = .ok (.aload_n 0, 1) := by decide +kernel
theorem dX7_begin_20 : decode cX7_begin 20 = .ok (.getfield 38, 3) := by decide +kernel
theorem dX7_begin_23 : decode cX7_begin 23 = .ok (.ifCond .le 5, 3) := by decide +kernel
theorem dX7_begin_26 : decode cX7_begin 26 = .ok (.iconst 0, 1) := by decide +kernel
theorem dX7_begin_27 : decode cX7_begin 27 = .ok (.ireturn, 1) := by decide +kernel
theorem dX7_begin_28 : decode cX7_begin 28 = .ok (.aload_n 0, 1) := by decide +kernel
theorem dX7_begin_29 : decode cX7_begin 29 = .ok (.invokevirtual 107, 3) := by decide +kernel
theorem dX7_begin_32 : decode cX7_begin 32 = .ok (.aload_n 0, 1) := by decide +kernel
theorem dX7_begin_33 : decode cX7_begin 33 = .ok (.getfield 7, 3) := by decide +kernel
theorem dX7_begin_36 : decode cX7_begin 36 = .ok (.iconst 0, 1) := by decide +kernel
theorem dX7_begin_37 : decode cX7_begin 37 = .ok (.iaload, 1) := by decide +kernel
theorem dX7_begin_38 : decode cX7_begin 38 = .ok (.istore_n 2, 1) := by decide +kernel
theorem dX7_begin_39 : decode cX7_begin 39 = .ok (.aload_n 0, 1) := by decide +kernel
theorem dX7_begin_40 : decode cX7_begin 40 = .ok (.getfield 7, 3) := by decide +kernel
theorem dX7_begin_43 : decode cX7_begin 43 = .ok (.iconst 0, 1) := by decide +kernel
theorem dX7_begin_44 : decode cX7_begin 44 = .ok (.iload_n 1, 1) := by decide +kernel
theorem dX7_begin_45 : decode cX7_begin 45 = .ok (.iastore, 1) := by decide +kernel
theorem dX7_begin_46 : decode cX7_begin 46 = .ok (.aload_n 0, 1) := by decide +kernel
theorem dX7_begin_47 : decode cX7_begin 47 = .ok (.getfield 7, 3) := by decide +kernel
theorem dX7_begin_50 : decode cX7_begin 50 = .ok (.iconst 1, 1) := by decide +kernel
theorem dX7_begin_51 : decode cX7_begin 51 = .ok (.iconst 1, 1) := by decide +kernel
theorem dX7_begin_52 : decode cX7_begin 52 = .ok (.iload_n 1, 1) := by decide +kernel
theorem dX7_begin_53 : decode cX7_begin 53 = .ok (.ishl, 1) := by decide +kernel
theorem dX7_begin_54 : decode cX7_begin 54 = .ok (.iconst 1, 1) := by decide +kernel
theorem dX7_begin_55 : decode cX7_begin 55 = .ok (.isub, 1) := by decide +kernel
theorem dX7_begin_56 : decode cX7_begin 56 = .ok (.iastore, 1) := by decide +kernel
theorem dX7_begin_57 : decode cX7_begin 57 = .ok (.bipush 12, 2) := by decide +kernel
theorem dX7_begin_59 : decode cX7_begin 59 = .ok (.istore_n 3, 1) := by decide +kernel
theorem dX7_begin_60 : decode cX7_begin 60 = .ok (.iload_n 3, 1) := by decide +kernel
theorem dX7_begin_61 : decode cX7_begin 61 = .ok (.sipush 268, 3) := by decide +kernel
theorem dX7_begin_64 : decode cX7_begin 64 = .ok (.if_icmp .ge 16, 3) := by decide +kernel
theorem dX7_begin_67 : decode cX7_begin 67 = .ok (.aload_n 0, 1) := by decide +kernel
theorem dX7_begin_68 : decode cX7_begin 68 = .ok (.getfield 7, 3) := by decide +kernel
theorem dX7_begin_71 : decode cX7_begin 71 = .ok (.iload_n 3, 1) := by decide +kernel
theorem dX7_begin_72 : decode cX7_begin 72 = .ok (.iconst 0, 1) := by decide +kernel
theorem dX7_begin_73 : decode cX7_begin 73 = .ok (.iastore, 1) := by decide +kernel
theorem dX7_begin_74 : decode cX7_begin 74 = .ok (.iinc 3 1, 3) := by decide +kernel
theorem dX7_begin_77 : decode cX7_begin 77 = .ok (.goto (-17), 3) := by decide +kernel
theorem dX7_begin_80 : decode cX7_begin 80 = .ok (.iload_n 2, 1) := by decide +kernel
theorem dX7_begin_81 : decode cX7_begin 81 = .ok (.ireturn, 1) := by decide +kernel
set_option maxRecDepth 20000 in
theorem ggX7_set_X7_isOutput : GoodIn wsX7_set wsX7_isOutput := goodIn_r _ [5, 6, 7, 4, 8] (by decide +kernel) (by decide +kernel)
set_option maxRecDepth 20000 in
theorem gX7_set_X7_isOutput : GoodIn wsX7_set (va_wsS RX7 110 yX7_isOutput wsX7_isOutput) := goodIn_app (goodIn_of _ (by decide +kernel)) ggX7_set_X7_isOutput
set_option maxRecDepth 20000 in
theorem ggX7_set_X7_isRow : GoodIn wsX7_set wsX7_isRow := goodIn_r _ [12, 13, 14, 15, 4, 16, 17, 6, 7, 8, 32, 33, 34, 35, 36, 37, 38, 39, 40, 41, 42, 43, 44, 45, 46, 47] (by decide +kernel) (by decide +kernel)
set_option maxRecDepth 20000 in
theorem gX7_set_X7_isRow : GoodIn wsX7_set (wsV RX7 113 RX7 yX7_isRow wsX7_isRow) := goodIn_app (goodIn_of _ (by decide +kernel)) ggX7_set_X7_isRow
set_option maxRecDepth 20000 in
theorem ggX7_set_X7_within : GoodIn wsX7_set wsX7_within := goodIn_r _ [8] (by decide +kernel) (by decide +kernel)
set_option maxRecDepth 20000 in
theorem gX7_set_X7_within : GoodIn wsX7_set (va_wsS RX7 49 yX7_within wsX7_within) := goodIn_app (goodIn_of _ (by decide +kernel)) ggX7_set_X7_within
set_option maxRecDepth 20000 in
theorem ggX7_set_X7_save : GoodIn wsX7_set wsX7_save := goodIn_r _ [21, 22, 23, 17, 32, 33, 34, 35, 36, 37, 38, 39, 40, 41, 42, 43, 44, 45, 46, 47] (by decide +kernel) (by decide +kernel)
set_option maxRecDepth 20000 in
theorem gX7_set_X7_save : GoodIn wsX7_set (wsV RX7 107 RX7 yX7_save wsX7_save) := goodIn_app (goodIn_of _ (by decide +kernel)) ggX7_set_X7_save
set_option maxRecDepth 20000 in
theorem ggX7_set_X7_truth : GoodIn wsX7_set wsX7_truth := goodIn_r _ [27, 17, 32, 33, 34, 35, 36, 37, 38, 39, 40, 41, 42, 43, 44, 45, 46, 47] (by decide +kernel) (by decide +kernel)
set_option maxRecDepth 20000 in
theorem gX7_set_X7_truth : GoodIn wsX7_set (wsV RX7 53 RX7 yX7_truth wsX7_truth) := goodIn_app (goodIn_of _ (by decide +kernel)) ggX7_set_X7_truth
set_option maxRecDepth 20000 in
theorem ggX7_set_X7_setTruth : GoodIn wsX7_set wsX7_setTruth := goodIn_r _ [31, 17, 32, 33, 34, 35, 36, 37, 38, 39, 40, 41, 42, 43, 44, 45, 46, 47] (by decide +kernel) (by decide +kernel)
set_option maxRecDepth 20000 in
theorem gX7_set_X7_setTruth : GoodIn wsX7_set (wsV RX7 116 RX7 yX7_setTruth wsX7_setTruth) := goodIn_app (goodIn_of _ (by decide +kernel)) ggX7_set_X7_setTruth
theorem dX7_set_0 : decode cX7_set 0 = .ok (.aload_n 0, 1) := by decide +kernel
theorem dX7_set_1 : decode cX7_set 1 = .ok (.iload_n 1, 1) := by decide +kernel
theorem dX7_set_2 : decode cX7_set 2 = .ok (.invokestatic 110, 3) := by decide +kernel
theorem dX7_set_5 : decode cX7_set 5 = .ok (.ifCond .eq 11, 3) := by decide +kernel
theorem dX7_set_8 : decode cX7_set 8 = .ok (.aload_n 0, 1) := by decide +kernel
theorem dX7_set_9 : decode cX7_set 9 = .ok (.iload_n 2, 1) := by decide +kernel
theorem dX7_set_10 : decode cX7_set 10 = .ok (.invokevirtual 113, 3) := by decide +kernel
theorem dX7_set_13 : decode cX7_set 13 = .ok (.ifCond .ne 7, 3) := by decide +kernel
theorem dX7_set_16 : decode cX7_set 16 = .ok (.iconst 1, 1) := by decide +kernel
theorem dX7_set_17 : decode cX7_set 17 = .ok (.goto 17, 3) := by decide +kernel
theorem dX7_set_20 : decode cX7_set 20 = .ok (.iload_n 3, 1) := by decide +kernel
theorem dX7_set_21 : decode cX7_set 21 = .ok (.iconst 0, 1) := by decide +kernel
theorem dX7_set_22 : decode cX7_set 22 = .ok (.iconst 2, 1) := by decide +kernel
theorem dX7_set_23 : decode cX7_set 23 = .ok (.invokestatic 49, 3) := by decide +kernel
theorem dX7_set_26 : decode cX7_set 26 = .ok (.ifCond .eq 7, 3) := by decide +kernel
theorem dX7_set_29 : decode cX7_set 29 = .ok (.iconst 0, 1) := by decide +kernel
theorem dX7_set_30 : decode cX7_set 30 = .ok (.goto 4, 3) := by decide +kernel
theorem dX7_set_33 : decode cX7_set 33 = .ok (.iconst 2, 1) := by decide +kernel
theorem dX7_set_34 : decode cX7_set 34 = .ok (.putfield 38, 3) := by decide +kernel
theorem dX7_set_37 : decode cX7_set 37 = .ok (.aload_n 0, 1) := by decide +kernel
theorem dX7_set_38 : decode cX7_set 38 = .ok (.getfield 38, 3) := by decide +kernel
theorem dX7_set_41 : decode cX7_set 41 = .ok (.ifCond .le 5, 3) := by decide +kernel
theorem dX7_set_44 : decode cX7_set 44 = .ok (.iconst 0, 1) := by decide +kernel
theorem dX7_set_45 : decode cX7_set 45 = .ok (.ireturn, 1) := by decide +kernel
theorem dX7_set_46 : decode cX7_set 46 = .ok (.aload_n 0, 1) := by decide +kernel
theorem dX7_set_47 : decode cX7_set 47 = .ok (.invokevirtual 107, 3) := by decide +kernel
theorem dX7_set_50 : decode cX7_set 50 = .ok (.aload_n 0, 1) := by decide +kernel
theorem dX7_set_51 : decode cX7_set 51 = .ok (.iload_n 1, 1) := by decide +kernel
theorem dX7_set_52 : decode cX7_set 52 = .ok (.iload_n 2, 1) := by decide +kernel
theorem dX7_set_53 : decode cX7_set 53 = .ok (.invokevirtual 53, 3) := by decide +kernel
theorem dX7_set_56 : decode cX7_set 56 = .ok (.istore 4, 2) := by decide +kernel
theorem dX7_set_58 : decode cX7_set 58 = .ok (.aload_n 0, 1) := by decide +kernel
theorem dX7_set_59 : decode cX7_set 59 = .ok (.iload_n 1, 1) := by decide +kernel
theorem dX7_set_60 : decode cX7_set 60 = .ok (.iload_n 2, 1) := by decide +kernel
theorem dX7_set_61 : decode cX7_set 61 = .ok (.iload_n 3, 1) := by decide +kernel
theorem dX7_set_62 : decode cX7_set 62 = .ok (.invokevirtual 116, 3) := by decide +kernel
theorem dX7_set_65 : decode cX7_set 65 = .ok (.iload 4, 2) := by decide +kernel
theorem dX7_set_67 : decode cX7_set 67 = .ok (.ireturn, 1) := by decide +kernel
set_option maxRecDepth 20000 in
theorem ggX7_truthsOf_X7_rows : GoodIn wsX7_truthsOf wsX7_rows := goodIn_r _ [5, 6, 11, 12, 13, 14, 15, 16, 17, 18, 19, 20, 21, 22, 23, 24, 25, 26] (by decide +kernel) (by decide +kernel)
set_option maxRecDepth 20000 in
theorem gX7_truthsOf_X7_rows : GoodIn wsX7_truthsOf (wsV RX7 45 RX7 yX7_rows wsX7_rows) := goodIn_app (goodIn_of _ (by decide +kernel)) ggX7_truthsOf_X7_rows
set_option maxRecDepth 20000 in
theorem ggX7_truthsOf_X7_truth : GoodIn wsX7_truthsOf wsX7_truth := goodIn_r _ [10, 6, 11, 12, 13, 14, 15, 16, 17, 18, 19, 20, 21, 22, 23, 24, 25, 26] (by decide +kernel) (by decide +kernel)
set_option maxRecDepth 20000 in
theorem gX7_truthsOf_X7_truth : GoodIn wsX7_truthsOf (wsV RX7 53 RX7 yX7_truth wsX7_truth) := goodIn_app (goodIn_of _ (by decide +kernel)) ggX7_truthsOf_X7_truth
theorem dX7_truthsOf_0 : decode cX7_truthsOf 0 = .ok (.iconst 0, 1) := by decide +kernel
theorem dX7_truthsOf_1 : decode cX7_truthsOf 1 = .ok (.istore_n 3, 1) := by decide +kernel
theorem dX7_truthsOf_2 : decode cX7_truthsOf 2 = .ok (.iconst 0, 1) := by decide +kernel
theorem dX7_truthsOf_3 : decode cX7_truthsOf 3 = .ok (.istore 4, 2) := by decide +kernel
theorem dX7_truthsOf_5 : decode cX7_truthsOf 5 = .ok (.iload 4, 2) := by decide +kernel
theorem dX7_truthsOf_7 : decode cX7_truthsOf 7 = .ok (.aload_n 0, 1) := by decide +kernel
theorem dX7_truthsOf_8 : decode cX7_truthsOf 8 = .ok (.invokevirtual 45, 3) := by decide +kernel
theorem dX7_truthsOf_11 : decode cX7_truthsOf 11 = .ok (.if_icmp .ge 28, 3) := by decide +kernel
theorem dX7_truthsOf_14 : decode cX7_truthsOf 14 = .ok (.iload_n 3, 1) := by decide +kernel
theorem dX7_truthsOf_15 : decode cX7_truthsOf 15 = .ok (.aload_n 0, 1) := by decide +kernel
theorem dX7_truthsOf_16 : decode cX7_truthsOf 16 = .ok (.iload_n 1, 1) := by decide +kernel
theorem dX7_truthsOf_17 : decode cX7_truthsOf 17 = .ok (.iload 4, 2) := by decide +kernel
theorem dX7_truthsOf_19 : decode cX7_truthsOf 19 = .ok (.invokevirtual 53, 3) := by decide +kernel
theorem dX7_truthsOf_22 : decode cX7_truthsOf 22 = .ok (.iload_n 2, 1) := by decide +kernel
theorem dX7_truthsOf_23 : decode cX7_truthsOf 23 = .ok (.if_icmp .ne 7, 3) := by decide +kernel
theorem dX7_truthsOf_26 : decode cX7_truthsOf 26 = .ok (.iconst 1, 1) := by decide +kernel
theorem dX7_truthsOf_27 : decode cX7_truthsOf 27 = .ok (.goto 4, 3) := by decide +kernel
theorem dX7_truthsOf_30 : decode cX7_truthsOf 30 = .ok (.iconst 0, 1) := by decide +kernel
theorem dX7_truthsOf_31 : decode cX7_truthsOf 31 = .ok (.iadd, 1) := by decide +kernel
theorem dX7_truthsOf_32 : decode cX7_truthsOf 32 = .ok (.istore_n 3, 1) := by decide +kernel
theorem dX7_truthsOf_33 : decode cX7_truthsOf 33 = .ok (.iinc 4 1, 3) := by decide +kernel
theorem dX7_truthsOf_36 : decode cX7_truthsOf 36 = .ok (.goto (-31), 3) := by decide +kernel
theorem dX7_truthsOf_39 : decode cX7_truthsOf 39 = .ok (.iload_n 3, 1) := by decide +kernel
theorem dX7_truthsOf_40 : decode cX7_truthsOf 40 = .ok (.ireturn, 1) := by decide +kernel
set_option maxRecDepth 20000 in
theorem ggX7_invert_X7_isOutput : GoodIn wsX7_invert wsX7_isOutput := goodIn_r _ [5, 6, 7, 4, 8] (by decide +kernel) (by decide +kernel)
set_option maxRecDepth 20000 in
theorem gX7_invert_X7_isOutput : GoodIn wsX7_invert (va_wsS RX7 110 yX7_isOutput wsX7_isOutput) := goodIn_app (goodIn_of _ (by decide +kernel)) ggX7_invert_X7_isOutput
set_option maxRecDepth 20000 in
theorem ggX7_invert_X7_save : GoodIn wsX7_invert wsX7_save := goodIn_r _ [12, 13, 14, 15, 32, 33, 34, 35, 36, 37, 38, 39, 40, 41, 42, 43, 44, 45, 46, 47] (by decide +kernel) (by decide +kernel)
set_option maxRecDepth 20000 in
theorem gX7_invert_X7_save : GoodIn wsX7_invert (wsV RX7 107 RX7 yX7_save wsX7_save) := goodIn_app (goodIn_of _ (by decide +kernel)) ggX7_invert_X7_save
set_option maxRecDepth 20000 in
theorem ggX7_invert_X7_rows : GoodIn wsX7_invert wsX7_rows := goodIn_r _ [19, 15, 32, 33, 34, 35, 36, 37, 38, 39, 40, 41, 42, 43, 44, 45, 46, 47] (by decide +kernel) (by decide +kernel)
set_option maxRecDepth 20000 in
theorem gX7_invert_X7_rows : GoodIn wsX7_invert (wsV RX7 45 RX7 yX7_rows wsX7_rows) := goodIn_app (goodIn_of _ (by decide +kernel)) ggX7_invert_X7_rows
set_option maxRecDepth 20000 in
theorem ggX7_invert_X7_truth : GoodIn wsX7_invert wsX7_truth := goodIn_r _ [23, 15, 32, 33, 34, 35, 36, 37, 38, 39, 40, 41, 42, 43, 44, 45, 46, 47] (by decide +kernel) (by decide +kernel)
set_option maxRecDepth 20000 in
theorem gX7_invert_X7_truth : GoodIn wsX7_invert (wsV RX7 53 RX7 yX7_truth wsX7_truth) := goodIn_app (goodIn_of _ (by decide +kernel)) ggX7_invert_X7_truth
set_option maxRecDepth 20000 in
theorem ggX7_invert_X7_setTruth : GoodIn wsX7_invert wsX7_setTruth := goodIn_r _ [27, 15, 32, 33, 34, 35, 36, 37, 38, 39, 40, 41, 42, 43, 44, 45, 46, 47] (by decide +kernel) (by decide +kernel)
set_option maxRecDepth 20000 in
theorem gX7_invert_X7_setTruth : GoodIn wsX7_invert (wsV RX7 116 RX7 yX7_setTruth wsX7_setTruth) := goodIn_app (goodIn_of _ (by decide +kernel)) ggX7_invert_X7_setTruth
set_option maxRecDepth 20000 in
theorem ggX7_invert_X7_truthsOf : GoodIn wsX7_invert wsX7_truthsOf := goodIn_r _ [31, 16, 17, 18, 4, 19, 15, 20, 21, 22, 23, 32, 33, 34, 35, 36, 37, 38, 39, 40, 41, 42, 43, 44, 45, 46, 47] (by decide +kernel) (by decide +kernel)
set_option maxRecDepth 20000 in
theorem gX7_invert_X7_truthsOf : GoodIn wsX7_invert (wsV RX7 120 RX7 yX7_truthsOf wsX7_truthsOf) := goodIn_app (goodIn_of _ (by decide +kernel)) ggX7_invert_X7_truthsOf
theorem dX7_invert_0 : decode cX7_invert 0 = .ok (.aload_n 0, 1) := by decide +kernel
theorem dX7_invert_1 : decode cX7_invert 1 = .ok (.iload_n 1, 1) := by decide +kernel
theorem dX7_invert_2 : decode cX7_invert 2 = .ok (.invokestatic 110, 3) := by decide +kernel
theorem dX7_invert_5 : decode cX7_invert 5 = .ok (.ifCond .eq 7, 3) := by decide +kernel
theorem dX7_invert_8 : decode cX7_invert 8 = .ok (.iconst 0, 1) := by decide +kernel
theorem dX7_invert_9 : decode cX7_invert 9 = .ok (.goto 4, 3) := by decide +kernel
theorem dX7_invert_12 : decode cX7_invert 12 = .ok (.iconst 1, 1) := by decide +kernel
theorem dX7_invert_13 : decode cX7_invert 13 = .ok (.putfield 38, 3) := by decide +kernel
theorem dX7_invert_16 : decode cX7_invert 16 = .ok (.aload_n 0, 1) := by decide +kernel
theorem dX7_invert_17 : decode cX7_invert 17 = .ok (.getfield 38, 3) := by decide +kernel
theorem dX7_invert_20 : decode cX7_invert 20 = .ok (.ifCond .le 5, 3) := by decide +kernel
theorem dX7_invert_23 : decode cX7_invert 23 = .ok (.iconst 0, 1) := by decide +kernel
theorem dX7_invert_24 : decode cX7_invert 24 = .ok (.ireturn, 1) := by decide +kernel
theorem dX7_invert_25 : decode cX7_invert 25 = .ok (.aload_n 0, 1) := by decide +kernel
theorem dX7_invert_26 : decode cX7_invert 26 = .ok (.invokevirtual 107, 3) := by decide +kernel
theorem dX7_invert_29 : decode cX7_invert 29 = .ok (.iconst 0, 1) := by decide +kernel
theorem dX7_invert_30 : decode cX7_invert 30 = .ok (.istore_n 2, 1) := by decide +kernel
theorem dX7_invert_31 : decode cX7_invert 31 = .ok (.iload_n 2, 1) := by decide +kernel
theorem dX7_invert_32 : decode cX7_invert 32 = .ok (.aload_n 0, 1) := by decide +kernel
theorem dX7_invert_33 : decode cX7_invert 33 = .ok (.invokevirtual 45, 3) := by decide +kernel
theorem dX7_invert_36 : decode cX7_invert 36 = .ok (.if_icmp .ge 34, 3) := by decide +kernel
theorem dX7_invert_39 : decode cX7_invert 39 = .ok (.aload_n 0, 1) := by decide +kernel
theorem dX7_invert_40 : decode cX7_invert 40 = .ok (.iload_n 1, 1) := by decide +kernel
theorem dX7_invert_41 : decode cX7_invert 41 = .ok (.iload_n 2, 1) := by decide +kernel
theorem dX7_invert_42 : decode cX7_invert 42 = .ok (.invokevirtual 53, 3) := by decide +kernel
theorem dX7_invert_45 : decode cX7_invert 45 = .ok (.istore_n 3, 1) := by decide +kernel
theorem dX7_invert_46 : decode cX7_invert 46 = .ok (.aload_n 0, 1) := by decide +kernel
theorem dX7_invert_47 : decode cX7_invert 47 = .ok (.iload_n 1, 1) := by decide +kernel
theorem dX7_invert_48 : decode cX7_invert 48 = .ok (.iload_n 2, 1) := by decide +kernel
theorem dX7_invert_49 : decode cX7_invert 49 = .ok (.iload_n 3, 1) := by decide +kernel
theorem dX7_invert_50 : decode cX7_invert 50 = .ok (.iconst 2, 1) := by decide +kernel
theorem dX7_invert_51 : decode cX7_invert 51 = .ok (.if_icmp .ne 7, 3) := by decide +kernel
theorem dX7_invert_54 : decode cX7_invert 54 = .ok (.iconst 2, 1) := by decide +kernel
theorem dX7_invert_55 : decode cX7_invert 55 = .ok (.goto 6, 3) := by decide +kernel
theorem dX7_invert_58 : decode cX7_invert 58 = .ok (.iconst 1, 1) := by decide +kernel
theorem dX7_invert_59 : decode cX7_invert 59 = .ok (.iload_n 3, 1) := by decide +kernel
theorem dX7_invert_60 : decode cX7_invert 60 = .ok (.isub, 1) := by decide +kernel
theorem dX7_invert_61 : decode cX7_invert 61 = .ok (.invokevirtual 116, 3) := by decide +kernel
theorem dX7_invert_64 : decode cX7_invert 64 = .ok (.iinc 2 1, 3) := by decide +kernel
theorem dX7_invert_67 : decode cX7_invert 67 = .ok (.goto (-36), 3) := by decide +kernel
theorem dX7_invert_70 : decode cX7_invert 70 = .ok (.aload_n 0, 1) := by decide +kernel
theorem dX7_invert_71 : decode cX7_invert 71 = .ok (.iload_n 1, 1) := by decide +kernel
theorem dX7_invert_72 : decode cX7_invert 72 = .ok (.iconst 1, 1) := by decide +kernel
theorem dX7_invert_73 : decode cX7_invert 73 = .ok (.invokevirtual 120, 3) := by decide +kernel
theorem dX7_invert_76 : decode cX7_invert 76 = .ok (.ireturn, 1) := by decide +kernel
set_option maxRecDepth 20000 in
theorem ggX7_join_X7_isOutput : GoodIn wsX7_join wsX7_isOutput := goodIn_r _ [5, 6, 7, 4, 8] (by decide +kernel) (by decide +kernel)
set_option maxRecDepth 20000 in
theorem gX7_join_X7_isOutput : GoodIn wsX7_join (va_wsS RX7 110 yX7_isOutput wsX7_isOutput) := goodIn_app (goodIn_of _ (by decide +kernel)) ggX7_join_X7_isOutput
set_option maxRecDepth 20000 in
theorem ggX7_join_X7_save : GoodIn wsX7_join wsX7_save := goodIn_r _ [12, 13, 14, 15, 32, 33, 34, 35, 36, 37, 38, 39, 40, 41, 42, 43, 44, 45, 46, 47] (by decide +kernel) (by decide +kernel)
set_option maxRecDepth 20000 in
theorem gX7_join_X7_save : GoodIn wsX7_join (wsV RX7 107 RX7 yX7_save wsX7_save) := goodIn_app (goodIn_of _ (by decide +kernel)) ggX7_join_X7_save
set_option maxRecDepth 20000 in
theorem ggX7_join_X7_rows : GoodIn wsX7_join wsX7_rows := goodIn_r _ [19, 15, 32, 33, 34, 35, 36, 37, 38, 39, 40, 41, 42, 43, 44, 45, 46, 47] (by decide +kernel) (by decide +kernel)
set_option maxRecDepth 20000 in
theorem gX7_join_X7_rows : GoodIn wsX7_join (wsV RX7 45 RX7 yX7_rows wsX7_rows) := goodIn_app (goodIn_of _ (by decide +kernel)) ggX7_join_X7_rows
set_option maxRecDepth 20000 in
theorem ggX7_join_X7_truth : GoodIn wsX7_join wsX7_truth := goodIn_r _ [23, 15, 32, 33, 34, 35, 36, 37, 38, 39, 40, 41, 42, 43, 44, 45, 46, 47] (by decide +kernel) (by decide +kernel)
set_option maxRecDepth 20000 in
theorem gX7_join_X7_truth : GoodIn wsX7_join (wsV RX7 53 RX7 yX7_truth wsX7_truth) := goodIn_app (goodIn_of _ (by decide +kernel)) ggX7_join_X7_truth
set_option maxRecDepth 20000 in
theorem ggX7_join_X7_setTruth : GoodIn wsX7_join wsX7_setTruth := goodIn_r _ [27, 15, 32, 33, 34, 35, 36, 37, 38, 39, 40, 41, 42, 43, 44, 45, 46, 47] (by decide +kernel) (by decide +kernel)
set_option maxRecDepth 20000 in
theorem gX7_join_X7_setTruth : GoodIn wsX7_join (wsV RX7 116 RX7 yX7_setTruth wsX7_setTruth) := goodIn_app (goodIn_of _ (by decide +kernel)) ggX7_join_X7_setTruth
set_option maxRecDepth 20000 in
theorem ggX7_join_X7_truthsOf : GoodIn wsX7_join wsX7_truthsOf := goodIn_r _ [31, 16, 17, 18, 4, 19, 15, 20, 21, 22, 23, 32, 33, 34, 35, 36, 37, 38, 39, 40, 41, 42, 43, 44, 45, 46, 47] (by decide +kernel) (by decide +kernel)
set_option maxRecDepth 20000 in
theorem gX7_join_X7_truthsOf : GoodIn wsX7_join (wsV RX7 120 RX7 yX7_truthsOf wsX7_truthsOf) := goodIn_app (goodIn_of _ (by decide +kernel)) ggX7_join_X7_truthsOf
theorem dX7_join_0 : decode cX7_join 0 = .ok (.aload_n 0, 1) := by decide +kernel
theorem dX7_join_1 : decode cX7_join 1 = .ok (.iload_n 1, 1) := by decide +kernel
theorem dX7_join_2 : decode cX7_join 2 = .ok (.invokestatic 110, 3) := by decide +kernel
theorem dX7_join_5 : decode cX7_join 5 = .ok (.ifCond .eq 10, 3) := by decide +kernel
theorem dX7_join_8 : decode cX7_join 8 = .ok (.iload_n 2, 1) := by decide +kernel
theorem dX7_join_9 : decode cX7_join 9 = .ok (.invokestatic 110, 3) := by decide +kernel
theorem dX7_join_12 : decode cX7_join 12 = .ok (.ifCond .ne 7, 3) := by decide +kernel
theorem dX7_join_15 : decode cX7_join 15 = .ok (.iconst 1, 1) := by decide +kernel
theorem dX7_join_16 : decode cX7_join 16 = .ok (.goto 13, 3) := by decide +kernel
theorem dX7_join_19 : decode cX7_join 19 = .ok (.iload_n 1, 1) := by decide +kernel
theorem dX7_join_20 : decode cX7_join 20 = .ok (.iload_n 2, 1) := by decide +kernel
theorem dX7_join_21 : decode cX7_join 21 = .ok (.if_icmp .ne 7, 3) := by decide +kernel
theorem dX7_join_24 : decode cX7_join 24 = .ok (.iconst 2, 1) := by decide +kernel
theorem dX7_join_25 : decode cX7_join 25 = .ok (.goto 4, 3) := by decide +kernel
theorem dX7_join_28 : decode cX7_join 28 = .ok (.iconst 0, 1) := by decide +kernel
theorem dX7_join_29 : decode cX7_join 29 = .ok (.putfield 38, 3) := by decide +kernel
theorem dX7_join_32 : decode cX7_join 32 = .ok (.aload_n 0, 1) := by decide +kernel
theorem dX7_join_33 : decode cX7_join 33 = .ok (.getfield 38, 3) := by decide +kernel
theorem dX7_join_36 : decode cX7_join 36 = .ok (.ifCond .le 5, 3) := by decide +kernel
theorem dX7_join_39 : decode cX7_join 39 = .ok (.iconst 0, 1) := by decide +kernel
theorem dX7_join_40 : decode cX7_join 40 = .ok (.ireturn, 1) := by decide +kernel
theorem dX7_join_41 : decode cX7_join 41 = .ok (.aload_n 0, 1) := by decide +kernel
theorem dX7_join_42 : decode cX7_join 42 = .ok (.invokevirtual 107, 3) := by decide +kernel
theorem dX7_join_45 : decode cX7_join 45 = .ok (.iconst 0, 1) := by decide +kernel
theorem dX7_join_46 : decode cX7_join 46 = .ok (.istore_n 3, 1) := by decide +kernel
theorem dX7_join_47 : decode cX7_join 47 = .ok (.iload_n 3, 1) := by decide +kernel
theorem dX7_join_48 : decode cX7_join 48 = .ok (.aload_n 0, 1) := by decide +kernel
theorem dX7_join_49 : decode cX7_join 49 = .ok (.invokevirtual 45, 3) := by decide +kernel
theorem dX7_join_52 : decode cX7_join 52 = .ok (.if_icmp .ge 64, 3) := by decide +kernel
theorem dX7_join_55 : decode cX7_join 55 = .ok (.aload_n 0, 1) := by decide +kernel
theorem dX7_join_56 : decode cX7_join 56 = .ok (.iload_n 1, 1) := by decide +kernel
theorem dX7_join_57 : decode cX7_join 57 = .ok (.iload_n 3, 1) := by decide +kernel
theorem dX7_join_58 : decode cX7_join 58 = .ok (.invokevirtual 53, 3) := by decide +kernel
theorem dX7_join_61 : decode cX7_join 61 = .ok (.istore 4, 2) := by decide +kernel
theorem dX7_join_63 : decode cX7_join 63 = .ok (.aload_n 0, 1) := by decide +kernel
theorem dX7_join_64 : decode cX7_join 64 = .ok (.iload_n 2, 1) := by decide +kernel
theorem dX7_join_65 : decode cX7_join 65 = .ok (.iload_n 3, 1) := by decide +kernel
theorem dX7_join_66 : decode cX7_join 66 = .ok (.invokevirtual 53, 3) := by decide +kernel
theorem dX7_join_69 : decode cX7_join 69 = .ok (.istore 5, 2) := by decide +kernel
theorem dX7_join_71 : decode cX7_join 71 = .ok (.aload_n 0, 1) := by decide +kernel
theorem dX7_join_72 : decode cX7_join 72 = .ok (.iload_n 1, 1) := by decide +kernel
theorem dX7_join_73 : decode cX7_join 73 = .ok (.iload_n 3, 1) := by decide +kernel
theorem dX7_join_74 : decode cX7_join 74 = .ok (.iload 4, 2) := by decide +kernel
theorem dX7_join_76 : decode cX7_join 76 = .ok (.iconst 1, 1) := by decide +kernel
theorem dX7_join_77 : decode cX7_join 77 = .ok (.if_icmp .eq 9, 3) := by decide +kernel
theorem dX7_join_80 : decode cX7_join 80 = .ok (.iload 5, 2) := by decide +kernel
theorem dX7_join_82 : decode cX7_join 82 = .ok (.iconst 1, 1) := by decide +kernel
theorem dX7_join_83 : decode cX7_join 83 = .ok (.if_icmp .ne 7, 3) := by decide +kernel
theorem dX7_join_86 : decode cX7_join 86 = .ok (.iconst 1, 1) := by decide +kernel
theorem dX7_join_87 : decode cX7_join 87 = .ok (.goto 20, 3) := by decide +kernel
theorem dX7_join_90 : decode cX7_join 90 = .ok (.iload 4, 2) := by decide +kernel
theorem dX7_join_92 : decode cX7_join 92 = .ok (.iconst 2, 1) := by decide +kernel
theorem dX7_join_93 : decode cX7_join 93 = .ok (.if_icmp .eq 9, 3) := by decide +kernel
theorem dX7_join_96 : decode cX7_join 96 = .ok (.iload 5, 2) := by decide +kernel
theorem dX7_join_98 : decode cX7_join 98 = .ok (.iconst 2, 1) := by decide +kernel
theorem dX7_join_99 : decode cX7_join 99 = .ok (.if_icmp .ne 7, 3) := by decide +kernel
theorem dX7_join_102 : decode cX7_join 102 = .ok (.iconst 2, 1) := by decide +kernel
theorem dX7_join_103 : decode cX7_join 103 = .ok (.goto 4, 3) := by decide +kernel
theorem dX7_join_106 : decode cX7_join 106 = .ok (.iconst 0, 1) := by decide +kernel
theorem dX7_join_107 : decode cX7_join 107 = .ok (.invokevirtual 116, 3) := by decide +kernel
theorem dX7_join_110 : decode cX7_join 110 = .ok (.iinc 3 1, 3) := by decide +kernel
theorem dX7_join_113 : decode cX7_join 113 = .ok (.goto (-66), 3) := by decide +kernel
theorem dX7_join_116 : decode cX7_join 116 = .ok (.aload_n 0, 1) := by decide +kernel
theorem dX7_join_117 : decode cX7_join 117 = .ok (.iload_n 1, 1) := by decide +kernel
theorem dX7_join_118 : decode cX7_join 118 = .ok (.iconst 1, 1) := by decide +kernel
theorem dX7_join_119 : decode cX7_join 119 = .ok (.invokevirtual 120, 3) := by decide +kernel
theorem dX7_join_122 : decode cX7_join 122 = .ok (.ireturn, 1) := by decide +kernel
theorem dX7_isKnown_0 : decode cX7_isKnown 0 = .ok (.aload_n 0, 1) := by decide +kernel
theorem dX7_isKnown_1 : decode cX7_isKnown 1 = .ok (.getfield 7, 3) := by decide +kernel
theorem dX7_isKnown_4 : decode cX7_isKnown 4 = .ok (.iconst 1, 1) := by decide +kernel
theorem dX7_isKnown_5 : decode cX7_isKnown 5 = .ok (.iaload, 1) := by decide +kernel
theorem dX7_isKnown_6 : decode cX7_isKnown 6 = .ok (.iload_n 1, 1) := by decide +kernel
theorem dX7_isKnown_7 : decode cX7_isKnown 7 = .ok (.ishr, 1) := by decide +kernel
theorem dX7_isKnown_8 : decode cX7_isKnown 8 = .ok (.iconst 1, 1) := by decide +kernel
theorem dX7_isKnown_9 : decode cX7_isKnown 9 = .ok (.iand, 1) := by decide +kernel
theorem dX7_isKnown_10 : decode cX7_isKnown 10 = .ok (.iconst 1, 1) := by decide +kernel
theorem dX7_isKnown_11 : decode cX7_isKnown 11 = .ok (.if_icmp .ne 7, 3) := by decide +kernel
theorem dX7_isKnown_14 : decode cX7_isKnown 14 = .ok (.iconst 1, 1) := by decide +kernel
theorem dX7_isKnown_15 : decode cX7_isKnown 15 = .ok (.goto 4, 3) := by decide +kernel
theorem dX7_isKnown_18 : decode cX7_isKnown 18 = .ok (.iconst 0, 1) := by decide +kernel
theorem dX7_isKnown_19 : decode cX7_isKnown 19 = .ok (.ireturn, 1) := by decide +kernel
set_option maxRecDepth 20000 in
theorem ggX7_forget_X7_isInput : GoodIn wsX7_forget wsX7_isInput := goodIn_r _ [7, 2, 8, 9, 6, 10, 41, 42, 43, 44, 45, 46, 47, 48, 49, 50, 51, 52, 53, 54, 55, 56] (by decide +kernel) (by decide +kernel)
set_option maxRecDepth 20000 in
theorem gX7_forget_X7_isInput : GoodIn wsX7_forget (wsV RX7 123 RX7 yX7_isInput wsX7_isInput) := goodIn_app (goodIn_of _ (by decide +kernel)) ggX7_forget_X7_isInput
set_option maxRecDepth 20000 in
theorem ggX7_forget_X7_isKnown : GoodIn wsX7_forget wsX7_isKnown := goodIn_r _ [14, 2, 41, 42, 43, 44, 45, 46, 47, 48, 49, 50, 51, 52, 53, 54, 55, 56] (by decide +kernel) (by decide +kernel)
set_option maxRecDepth 20000 in
theorem gX7_forget_X7_isKnown : GoodIn wsX7_forget (wsV RX7 126 RX7 yX7_isKnown wsX7_isKnown) := goodIn_app (goodIn_of _ (by decide +kernel)) ggX7_forget_X7_isKnown
set_option maxRecDepth 20000 in
theorem ggX7_forget_X7_save : GoodIn wsX7_forget wsX7_save := goodIn_r _ [18, 19, 20, 2, 41, 42, 43, 44, 45, 46, 47, 48, 49, 50, 51, 52, 53, 54, 55, 56] (by decide +kernel) (by decide +kernel)
set_option maxRecDepth 20000 in
theorem gX7_forget_X7_save : GoodIn wsX7_forget (wsV RX7 107 RX7 yX7_save wsX7_save) := goodIn_app (goodIn_of _ (by decide +kernel)) ggX7_forget_X7_save
set_option maxRecDepth 20000 in
theorem ggX7_forget_X7_undecided : GoodIn wsX7_forget wsX7_undecided := goodIn_r _ [24, 25, 26, 27, 6, 28, 29, 30, 31, 32, 2, 33, 34, 35, 36, 37, 38, 39, 40, 41, 42, 43, 44, 45, 46, 47, 48, 49, 50, 51, 52, 53, 54, 55, 56] (by decide +kernel) (by decide +kernel)
set_option maxRecDepth 20000 in
theorem gX7_forget_X7_undecided : GoodIn wsX7_forget (wsV RX7 129 RX7 yX7_undecided wsX7_undecided) := goodIn_app (goodIn_of _ (by decide +kernel)) ggX7_forget_X7_undecided
theorem dX7_forget_0 : decode cX7_forget 0 = .ok (.aload_n 0, 1) := by decide +kernel
theorem dX7_forget_1 : decode cX7_forget 1 = .ok (.aload_n 0, 1) := by decide +kernel
theorem dX7_forget_2 : decode cX7_forget 2 = .ok (.iload_n 1, 1) := by decide +kernel
theorem dX7_forget_3 : decode cX7_forget 3 = .ok (.invokevirtual 123, 3) := by decide +kernel
theorem dX7_forget_6 : decode cX7_forget 6 = .ok (.ifCond .ne 7, 3) := by decide +kernel
theorem dX7_forget_9 : decode cX7_forget 9 = .ok (.iconst 1, 1) := by decide +kernel
theorem dX7_forget_10 : decode cX7_forget 10 = .ok (.goto 16, 3) := by decide +kernel
theorem dX7_forget_13 : decode cX7_forget 13 = .ok (.aload_n 0, 1) := by decide +kernel
theorem dX7_forget_14 : decode cX7_forget 14 = .ok (.iload_n 1, 1) := by decide +kernel
theorem dX7_forget_15 : decode cX7_forget 15 = .ok (.invokevirtual 126, 3) := by decide +kernel
theorem dX7_forget_18 : decode cX7_forget 18 = .ok (.ifCond .eq 7, 3) := by decide +kernel
theorem dX7_forget_21 : decode cX7_forget 21 = .ok (.iconst 0, 1) := by decide +kernel
theorem dX7_forget_22 : decode cX7_forget 22 = .ok (.goto 4, 3) := by decide +kernel
theorem dX7_forget_25 : decode cX7_forget 25 = .ok (.iconst 2, 1) := by decide +kernel
theorem dX7_forget_26 : decode cX7_forget 26 = .ok (.putfield 38, 3) := by decide +kernel
theorem dX7_forget_29 : decode cX7_forget 29 = .ok (.aload_n 0, 1) := by decide +kernel
theorem dX7_forget_30 : decode cX7_forget 30 = .ok (.getfield 38, 3) := by decide +kernel
theorem dX7_forget_33 : decode cX7_forget 33 = .ok (.ifCond .le 5, 3) := by decide +kernel
theorem dX7_forget_36 : decode cX7_forget 36 = .ok (.iconst 0, 1) := by decide +kernel
theorem dX7_forget_37 : decode cX7_forget 37 = .ok (.ireturn, 1) := by decide +kernel
theorem dX7_forget_38 : decode cX7_forget 38 = .ok (.aload_n 0, 1) := by decide +kernel
theorem dX7_forget_39 : decode cX7_forget 39 = .ok (.invokevirtual 107, 3) := by decide +kernel
theorem dX7_forget_42 : decode cX7_forget 42 = .ok (.aload_n 0, 1) := by decide +kernel
theorem dX7_forget_43 : decode cX7_forget 43 = .ok (.getfield 7, 3) := by decide +kernel
theorem dX7_forget_46 : decode cX7_forget 46 = .ok (.iconst 1, 1) := by decide +kernel
theorem dX7_forget_47 : decode cX7_forget 47 = .ok (.dup2, 1) := by decide +kernel
theorem dX7_forget_48 : decode cX7_forget 48 = .ok (.iaload, 1) := by decide +kernel
theorem dX7_forget_49 : decode cX7_forget 49 = .ok (.iconst 1, 1) := by decide +kernel
theorem dX7_forget_50 : decode cX7_forget 50 = .ok (.iload_n 1, 1) := by decide +kernel
theorem dX7_forget_51 : decode cX7_forget 51 = .ok (.ishl, 1) := by decide +kernel
theorem dX7_forget_52 : decode cX7_forget 52 = .ok (.iconst (-1), 1) := by decide +kernel
theorem dX7_forget_53 : decode cX7_forget 53 = .ok (.ixor, 1) := by decide +kernel
theorem dX7_forget_54 : decode cX7_forget 54 = .ok (.iand, 1) := by decide +kernel
theorem dX7_forget_55 : decode cX7_forget 55 = .ok (.iastore, 1) := by decide +kernel
theorem dX7_forget_56 : decode cX7_forget 56 = .ok (.aload_n 0, 1) := by decide +kernel
theorem dX7_forget_57 : decode cX7_forget 57 = .ok (.invokevirtual 129, 3) := by decide +kernel
theorem dX7_forget_60 : decode cX7_forget 60 = .ok (.ireturn, 1) := by decide +kernel
set_option maxRecDepth 20000 in
theorem ggX7_remember_X7_isInput : GoodIn wsX7_remember wsX7_isInput := goodIn_r _ [7, 2, 8, 9, 6, 10, 41, 42, 43, 44, 45, 46, 47, 48, 49, 50, 51, 52, 53, 54, 55, 56] (by decide +kernel) (by decide +kernel)
set_option maxRecDepth 20000 in
theorem gX7_remember_X7_isInput : GoodIn wsX7_remember (wsV RX7 123 RX7 yX7_isInput wsX7_isInput) := goodIn_app (goodIn_of _ (by decide +kernel)) ggX7_remember_X7_isInput
set_option maxRecDepth 20000 in
theorem ggX7_remember_X7_isKnown : GoodIn wsX7_remember wsX7_isKnown := goodIn_r _ [14, 2, 41, 42, 43, 44, 45, 46, 47, 48, 49, 50, 51, 52, 53, 54, 55, 56] (by decide +kernel) (by decide +kernel)
set_option maxRecDepth 20000 in
theorem gX7_remember_X7_isKnown : GoodIn wsX7_remember (wsV RX7 126 RX7 yX7_isKnown wsX7_isKnown) := goodIn_app (goodIn_of _ (by decide +kernel)) ggX7_remember_X7_isKnown
set_option maxRecDepth 20000 in
theorem ggX7_remember_X7_save : GoodIn wsX7_remember wsX7_save := goodIn_r _ [18, 19, 20, 2, 41, 42, 43, 44, 45, 46, 47, 48, 49, 50, 51, 52, 53, 54, 55, 56] (by decide +kernel) (by decide +kernel)
set_option maxRecDepth 20000 in
theorem gX7_remember_X7_save : GoodIn wsX7_remember (wsV RX7 107 RX7 yX7_save wsX7_save) := goodIn_app (goodIn_of _ (by decide +kernel)) ggX7_remember_X7_save
set_option maxRecDepth 20000 in
theorem ggX7_remember_X7_undecided : GoodIn wsX7_remember wsX7_undecided := goodIn_r _ [24, 25, 26, 27, 6, 28, 29, 30, 31, 32, 2, 33, 34, 35, 36, 37, 38, 39, 40, 41, 42, 43, 44, 45, 46, 47, 48, 49, 50, 51, 52, 53, 54, 55, 56] (by decide +kernel) (by decide +kernel)
set_option maxRecDepth 20000 in
theorem gX7_remember_X7_undecided : GoodIn wsX7_remember (wsV RX7 129 RX7 yX7_undecided wsX7_undecided) := goodIn_app (goodIn_of _ (by decide +kernel)) ggX7_remember_X7_undecided
theorem dX7_remember_0 : decode cX7_remember 0 = .ok (.aload_n 0, 1) := by decide +kernel
theorem dX7_remember_1 : decode cX7_remember 1 = .ok (.aload_n 0, 1) := by decide +kernel
theorem dX7_remember_2 : decode cX7_remember 2 = .ok (.iload_n 1, 1) := by decide +kernel
theorem dX7_remember_3 : decode cX7_remember 3 = .ok (.invokevirtual 123, 3) := by decide +kernel
theorem dX7_remember_6 : decode cX7_remember 6 = .ok (.ifCond .ne 7, 3) := by decide +kernel
theorem dX7_remember_9 : decode cX7_remember 9 = .ok (.iconst 1, 1) := by decide +kernel
theorem dX7_remember_10 : decode cX7_remember 10 = .ok (.goto 16, 3) := by decide +kernel
theorem dX7_remember_13 : decode cX7_remember 13 = .ok (.aload_n 0, 1) := by decide +kernel
theorem dX7_remember_14 : decode cX7_remember 14 = .ok (.iload_n 1, 1) := by decide +kernel
theorem dX7_remember_15 : decode cX7_remember 15 = .ok (.invokevirtual 126, 3) := by decide +kernel
theorem dX7_remember_18 : decode cX7_remember 18 = .ok (.ifCond .eq 7, 3) := by decide +kernel
theorem dX7_remember_21 : decode cX7_remember 21 = .ok (.iconst 2, 1) := by decide +kernel
theorem dX7_remember_22 : decode cX7_remember 22 = .ok (.goto 4, 3) := by decide +kernel
theorem dX7_remember_25 : decode cX7_remember 25 = .ok (.iconst 0, 1) := by decide +kernel
theorem dX7_remember_26 : decode cX7_remember 26 = .ok (.putfield 38, 3) := by decide +kernel
theorem dX7_remember_29 : decode cX7_remember 29 = .ok (.aload_n 0, 1) := by decide +kernel
theorem dX7_remember_30 : decode cX7_remember 30 = .ok (.getfield 38, 3) := by decide +kernel
theorem dX7_remember_33 : decode cX7_remember 33 = .ok (.ifCond .le 5, 3) := by decide +kernel
theorem dX7_remember_36 : decode cX7_remember 36 = .ok (.iconst 0, 1) := by decide +kernel
theorem dX7_remember_37 : decode cX7_remember 37 = .ok (.ireturn, 1) := by decide +kernel
theorem dX7_remember_38 : decode cX7_remember 38 = .ok (.aload_n 0, 1) := by decide +kernel
theorem dX7_remember_39 : decode cX7_remember 39 = .ok (.invokevirtual 107, 3) := by decide +kernel
theorem dX7_remember_42 : decode cX7_remember 42 = .ok (.aload_n 0, 1) := by decide +kernel
theorem dX7_remember_43 : decode cX7_remember 43 = .ok (.getfield 7, 3) := by decide +kernel
theorem dX7_remember_46 : decode cX7_remember 46 = .ok (.iconst 1, 1) := by decide +kernel
theorem dX7_remember_47 : decode cX7_remember 47 = .ok (.dup2, 1) := by decide +kernel
theorem dX7_remember_48 : decode cX7_remember 48 = .ok (.iaload, 1) := by decide +kernel
theorem dX7_remember_49 : decode cX7_remember 49 = .ok (.iconst 1, 1) := by decide +kernel
theorem dX7_remember_50 : decode cX7_remember 50 = .ok (.iload_n 1, 1) := by decide +kernel
theorem dX7_remember_51 : decode cX7_remember 51 = .ok (.ishl, 1) := by decide +kernel
theorem dX7_remember_52 : decode cX7_remember 52 = .ok (.ior, 1) := by decide +kernel
theorem dX7_remember_53 : decode cX7_remember 53 = .ok (.iastore, 1) := by decide +kernel
theorem dX7_remember_54 : decode cX7_remember 54 = .ok (.aload_n 0, 1) := by decide +kernel
theorem dX7_remember_55 : decode cX7_remember 55 = .ok (.invokevirtual 129, 3) := by decide +kernel
theorem dX7_remember_58 : decode cX7_remember 58 = .ok (.ireturn, 1) := by decide +kernel
set_option maxRecDepth 20000 in
theorem ggX7_undecidedWithout_X7_undecided : GoodIn wsX7_undecidedWithout wsX7_undecided := goodIn_r _ [6, 7, 8, 9, 5, 10, 11, 12, 13, 14, 1, 15, 16, 17, 18, 19, 20, 21, 22, 23, 24, 25, 26, 27, 28, 29, 30, 31, 32, 33, 34, 35, 36, 37, 38] (by decide +kernel) (by decide +kernel)
set_option maxRecDepth 20000 in
theorem gX7_undecidedWithout_X7_undecided : GoodIn wsX7_undecidedWithout (wsV RX7 129 RX7 yX7_undecided wsX7_undecided) := goodIn_app (goodIn_of _ (by decide +kernel)) ggX7_undecidedWithout_X7_undecided
theorem dX7_undecidedWithout_0 : decode cX7_undecidedWithout 0 = .ok (.aload_n 0, 1) := by decide +kernel
theorem dX7_undecidedWithout_1 : decode cX7_undecidedWithout 1 = .ok (.getfield 7, 3) := by decide +kernel
theorem dX7_undecidedWithout_4 : decode cX7_undecidedWithout 4 = .ok (.iconst 1, 1) := by decide +kernel
theorem dX7_undecidedWithout_5 : decode cX7_undecidedWithout 5 = .ok (.dup2, 1) := by decide +kernel
theorem dX7_undecidedWithout_6 : decode cX7_undecidedWithout 6 = .ok (.iaload, 1) := by decide +kernel
theorem dX7_undecidedWithout_7 : decode cX7_undecidedWithout 7 = .ok (.iconst 1, 1) := by decide +kernel
theorem dX7_undecidedWithout_8 : decode cX7_undecidedWithout 8 = .ok (.iload_n 1, 1) := by decide +kernel
theorem dX7_undecidedWithout_9 : decode cX7_undecidedWithout 9 = .ok (.ishl, 1) := by decide +kernel
theorem dX7_undecidedWithout_10 : decode cX7_undecidedWithout 10 = .ok (.iconst (-1), 1) := by decide +kernel
theorem dX7_undecidedWithout_11 : decode cX7_undecidedWithout 11 = .ok (.ixor, 1) := by decide +kernel
theorem dX7_undecidedWithout_12 : decode cX7_undecidedWithout 12 = .ok (.iand, 1) := by decide +kernel
theorem dX7_undecidedWithout_13 : decode cX7_undecidedWithout 13 = .ok (.iastore, 1) := by decide +kernel
theorem dX7_undecidedWithout_14 : decode cX7_undecidedWithout 14 = .ok (.aload_n 0, 1) := by decide +kernel
theorem dX7_undecidedWithout_15 : decode cX7_undecidedWithout 15 = .ok (.invokevirtual 129, 3) := by decide +kernel
theorem dX7_undecidedWithout_18 : decode cX7_undecidedWithout 18 = .ok (.istore_n 2, 1) := by decide +kernel
theorem dX7_undecidedWithout_19 : decode cX7_undecidedWithout 19 = .ok (.aload_n 0, 1) := by decide +kernel
theorem dX7_undecidedWithout_20 : decode cX7_undecidedWithout 20 = .ok (.getfield 7, 3) := by decide +kernel
theorem dX7_undecidedWithout_23 : decode cX7_undecidedWithout 23 = .ok (.iconst 1, 1) := by decide +kernel
theorem dX7_undecidedWithout_24 : decode cX7_undecidedWithout 24 = .ok (.dup2, 1) := by decide +kernel
theorem dX7_undecidedWithout_25 : decode cX7_undecidedWithout 25 = .ok (.iaload, 1) := by decide +kernel
theorem dX7_undecidedWithout_26 : decode cX7_undecidedWithout 26 = .ok (.iconst 1, 1) := by decide +kernel
theorem dX7_undecidedWithout_27 : decode cX7_undecidedWithout 27 = .ok (.iload_n 1, 1) := by decide +kernel
theorem dX7_undecidedWithout_28 : decode cX7_undecidedWithout 28 = .ok (.ishl, 1) := by decide +kernel
theorem dX7_undecidedWithout_29 : decode cX7_undecidedWithout 29 = .ok (.ior, 1) := by decide +kernel
theorem dX7_undecidedWithout_30 : decode cX7_undecidedWithout 30 = .ok (.iastore, 1) := by decide +kernel
theorem dX7_undecidedWithout_31 : decode cX7_undecidedWithout 31 = .ok (.iload_n 2, 1) := by decide +kernel
theorem dX7_undecidedWithout_32 : decode cX7_undecidedWithout 32 = .ok (.ireturn, 1) := by decide +kernel
set_option maxRecDepth 20000 in
theorem ggX7_hour_X7_isKnown : GoodIn wsX7_hour wsX7_isKnown := goodIn_r _ [6, 1, 31, 32, 33, 34, 35, 36, 37, 38, 39, 40, 41, 42, 43, 44, 45, 46] (by decide +kernel) (by decide +kernel)
set_option maxRecDepth 20000 in
theorem gX7_hour_X7_isKnown : GoodIn wsX7_hour (wsV RX7 126 RX7 yX7_isKnown wsX7_isKnown) := goodIn_app (goodIn_of _ (by decide +kernel)) ggX7_hour_X7_isKnown
set_option maxRecDepth 20000 in
theorem ggX7_hour_X7_undecidedWithout : GoodIn wsX7_hour wsX7_undecidedWithout := goodIn_r _ [10, 1, 11, 12, 13, 5, 14, 15, 16, 17, 18, 19, 20, 21, 22, 23, 24, 25, 26, 27, 28, 29, 30, 31, 32, 33, 34, 35, 36, 37, 38, 39, 40, 41, 42, 43, 44, 45, 46] (by decide +kernel) (by decide +kernel)
set_option maxRecDepth 20000 in
theorem gX7_hour_X7_undecidedWithout : GoodIn wsX7_hour (wsV RX7 132 RX7 yX7_undecidedWithout wsX7_undecidedWithout) := goodIn_app (goodIn_of _ (by decide +kernel)) ggX7_hour_X7_undecidedWithout
theorem dX7_hour_0 : decode cX7_hour 0 = .ok (.iconst (-1), 1) := by decide +kernel
theorem dX7_hour_1 : decode cX7_hour 1 = .ok (.istore_n 1, 1) := by decide +kernel
theorem dX7_hour_2 : decode cX7_hour 2 = .ok (.iconst 0, 1) := by decide +kernel
theorem dX7_hour_3 : decode cX7_hour 3 = .ok (.istore_n 2, 1) := by decide +kernel
theorem dX7_hour_4 : decode cX7_hour 4 = .ok (.iconst 0, 1) := by decide +kernel
theorem dX7_hour_5 : decode cX7_hour 5 = .ok (.istore_n 3, 1) := by decide +kernel
theorem dX7_hour_6 : decode cX7_hour 6 = .ok (.iload_n 3, 1) := by decide +kernel
theorem dX7_hour_7 : decode cX7_hour 7 = .ok (.aload_n 0, 1) := by decide +kernel
theorem dX7_hour_8 : decode cX7_hour 8 = .ok (.getfield 7, 3) := by decide +kernel
theorem dX7_hour_11 : decode cX7_hour 11 = .ok (.iconst 0, 1) := by decide +kernel
theorem dX7_hour_12 : decode cX7_hour 12 = .ok (.iaload, 1) := by decide +kernel
theorem dX7_hour_13 : decode cX7_hour 13 = .ok (.if_icmp .ge 65, 3) := by decide +kernel
theorem dX7_hour_16 : decode cX7_hour 16 = .ok (.aload_n 0, 1) := by decide +kernel
theorem dX7_hour_17 : decode cX7_hour 17 = .ok (.iload_n 3, 1) := by decide +kernel
theorem dX7_hour_18 : decode cX7_hour 18 = .ok (.invokevirtual 126, 3) := by decide +kernel
theorem dX7_hour_21 : decode cX7_hour 21 = .ok (.ifCond .eq 51, 3) := by decide +kernel
theorem dX7_hour_24 : decode cX7_hour 24 = .ok (.aload_n 0, 1) := by decide +kernel
theorem dX7_hour_25 : decode cX7_hour 25 = .ok (.iload_n 3, 1) := by decide +kernel
theorem dX7_hour_26 : decode cX7_hour 26 = .ok (.invokevirtual 132, 3) := by decide +kernel
theorem dX7_hour_29 : decode cX7_hour 29 = .ok (.istore 4, 2) := by decide +kernel
theorem dX7_hour_31 : decode cX7_hour 31 = .ok (.iload_n 1, 1) := by decide +kernel
theorem dX7_hour_32 : decode cX7_hour 32 = .ok (.iconst (-1), 1) := by decide +kernel
theorem dX7_hour_33 : decode cX7_hour 33 = .ok (.if_icmp .eq 9, 3) := by decide +kernel
theorem dX7_hour_36 : decode cX7_hour 36 = .ok (.iload 4, 2) := by decide +kernel
theorem dX7_hour_38 : decode cX7_hour 38 = .ok (.iload_n 2, 1) := by decide +kernel
theorem dX7_hour_39 : decode cX7_hour 39 = .ok (.if_icmp .ge 7, 3) := by decide +kernel
theorem dX7_hour_42 : decode cX7_hour 42 = .ok (.iconst 1, 1) := by decide +kernel
theorem dX7_hour_43 : decode cX7_hour 43 = .ok (.goto 4, 3) := by decide +kernel
theorem dX7_hour_46 : decode cX7_hour 46 = .ok (.iconst 0, 1) := by decide +kernel
theorem dX7_hour_47 : decode cX7_hour 47 = .ok (.istore 5, 2) := by decide +kernel
theorem dX7_hour_49 : decode cX7_hour 49 = .ok (.iload 5, 2) := by decide +kernel
theorem dX7_hour_51 : decode cX7_hour 51 = .ok (.ifCond .eq 7, 3) := by decide +kernel
theorem dX7_hour_54 : decode cX7_hour 54 = .ok (.iload_n 3, 1) := by decide +kernel
theorem dX7_hour_55 : decode cX7_hour 55 = .ok (.goto 4, 3) := by decide +kernel
theorem dX7_hour_58 : decode cX7_hour 58 = .ok (.iload_n 1, 1) := by decide +kernel
theorem dX7_hour_59 : decode cX7_hour 59 = .ok (.istore_n 1, 1) := by decide +kernel
theorem dX7_hour_60 : decode cX7_hour 60 = .ok (.iload 5, 2) := by decide +kernel
theorem dX7_hour_62 : decode cX7_hour 62 = .ok (.ifCond .eq 8, 3) := by decide +kernel
theorem dX7_hour_65 : decode cX7_hour 65 = .ok (.iload 4, 2) := by decide +kernel
theorem dX7_hour_67 : decode cX7_hour 67 = .ok (.goto 4, 3) := by decide +kernel
theorem dX7_hour_70 : decode cX7_hour 70 = .ok (.iload_n 2, 1) := by decide +kernel
theorem dX7_hour_71 : decode cX7_hour 71 = .ok (.istore_n 2, 1) := by decide +kernel
theorem dX7_hour_72 : decode cX7_hour 72 = .ok (.iinc 3 1, 3) := by decide +kernel
theorem dX7_hour_75 : decode cX7_hour 75 = .ok (.goto (-69), 3) := by decide +kernel
theorem dX7_hour_78 : decode cX7_hour 78 = .ok (.aload_n 0, 1) := by decide +kernel
theorem dX7_hour_79 : decode cX7_hour 79 = .ok (.getfield 7, 3) := by decide +kernel
theorem dX7_hour_82 : decode cX7_hour 82 = .ok (.iconst 1, 1) := by decide +kernel
theorem dX7_hour_83 : decode cX7_hour 83 = .ok (.dup2, 1) := by decide +kernel
theorem dX7_hour_84 : decode cX7_hour 84 = .ok (.iaload, 1) := by decide +kernel
theorem dX7_hour_85 : decode cX7_hour 85 = .ok (.iconst 1, 1) := by decide +kernel
theorem dX7_hour_86 : decode cX7_hour 86 = .ok (.iload_n 1, 1) := by decide +kernel
theorem dX7_hour_87 : decode cX7_hour 87 = .ok (.ishl, 1) := by decide +kernel
theorem dX7_hour_88 : decode cX7_hour 88 = .ok (.iconst (-1), 1) := by decide +kernel
theorem dX7_hour_89 : decode cX7_hour 89 = .ok (.ixor, 1) := by decide +kernel
theorem dX7_hour_90 : decode cX7_hour 90 = .ok (.iand, 1) := by decide +kernel
theorem dX7_hour_91 : decode cX7_hour 91 = .ok (.iastore, 1) := by decide +kernel
theorem dX7_hour_92 : decode cX7_hour 92 = .ok (.aload_n 0, 1) := by decide +kernel
theorem dX7_hour_93 : decode cX7_hour 93 = .ok (.getfield 7, 3) := by decide +kernel
theorem dX7_hour_96 : decode cX7_hour 96 = .ok (.iconst 3, 1) := by decide +kernel
theorem dX7_hour_97 : decode cX7_hour 97 = .ok (.dup2, 1) := by decide +kernel
theorem dX7_hour_98 : decode cX7_hour 98 = .ok (.iaload, 1) := by decide +kernel
theorem dX7_hour_99 : decode cX7_hour 99 = .ok (.iconst 1, 1) := by decide +kernel
theorem dX7_hour_100 : decode cX7_hour 100 = .ok (.iadd, 1) := by decide +kernel
theorem dX7_hour_101 : decode cX7_hour 101 = .ok (.iastore, 1) := by decide +kernel
theorem dX7_hour_102 : decode cX7_hour 102 = .ok (.return_, 1) := by decide +kernel
set_option maxRecDepth 20000 in
theorem ggX7_pass_X7_within : GoodIn wsX7_pass wsX7_within := goodIn_r _ [6] (by decide +kernel) (by decide +kernel)
set_option maxRecDepth 20000 in
theorem gX7_pass_X7_within : GoodIn wsX7_pass (va_wsS RX7 49 yX7_within wsX7_within) := goodIn_app (goodIn_of _ (by decide +kernel)) ggX7_pass_X7_within
set_option maxRecDepth 20000 in
theorem ggX7_pass_X7_save : GoodIn wsX7_pass wsX7_save := goodIn_r _ [10, 11, 12, 2, 48, 49, 50, 51, 52, 53, 54, 55, 56, 57, 58, 59, 60, 61, 62, 63] (by decide +kernel) (by decide +kernel)
set_option maxRecDepth 20000 in
theorem gX7_pass_X7_save : GoodIn wsX7_pass (wsV RX7 107 RX7 yX7_save wsX7_save) := goodIn_app (goodIn_of _ (by decide +kernel)) ggX7_pass_X7_save
set_option maxRecDepth 20000 in
theorem ggX7_pass_X7_hour : GoodIn wsX7_pass wsX7_hour := goodIn_r _ [16, 2, 17, 18, 19, 5, 20, 21, 22, 23, 24, 25, 26, 27, 28, 29, 30, 31, 32, 33, 34, 35, 36, 37, 38, 39, 40, 41, 42, 43, 44, 48, 49, 50, 51, 52, 53, 54, 55, 56, 57, 58, 59, 60, 61, 62, 63] (by decide +kernel) (by decide +kernel)
set_option maxRecDepth 20000 in
theorem gX7_pass_X7_hour : GoodIn wsX7_pass (wsV RX7 135 RX7 yX7_hour wsX7_hour) := goodIn_app (goodIn_of _ (by decide +kernel)) ggX7_pass_X7_hour
set_option maxRecDepth 20000 in
theorem ggX7_pass_X7_ones : GoodIn wsX7_pass wsX7_ones := goodIn_r _ [47] (by decide +kernel) (by decide +kernel)
set_option maxRecDepth 20000 in
theorem gX7_pass_X7_ones : GoodIn wsX7_pass (va_wsS RX7 85 yX7_ones wsX7_ones) := goodIn_app (goodIn_of _ (by decide +kernel)) ggX7_pass_X7_ones
theorem dX7_pass_0 : decode cX7_pass 0 = .ok (.aload_n 0, 1) := by decide +kernel
theorem dX7_pass_1 : decode cX7_pass 1 = .ok (.iload_n 1, 1) := by decide +kernel
theorem dX7_pass_2 : decode cX7_pass 2 = .ok (.iconst 1, 1) := by decide +kernel
theorem dX7_pass_3 : decode cX7_pass 3 = .ok (.bipush 6, 2) := by decide +kernel
theorem dX7_pass_5 : decode cX7_pass 5 = .ok (.invokestatic 49, 3) := by decide +kernel
theorem dX7_pass_8 : decode cX7_pass 8 = .ok (.ifCond .eq 7, 3) := by decide +kernel
theorem dX7_pass_11 : decode cX7_pass 11 = .ok (.iconst 0, 1) := by decide +kernel
theorem dX7_pass_12 : decode cX7_pass 12 = .ok (.goto 4, 3) := by decide +kernel
theorem dX7_pass_15 : decode cX7_pass 15 = .ok (.iconst 1, 1) := by decide +kernel
theorem dX7_pass_16 : decode cX7_pass 16 = .ok (.putfield 38, 3) := by decide +kernel
theorem dX7_pass_19 : decode cX7_pass 19 = .ok (.aload_n 0, 1) := by decide +kernel
theorem dX7_pass_20 : decode cX7_pass 20 = .ok (.getfield 38, 3) := by decide +kernel
theorem dX7_pass_23 : decode cX7_pass 23 = .ok (.ifCond .le 5, 3) := by decide +kernel
theorem dX7_pass_26 : decode cX7_pass 26 = .ok (.iconst 0, 1) := by decide +kernel
theorem dX7_pass_27 : decode cX7_pass 27 = .ok (.ireturn, 1) := by decide +kernel
theorem dX7_pass_28 : decode cX7_pass 28 = .ok (.aload_n 0, 1) := by decide +kernel
theorem dX7_pass_29 : decode cX7_pass 29 = .ok (.invokevirtual 107, 3) := by decide +kernel
theorem dX7_pass_32 : decode cX7_pass 32 = .ok (.iconst 0, 1) := by decide +kernel
theorem dX7_pass_33 : decode cX7_pass 33 = .ok (.istore_n 2, 1) := by decide +kernel
theorem dX7_pass_34 : decode cX7_pass 34 = .ok (.iload_n 2, 1) := by decide +kernel
theorem dX7_pass_35 : decode cX7_pass 35 = .ok (.iload_n 1, 1) := by decide +kernel
theorem dX7_pass_36 : decode cX7_pass 36 = .ok (.if_icmp .ge 22, 3) := by decide +kernel
theorem dX7_pass_39 : decode cX7_pass 39 = .ok (.aload_n 0, 1) := by decide +kernel
theorem dX7_pass_40 : decode cX7_pass 40 = .ok (.getfield 7, 3) := by decide +kernel
theorem dX7_pass_43 : decode cX7_pass 43 = .ok (.iconst 1, 1) := by decide +kernel
theorem dX7_pass_44 : decode cX7_pass 44 = .ok (.iaload, 1) := by decide +kernel
theorem dX7_pass_45 : decode cX7_pass 45 = .ok (.ifCond .le 13, 3) := by decide +kernel
theorem dX7_pass_48 : decode cX7_pass 48 = .ok (.aload_n 0, 1) := by decide +kernel
theorem dX7_pass_49 : decode cX7_pass 49 = .ok (.invokevirtual 135, 3) := by decide +kernel
theorem dX7_pass_52 : decode cX7_pass 52 = .ok (.iinc 2 1, 3) := by decide +kernel
theorem dX7_pass_55 : decode cX7_pass 55 = .ok (.goto (-21), 3) := by decide +kernel
theorem dX7_pass_58 : decode cX7_pass 58 = .ok (.aload_n 0, 1) := by decide +kernel
theorem dX7_pass_59 : decode cX7_pass 59 = .ok (.getfield 7, 3) := by decide +kernel
theorem dX7_pass_62 : decode cX7_pass 62 = .ok (.iconst 1, 1) := by decide +kernel
theorem dX7_pass_63 : decode cX7_pass 63 = .ok (.iaload, 1) := by decide +kernel
theorem dX7_pass_64 : decode cX7_pass 64 = .ok (.invokestatic 85, 3) := by decide +kernel
theorem dX7_pass_67 : decode cX7_pass 67 = .ok (.ireturn, 1) := by decide +kernel
set_option maxRecDepth 20000 in
theorem ggX7_ask_X7_isRow : GoodIn wsX7_ask wsX7_isRow := goodIn_r _ [7, 8, 9, 10, 6, 11, 2, 12, 13, 14, 77, 78, 79, 80, 81, 82, 83, 84, 85, 86, 87, 88, 89, 90, 91, 92] (by decide +kernel) (by decide +kernel)
set_option maxRecDepth 20000 in
theorem gX7_ask_X7_isRow : GoodIn wsX7_ask (wsV RX7 113 RX7 yX7_isRow wsX7_isRow) := goodIn_app (goodIn_of _ (by decide +kernel)) ggX7_ask_X7_isRow
set_option maxRecDepth 20000 in
theorem ggX7_ask_X7_save : GoodIn wsX7_ask wsX7_save := goodIn_r _ [18, 19, 20, 2, 77, 78, 79, 80, 81, 82, 83, 84, 85, 86, 87, 88, 89, 90, 91, 92] (by decide +kernel) (by decide +kernel)
set_option maxRecDepth 20000 in
theorem gX7_ask_X7_save : GoodIn wsX7_ask (wsV RX7 107 RX7 yX7_save wsX7_save) := goodIn_app (goodIn_of _ (by decide +kernel)) ggX7_ask_X7_save
set_option maxRecDepth 20000 in
theorem ggX7_ask_X7_layAll : GoodIn wsX7_ask wsX7_layAll := goodIn_r _ [24, 25, 26, 27, 6, 28, 29, 30, 31, 32, 33, 34, 35, 36, 37, 38, 39, 40, 41, 42, 8, 9, 10, 11, 2, 43, 44, 45, 46, 47, 48, 49, 50, 51, 52, 53, 54, 55, 56, 57, 58, 59, 60, 61, 62, 63, 64, 65, 66, 67, 68, 69, 70, 71, 72, 77, 78, 79, 80, 81, 82, 83, 84, 85, 86, 87, 88, 89, 90, 91, 92] (by decide +kernel) (by decide +kernel)
set_option maxRecDepth 20000 in
theorem gX7_ask_X7_layAll : GoodIn wsX7_ask (wsV RX7 138 RX7 yX7_layAll wsX7_layAll) := goodIn_app (goodIn_of _ (by decide +kernel)) ggX7_ask_X7_layAll
set_option maxRecDepth 20000 in
theorem ggX7_ask_X7_answer : GoodIn wsX7_ask wsX7_answer := goodIn_r _ [76, 29, 30, 77, 78, 79, 80, 81, 82, 83, 84, 85, 86, 87, 88, 89, 90, 91, 92] (by decide +kernel) (by decide +kernel)
set_option maxRecDepth 20000 in
theorem gX7_ask_X7_answer : GoodIn wsX7_ask (wsV RX7 141 RX7 yX7_answer wsX7_answer) := goodIn_app (goodIn_of _ (by decide +kernel)) ggX7_ask_X7_answer
set_option maxRecDepth 20000 in
theorem ggX7_ask_X7_truth : GoodIn wsX7_ask wsX7_truth := goodIn_r _ [50, 2, 77, 78, 79, 80, 81, 82, 83, 84, 85, 86, 87, 88, 89, 90, 91, 92] (by decide +kernel) (by decide +kernel)
set_option maxRecDepth 20000 in
theorem gX7_ask_X7_truth : GoodIn wsX7_ask (wsV RX7 53 RX7 yX7_truth wsX7_truth) := goodIn_app (goodIn_of _ (by decide +kernel)) ggX7_ask_X7_truth
set_option maxRecDepth 20000 in
theorem ggX7_ask_X7_decided : GoodIn wsX7_ask wsX7_decided := goodIn_r _ [46, 2, 8, 9, 10, 6, 11, 47, 48, 49, 50, 77, 78, 79, 80, 81, 82, 83, 84, 85, 86, 87, 88, 89, 90, 91, 92] (by decide +kernel) (by decide +kernel)
set_option maxRecDepth 20000 in
theorem gX7_ask_X7_decided : GoodIn wsX7_ask (wsV RX7 57 RX7 yX7_decided wsX7_decided) := goodIn_app (goodIn_of _ (by decide +kernel)) ggX7_ask_X7_decided
theorem dX7_ask_0 : decode cX7_ask 0 = .ok (.aload_n 0, 1) := by decide +kernel
theorem dX7_ask_1 : decode cX7_ask 1 = .ok (.aload_n 0, 1) := by decide +kernel
theorem dX7_ask_2 : decode cX7_ask 2 = .ok (.iload_n 1, 1) := by decide +kernel
theorem dX7_ask_3 : decode cX7_ask 3 = .ok (.invokevirtual 113, 3) := by decide +kernel
theorem dX7_ask_6 : decode cX7_ask 6 = .ok (.ifCond .eq 7, 3) := by decide +kernel
theorem dX7_ask_9 : decode cX7_ask 9 = .ok (.iconst 0, 1) := by decide +kernel
theorem dX7_ask_10 : decode cX7_ask 10 = .ok (.goto 4, 3) := by decide +kernel
theorem dX7_ask_13 : decode cX7_ask 13 = .ok (.iconst 1, 1) := by decide +kernel
theorem dX7_ask_14 : decode cX7_ask 14 = .ok (.putfield 38, 3) := by decide +kernel
theorem dX7_ask_17 : decode cX7_ask 17 = .ok (.aload_n 0, 1) := by decide +kernel
theorem dX7_ask_18 : decode cX7_ask 18 = .ok (.getfield 38, 3) := by decide +kernel
theorem dX7_ask_21 : decode cX7_ask 21 = .ok (.ifCond .le 5, 3) := by decide +kernel
theorem dX7_ask_24 : decode cX7_ask 24 = .ok (.iconst 0, 1) := by decide +kernel
theorem dX7_ask_25 : decode cX7_ask 25 = .ok (.ireturn, 1) := by decide +kernel
theorem dX7_ask_26 : decode cX7_ask 26 = .ok (.aload_n 0, 1) := by decide +kernel
theorem dX7_ask_27 : decode cX7_ask 27 = .ok (.invokevirtual 107, 3) := by decide +kernel
theorem dX7_ask_30 : decode cX7_ask 30 = .ok (.aload_n 0, 1) := by decide +kernel
theorem dX7_ask_31 : decode cX7_ask 31 = .ok (.invokevirtual 138, 3) := by decide +kernel
theorem dX7_ask_34 : decode cX7_ask 34 = .ok (.aload_n 0, 1) := by decide +kernel
theorem dX7_ask_35 : decode cX7_ask 35 = .ok (.getfield 7, 3) := by decide +kernel
theorem dX7_ask_38 : decode cX7_ask 38 = .ok (.iconst 2, 1) := by decide +kernel
theorem dX7_ask_39 : decode cX7_ask 39 = .ok (.dup2, 1) := by decide +kernel
theorem dX7_ask_40 : decode cX7_ask 40 = .ok (.iaload, 1) := by decide +kernel
theorem dX7_ask_41 : decode cX7_ask 41 = .ok (.iconst 1, 1) := by decide +kernel
theorem dX7_ask_42 : decode cX7_ask 42 = .ok (.iadd, 1) := by decide +kernel
theorem dX7_ask_43 : decode cX7_ask 43 = .ok (.iastore, 1) := by decide +kernel
theorem dX7_ask_44 : decode cX7_ask 44 = .ok (.iconst 0, 1) := by decide +kernel
theorem dX7_ask_45 : decode cX7_ask 45 = .ok (.istore_n 2, 1) := by decide +kernel
theorem dX7_ask_46 : decode cX7_ask 46 = .ok (.iconst 0, 1) := by decide +kernel
theorem dX7_ask_47 : decode cX7_ask 47 = .ok (.istore_n 3, 1) := by decide +kernel
theorem dX7_ask_48 : decode cX7_ask 48 = .ok (.iload_n 3, 1) := by decide +kernel
theorem dX7_ask_49 : decode cX7_ask 49 = .ok (.iconst 4, 1) := by decide +kernel
theorem dX7_ask_50 : decode cX7_ask 50 = .ok (.if_icmp .ge 88, 3) := by decide +kernel
theorem dX7_ask_53 : decode cX7_ask 53 = .ok (.aload_n 0, 1) := by decide +kernel
theorem dX7_ask_54 : decode cX7_ask 54 = .ok (.iload_n 3, 1) := by decide +kernel
theorem dX7_ask_55 : decode cX7_ask 55 = .ok (.iload_n 1, 1) := by decide +kernel
theorem dX7_ask_56 : decode cX7_ask 56 = .ok (.invokevirtual 141, 3) := by decide +kernel
theorem dX7_ask_59 : decode cX7_ask 59 = .ok (.istore 4, 2) := by decide +kernel
theorem dX7_ask_61 : decode cX7_ask 61 = .ok (.aload_n 0, 1) := by decide +kernel
theorem dX7_ask_62 : decode cX7_ask 62 = .ok (.iload_n 3, 1) := by decide +kernel
theorem dX7_ask_63 : decode cX7_ask 63 = .ok (.iload_n 1, 1) := by decide +kernel
theorem dX7_ask_64 : decode cX7_ask 64 = .ok (.invokevirtual 53, 3) := by decide +kernel
theorem dX7_ask_67 : decode cX7_ask 67 = .ok (.istore 5, 2) := by decide +kernel
theorem dX7_ask_69 : decode cX7_ask 69 = .ok (.iload_n 2, 1) := by decide +kernel
theorem dX7_ask_70 : decode cX7_ask 70 = .ok (.iload 4, 2) := by decide +kernel
theorem dX7_ask_72 : decode cX7_ask 72 = .ok (.iload_n 3, 1) := by decide +kernel
theorem dX7_ask_73 : decode cX7_ask 73 = .ok (.ishl, 1) := by decide +kernel
theorem dX7_ask_74 : decode cX7_ask 74 = .ok (.ior, 1) := by decide +kernel
theorem dX7_ask_75 : decode cX7_ask 75 = .ok (.istore_n 2, 1) := by decide +kernel
theorem dX7_ask_76 : decode cX7_ask 76 = .ok (.aload_n 0, 1) := by decide +kernel
theorem dX7_ask_77 : decode cX7_ask 77 = .ok (.getfield 7, 3) := by decide +kernel
theorem dX7_ask_80 : decode cX7_ask 80 = .ok (.iconst 4, 1) := by decide +kernel
theorem dX7_ask_81 : decode cX7_ask 81 = .ok (.iload_n 3, 1) := by decide +kernel
theorem dX7_ask_82 : decode cX7_ask 82 = .ok (.iadd, 1) := by decide +kernel
theorem dX7_ask_83 : decode cX7_ask 83 = .ok (.dup2, 1) := by decide +kernel
theorem dX7_ask_84 : decode cX7_ask 84 = .ok (.iaload, 1) := by decide +kernel
theorem dX7_ask_85 : decode cX7_ask 85 = .ok (.aload_n 0, 1) := by decide +kernel
theorem dX7_ask_86 : decode cX7_ask 86 = .ok (.iload_n 3, 1) := by decide +kernel
theorem dX7_ask_87 : decode cX7_ask 87 = .ok (.iload_n 1, 1) := by decide +kernel
theorem dX7_ask_88 : decode cX7_ask 88 = .ok (.invokevirtual 57, 3) := by decide +kernel
theorem dX7_ask_91 : decode cX7_ask 91 = .ok (.iconst 3, 1) := by decide +kernel
theorem dX7_ask_92 : decode cX7_ask 92 = .ok (.if_icmp .ne 7, 3) := by decide +kernel
theorem dX7_ask_95 : decode cX7_ask 95 = .ok (.iconst 1, 1) := by decide +kernel
theorem dX7_ask_96 : decode cX7_ask 96 = .ok (.goto 4, 3) := by decide +kernel
theorem dX7_ask_99 : decode cX7_ask 99 = .ok (.iconst 0, 1) := by decide +kernel
theorem dX7_ask_100 : decode cX7_ask 100 = .ok (.iadd, 1) := by decide +kernel
theorem dX7_ask_101 : decode cX7_ask 101 = .ok (.iastore, 1) := by decide +kernel
theorem dX7_ask_102 : decode cX7_ask 102 = .ok (.aload_n 0, 1) := by decide +kernel
theorem dX7_ask_103 : decode cX7_ask 103 = .ok (.getfield 7, 3) := by decide +kernel
theorem dX7_ask_106 : decode cX7_ask 106 = .ok (.bipush 8, 2) := by decide +kernel
theorem dX7_ask_108 : decode cX7_ask 108 = .ok (.iload_n 3, 1) := by decide +kernel
theorem dX7_ask_109 : decode cX7_ask 109 = .ok (.iadd, 1) := by decide +kernel
theorem dX7_ask_110 : decode cX7_ask 110 = .ok (.dup2, 1) := by decide +kernel
theorem dX7_ask_111 : decode cX7_ask 111 = .ok (.iaload, 1) := by decide +kernel
theorem dX7_ask_112 : decode cX7_ask 112 = .ok (.iload 5, 2) := by decide +kernel
theorem dX7_ask_114 : decode cX7_ask 114 = .ok (.iconst 2, 1) := by decide +kernel
theorem dX7_ask_115 : decode cX7_ask 115 = .ok (.if_icmp .ge 14, 3) := by decide +kernel
theorem dX7_ask_118 : decode cX7_ask 118 = .ok (.iload 5, 2) := by decide +kernel
theorem dX7_ask_120 : decode cX7_ask 120 = .ok (.iload 4, 2) := by decide +kernel
theorem dX7_ask_122 : decode cX7_ask 122 = .ok (.if_icmp .eq 7, 3) := by decide +kernel
theorem dX7_ask_125 : decode cX7_ask 125 = .ok (.iconst 1, 1) := by decide +kernel
theorem dX7_ask_126 : decode cX7_ask 126 = .ok (.goto 4, 3) := by decide +kernel
theorem dX7_ask_129 : decode cX7_ask 129 = .ok (.iconst 0, 1) := by decide +kernel
theorem dX7_ask_130 : decode cX7_ask 130 = .ok (.iadd, 1) := by decide +kernel
theorem dX7_ask_131 : decode cX7_ask 131 = .ok (.iastore, 1) := by decide +kernel
theorem dX7_ask_132 : decode cX7_ask 132 = .ok (.iinc 3 1, 3) := by decide +kernel
theorem dX7_ask_135 : decode cX7_ask 135 = .ok (.goto (-87), 3) := by decide +kernel
theorem dX7_ask_138 : decode cX7_ask 138 = .ok (.iload_n 2, 1) := by decide +kernel
theorem dX7_ask_139 : decode cX7_ask 139 = .ok (.ireturn, 1) := by decide +kernel
set_option maxRecDepth 20000 in
theorem ggX7_append_X7_within : GoodIn wsX7_append wsX7_within := goodIn_r _ [7] (by decide +kernel) (by decide +kernel)
set_option maxRecDepth 20000 in
theorem gX7_append_X7_within : GoodIn wsX7_append (va_wsS RX7 49 yX7_within wsX7_within) := goodIn_app (goodIn_of _ (by decide +kernel)) ggX7_append_X7_within
theorem dX7_append_0 : decode cX7_append 0 = .ok (.aload_n 0, 1) := by decide +kernel
theorem dX7_append_1 : decode cX7_append 1 = .ok (.iload_n 1, 1) := by decide +kernel
theorem dX7_append_2 : decode cX7_append 2 = .ok (.bipush 33, 2) := by decide +kernel
theorem dX7_append_4 : decode cX7_append 4 = .ok (.bipush 126, 2) := by decide +kernel
theorem dX7_append_6 : decode cX7_append 6 = .ok (.invokestatic 49, 3) := by decide +kernel
theorem dX7_append_9 : decode cX7_append 9 = .ok (.ifCond .ne 7, 3) := by decide +kernel
