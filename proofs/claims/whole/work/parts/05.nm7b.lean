theorem dX7_append_12 : decode cX7_append 12 = .ok (.iconst 1, 1) := by decide +kernel
theorem dX7_append_13 : decode cX7_append 13 = .ok (.goto 17, 3) := by decide +kernel
theorem dX7_append_16 : decode cX7_append 16 = .ok (.aload_n 0, 1) := by decide +kernel
theorem dX7_append_17 : decode cX7_append 17 = .ok (.getfield 144, 3) := by decide +kernel
theorem dX7_append_20 : decode cX7_append 20 = .ok (.bipush 60, 2) := by decide +kernel
theorem dX7_append_22 : decode cX7_append 22 = .ok (.if_icmp .ne 7, 3) := by decide +kernel
theorem dX7_append_25 : decode cX7_append 25 = .ok (.iconst 2, 1) := by decide +kernel
theorem dX7_append_26 : decode cX7_append 26 = .ok (.goto 4, 3) := by decide +kernel
theorem dX7_append_29 : decode cX7_append 29 = .ok (.iconst 0, 1) := by decide +kernel
theorem dX7_append_30 : decode cX7_append 30 = .ok (.putfield 38, 3) := by decide +kernel
theorem dX7_append_33 : decode cX7_append 33 = .ok (.aload_n 0, 1) := by decide +kernel
theorem dX7_append_34 : decode cX7_append 34 = .ok (.getfield 38, 3) := by decide +kernel
theorem dX7_append_37 : decode cX7_append 37 = .ok (.ifCond .le 5, 3) := by decide +kernel
theorem dX7_append_40 : decode cX7_append 40 = .ok (.iconst 0, 1) := by decide +kernel
theorem dX7_append_41 : decode cX7_append 41 = .ok (.ireturn, 1) := by decide +kernel
theorem dX7_append_42 : decode cX7_append 42 = .ok (.aload_n 0, 1) := by decide +kernel
theorem dX7_append_43 : decode cX7_append 43 = .ok (.getfield 16, 3) := by decide +kernel
theorem dX7_append_46 : decode cX7_append 46 = .ok (.aload_n 0, 1) := by decide +kernel
theorem dX7_append_47 : decode cX7_append 47 = .ok (.getfield 144, 3) := by decide +kernel
theorem dX7_append_50 : decode cX7_append 50 = .ok (.iload_n 1, 1) := by decide +kernel
theorem dX7_append_51 : decode cX7_append 51 = .ok (.iastore, 1) := by decide +kernel
theorem dX7_append_52 : decode cX7_append 52 = .ok (.aload_n 0, 1) := by decide +kernel
theorem dX7_append_53 : decode cX7_append 53 = .ok (.dup, 1) := by decide +kernel
theorem dX7_append_54 : decode cX7_append 54 = .ok (.getfield 144, 3) := by decide +kernel
theorem dX7_append_57 : decode cX7_append 57 = .ok (.iconst 1, 1) := by decide +kernel
theorem dX7_append_58 : decode cX7_append 58 = .ok (.iadd, 1) := by decide +kernel
theorem dX7_append_59 : decode cX7_append 59 = .ok (.putfield 144, 3) := by decide +kernel
theorem dX7_append_62 : decode cX7_append 62 = .ok (.aload_n 0, 1) := by decide +kernel
theorem dX7_append_63 : decode cX7_append 63 = .ok (.getfield 144, 3) := by decide +kernel
theorem dX7_append_66 : decode cX7_append 66 = .ok (.ireturn, 1) := by decide +kernel
theorem dX7_clearBuffer_0 : decode cX7_clearBuffer 0 = .ok (.aload_n 0, 1) := by decide +kernel
theorem dX7_clearBuffer_1 : decode cX7_clearBuffer 1 = .ok (.iconst 0, 1) := by decide +kernel
theorem dX7_clearBuffer_2 : decode cX7_clearBuffer 2 = .ok (.putfield 38, 3) := by decide +kernel
theorem dX7_clearBuffer_5 : decode cX7_clearBuffer 5 = .ok (.aload_n 0, 1) := by decide +kernel
theorem dX7_clearBuffer_6 : decode cX7_clearBuffer 6 = .ok (.getfield 144, 3) := by decide +kernel
theorem dX7_clearBuffer_9 : decode cX7_clearBuffer 9 = .ok (.istore_n 1, 1) := by decide +kernel
theorem dX7_clearBuffer_10 : decode cX7_clearBuffer 10 = .ok (.aload_n 0, 1) := by decide +kernel
theorem dX7_clearBuffer_11 : decode cX7_clearBuffer 11 = .ok (.iconst 0, 1) := by decide +kernel
theorem dX7_clearBuffer_12 : decode cX7_clearBuffer 12 = .ok (.putfield 144, 3) := by decide +kernel
theorem dX7_clearBuffer_15 : decode cX7_clearBuffer 15 = .ok (.iload_n 1, 1) := by decide +kernel
theorem dX7_clearBuffer_16 : decode cX7_clearBuffer 16 = .ok (.ireturn, 1) := by decide +kernel
theorem dX7_takesInput_0 : decode cX7_takesInput 0 = .ok (.iconst 4, 1) := by decide +kernel
theorem dX7_takesInput_1 : decode cX7_takesInput 1 = .ok (.aload_n 0, 1) := by decide +kernel
theorem dX7_takesInput_2 : decode cX7_takesInput 2 = .ok (.getfield 147, 3) := by decide +kernel
theorem dX7_takesInput_5 : decode cX7_takesInput 5 = .ok (.imul, 1) := by decide +kernel
theorem dX7_takesInput_6 : decode cX7_takesInput 6 = .ok (.istore_n 2, 1) := by decide +kernel
theorem dX7_takesInput_7 : decode cX7_takesInput 7 = .ok (.aload_n 0, 1) := by decide +kernel
theorem dX7_takesInput_8 : decode cX7_takesInput 8 = .ok (.getfield 32, 3) := by decide +kernel
theorem dX7_takesInput_11 : decode cX7_takesInput 11 = .ok (.iload_n 2, 1) := by decide +kernel
theorem dX7_takesInput_12 : decode cX7_takesInput 12 = .ok (.aload_n 0, 1) := by decide +kernel
theorem dX7_takesInput_13 : decode cX7_takesInput 13 = .ok (.getfield 150, 3) := by decide +kernel
theorem dX7_takesInput_16 : decode cX7_takesInput 16 = .ok (.ifCond .ne 7, 3) := by decide +kernel
theorem dX7_takesInput_19 : decode cX7_takesInput 19 = .ok (.iconst 0, 1) := by decide +kernel
theorem dX7_takesInput_20 : decode cX7_takesInput 20 = .ok (.goto 9, 3) := by decide +kernel
theorem dX7_takesInput_23 : decode cX7_takesInput 23 = .ok (.aload_n 0, 1) := by decide +kernel
theorem dX7_takesInput_24 : decode cX7_takesInput 24 = .ok (.getfield 32, 3) := by decide +kernel
theorem dX7_takesInput_27 : decode cX7_takesInput 27 = .ok (.iload_n 2, 1) := by decide +kernel
theorem dX7_takesInput_28 : decode cX7_takesInput 28 = .ok (.iaload, 1) := by decide +kernel
theorem dX7_takesInput_29 : decode cX7_takesInput 29 = .ok (.iastore, 1) := by decide +kernel
theorem dX7_takesInput_30 : decode cX7_takesInput 30 = .ok (.aload_n 0, 1) := by decide +kernel
theorem dX7_takesInput_31 : decode cX7_takesInput 31 = .ok (.getfield 32, 3) := by decide +kernel
theorem dX7_takesInput_34 : decode cX7_takesInput 34 = .ok (.iload_n 2, 1) := by decide +kernel
theorem dX7_takesInput_35 : decode cX7_takesInput 35 = .ok (.iconst 1, 1) := by decide +kernel
theorem dX7_takesInput_36 : decode cX7_takesInput 36 = .ok (.iadd, 1) := by decide +kernel
theorem dX7_takesInput_37 : decode cX7_takesInput 37 = .ok (.aload_n 0, 1) := by decide +kernel
theorem dX7_takesInput_38 : decode cX7_takesInput 38 = .ok (.getfield 150, 3) := by decide +kernel
theorem dX7_takesInput_41 : decode cX7_takesInput 41 = .ok (.ifCond .ne 7, 3) := by decide +kernel
theorem dX7_takesInput_44 : decode cX7_takesInput 44 = .ok (.iconst 0, 1) := by decide +kernel
theorem dX7_takesInput_45 : decode cX7_takesInput 45 = .ok (.goto 11, 3) := by decide +kernel
theorem dX7_takesInput_48 : decode cX7_takesInput 48 = .ok (.aload_n 0, 1) := by decide +kernel
theorem dX7_takesInput_49 : decode cX7_takesInput 49 = .ok (.getfield 32, 3) := by decide +kernel
theorem dX7_takesInput_52 : decode cX7_takesInput 52 = .ok (.iload_n 2, 1) := by decide +kernel
theorem dX7_takesInput_53 : decode cX7_takesInput 53 = .ok (.iconst 1, 1) := by decide +kernel
theorem dX7_takesInput_54 : decode cX7_takesInput 54 = .ok (.iadd, 1) := by decide +kernel
theorem dX7_takesInput_55 : decode cX7_takesInput 55 = .ok (.iaload, 1) := by decide +kernel
theorem dX7_takesInput_56 : decode cX7_takesInput 56 = .ok (.iastore, 1) := by decide +kernel
theorem dX7_takesInput_57 : decode cX7_takesInput 57 = .ok (.aload_n 0, 1) := by decide +kernel
theorem dX7_takesInput_58 : decode cX7_takesInput 58 = .ok (.getfield 32, 3) := by decide +kernel
theorem dX7_takesInput_61 : decode cX7_takesInput 61 = .ok (.iload_n 2, 1) := by decide +kernel
theorem dX7_takesInput_62 : decode cX7_takesInput 62 = .ok (.dup2, 1) := by decide +kernel
theorem dX7_takesInput_63 : decode cX7_takesInput 63 = .ok (.iaload, 1) := by decide +kernel
theorem dX7_takesInput_64 : decode cX7_takesInput 64 = .ok (.iload_n 1, 1) := by decide +kernel
theorem dX7_takesInput_65 : decode cX7_takesInput 65 = .ok (.bipush 45, 2) := by decide +kernel
theorem dX7_takesInput_67 : decode cX7_takesInput 67 = .ok (.if_icmp .ne 7, 3) := by decide +kernel
theorem dX7_takesInput_70 : decode cX7_takesInput 70 = .ok (.iconst 0, 1) := by decide +kernel
theorem dX7_takesInput_71 : decode cX7_takesInput 71 = .ok (.goto 9, 3) := by decide +kernel
theorem dX7_takesInput_74 : decode cX7_takesInput 74 = .ok (.iconst 1, 1) := by decide +kernel
theorem dX7_takesInput_75 : decode cX7_takesInput 75 = .ok (.aload_n 0, 1) := by decide +kernel
theorem dX7_takesInput_76 : decode cX7_takesInput 76 = .ok (.getfield 150, 3) := by decide +kernel
theorem dX7_takesInput_79 : decode cX7_takesInput 79 = .ok (.ishl, 1) := by decide +kernel
theorem dX7_takesInput_80 : decode cX7_takesInput 80 = .ok (.ior, 1) := by decide +kernel
theorem dX7_takesInput_81 : decode cX7_takesInput 81 = .ok (.iastore, 1) := by decide +kernel
theorem dX7_takesInput_82 : decode cX7_takesInput 82 = .ok (.aload_n 0, 1) := by decide +kernel
theorem dX7_takesInput_83 : decode cX7_takesInput 83 = .ok (.getfield 32, 3) := by decide +kernel
theorem dX7_takesInput_86 : decode cX7_takesInput 86 = .ok (.iload_n 2, 1) := by decide +kernel
theorem dX7_takesInput_87 : decode cX7_takesInput 87 = .ok (.iconst 1, 1) := by decide +kernel
theorem dX7_takesInput_88 : decode cX7_takesInput 88 = .ok (.iadd, 1) := by decide +kernel
theorem dX7_takesInput_89 : decode cX7_takesInput 89 = .ok (.dup2, 1) := by decide +kernel
theorem dX7_takesInput_90 : decode cX7_takesInput 90 = .ok (.iaload, 1) := by decide +kernel
theorem dX7_takesInput_91 : decode cX7_takesInput 91 = .ok (.iload_n 1, 1) := by decide +kernel
theorem dX7_takesInput_92 : decode cX7_takesInput 92 = .ok (.bipush 49, 2) := by decide +kernel
theorem dX7_takesInput_94 : decode cX7_takesInput 94 = .ok (.if_icmp .ne 12, 3) := by decide +kernel
theorem dX7_takesInput_97 : decode cX7_takesInput 97 = .ok (.iconst 1, 1) := by decide +kernel
theorem dX7_takesInput_98 : decode cX7_takesInput 98 = .ok (.aload_n 0, 1) := by decide +kernel
theorem dX7_takesInput_99 : decode cX7_takesInput 99 = .ok (.getfield 150, 3) := by decide +kernel
theorem dX7_takesInput_102 : decode cX7_takesInput 102 = .ok (.ishl, 1) := by decide +kernel
theorem dX7_takesInput_103 : decode cX7_takesInput 103 = .ok (.goto 4, 3) := by decide +kernel
theorem dX7_takesInput_106 : decode cX7_takesInput 106 = .ok (.iconst 0, 1) := by decide +kernel
theorem dX7_takesInput_107 : decode cX7_takesInput 107 = .ok (.ior, 1) := by decide +kernel
theorem dX7_takesInput_108 : decode cX7_takesInput 108 = .ok (.iastore, 1) := by decide +kernel
theorem dX7_takesInput_109 : decode cX7_takesInput 109 = .ok (.iload_n 1, 1) := by decide +kernel
theorem dX7_takesInput_110 : decode cX7_takesInput 110 = .ok (.bipush 48, 2) := by decide +kernel
theorem dX7_takesInput_112 : decode cX7_takesInput 112 = .ok (.if_icmp .eq 15, 3) := by decide +kernel
theorem dX7_takesInput_115 : decode cX7_takesInput 115 = .ok (.iload_n 1, 1) := by decide +kernel
theorem dX7_takesInput_116 : decode cX7_takesInput 116 = .ok (.bipush 49, 2) := by decide +kernel
theorem dX7_takesInput_118 : decode cX7_takesInput 118 = .ok (.if_icmp .eq 9, 3) := by decide +kernel
theorem dX7_takesInput_121 : decode cX7_takesInput 121 = .ok (.iload_n 1, 1) := by decide +kernel
theorem dX7_takesInput_122 : decode cX7_takesInput 122 = .ok (.bipush 45, 2) := by decide +kernel
theorem dX7_takesInput_124 : decode cX7_takesInput 124 = .ok (.if_icmp .ne 7, 3) := by decide +kernel
theorem dX7_takesInput_127 : decode cX7_takesInput 127 = .ok (.iconst 1, 1) := by decide +kernel
theorem dX7_takesInput_128 : decode cX7_takesInput 128 = .ok (.goto 4, 3) := by decide +kernel
theorem dX7_takesInput_131 : decode cX7_takesInput 131 = .ok (.iconst 0, 1) := by decide +kernel
theorem dX7_takesInput_132 : decode cX7_takesInput 132 = .ok (.ireturn, 1) := by decide +kernel
set_option maxRecDepth 20000 in
theorem ggX7_takes_X7_within : GoodIn wsX7_takes wsX7_within := goodIn_r _ [8] (by decide +kernel) (by decide +kernel)
set_option maxRecDepth 20000 in
theorem gX7_takes_X7_within : GoodIn wsX7_takes (va_wsS RX7 49 yX7_within wsX7_within) := goodIn_app (goodIn_of _ (by decide +kernel)) ggX7_takes_X7_within
set_option maxRecDepth 20000 in
theorem ggX7_takes_X7_takesInput : GoodIn wsX7_takes wsX7_takesInput := goodIn_r _ [12, 4, 3, 1, 13, 14, 15, 16, 17, 18, 19, 20, 21, 22, 23, 24, 25, 26, 27, 28] (by decide +kernel) (by decide +kernel)
set_option maxRecDepth 20000 in
theorem gX7_takes_X7_takesInput : GoodIn wsX7_takes (wsV RX7 153 RX7 yX7_takesInput wsX7_takesInput) := goodIn_app (goodIn_of _ (by decide +kernel)) ggX7_takes_X7_takesInput
theorem dX7_takes_0 : decode cX7_takes 0 = .ok (.aload_n 0, 1) := by decide +kernel
theorem dX7_takes_1 : decode cX7_takes 1 = .ok (.getfield 150, 3) := by decide +kernel
theorem dX7_takes_4 : decode cX7_takes 4 = .ok (.aload_n 0, 1) := by decide +kernel
theorem dX7_takes_5 : decode cX7_takes 5 = .ok (.getfield 7, 3) := by decide +kernel
theorem dX7_takes_8 : decode cX7_takes 8 = .ok (.iconst 0, 1) := by decide +kernel
theorem dX7_takes_9 : decode cX7_takes 9 = .ok (.iaload, 1) := by decide +kernel
theorem dX7_takes_10 : decode cX7_takes 10 = .ok (.isub, 1) := by decide +kernel
theorem dX7_takes_11 : decode cX7_takes 11 = .ok (.istore_n 2, 1) := by decide +kernel
theorem dX7_takes_12 : decode cX7_takes 12 = .ok (.iload_n 2, 1) := by decide +kernel
theorem dX7_takes_13 : decode cX7_takes 13 = .ok (.tableswitch 172 0 4 #[35, 50, 79, 94, 123], 35) := by decide +kernel
theorem dX7_takes_48 : decode cX7_takes 48 = .ok (.iload_n 1, 1) := by decide +kernel
theorem dX7_takes_49 : decode cX7_takes 49 = .ok (.bipush 61, 2) := by decide +kernel
theorem dX7_takes_51 : decode cX7_takes 51 = .ok (.if_icmp .ne 7, 3) := by decide +kernel
theorem dX7_takes_54 : decode cX7_takes 54 = .ok (.iconst 1, 1) := by decide +kernel
theorem dX7_takes_55 : decode cX7_takes 55 = .ok (.goto 4, 3) := by decide +kernel
theorem dX7_takes_58 : decode cX7_takes 58 = .ok (.iconst 0, 1) := by decide +kernel
theorem dX7_takes_59 : decode cX7_takes 59 = .ok (.istore_n 3, 1) := by decide +kernel
theorem dX7_takes_60 : decode cX7_takes 60 = .ok (.goto 131, 3) := by decide +kernel
theorem dX7_takes_63 : decode cX7_takes 63 = .ok (.aload_n 0, 1) := by decide +kernel
theorem dX7_takes_64 : decode cX7_takes 64 = .ok (.getfield 32, 3) := by decide +kernel
theorem dX7_takes_67 : decode cX7_takes 67 = .ok (.iconst 4, 1) := by decide +kernel
theorem dX7_takes_68 : decode cX7_takes 68 = .ok (.aload_n 0, 1) := by decide +kernel
theorem dX7_takes_69 : decode cX7_takes 69 = .ok (.getfield 147, 3) := by decide +kernel
theorem dX7_takes_72 : decode cX7_takes 72 = .ok (.imul, 1) := by decide +kernel
theorem dX7_takes_73 : decode cX7_takes 73 = .ok (.iconst 2, 1) := by decide +kernel
theorem dX7_takes_74 : decode cX7_takes 74 = .ok (.iadd, 1) := by decide +kernel
theorem dX7_takes_75 : decode cX7_takes 75 = .ok (.iload_n 1, 1) := by decide +kernel
theorem dX7_takes_76 : decode cX7_takes 76 = .ok (.bipush 48, 2) := by decide +kernel
theorem dX7_takes_78 : decode cX7_takes 78 = .ok (.isub, 1) := by decide +kernel
theorem dX7_takes_79 : decode cX7_takes 79 = .ok (.iastore, 1) := by decide +kernel
theorem dX7_takes_80 : decode cX7_takes 80 = .ok (.iload_n 1, 1) := by decide +kernel
theorem dX7_takes_81 : decode cX7_takes 81 = .ok (.bipush 48, 2) := by decide +kernel
theorem dX7_takes_83 : decode cX7_takes 83 = .ok (.bipush 51, 2) := by decide +kernel
theorem dX7_takes_85 : decode cX7_takes 85 = .ok (.invokestatic 49, 3) := by decide +kernel
theorem dX7_takes_88 : decode cX7_takes 88 = .ok (.istore_n 3, 1) := by decide +kernel
theorem dX7_takes_89 : decode cX7_takes 89 = .ok (.goto 102, 3) := by decide +kernel
theorem dX7_takes_92 : decode cX7_takes 92 = .ok (.iload_n 1, 1) := by decide +kernel
theorem dX7_takes_93 : decode cX7_takes 93 = .ok (.bipush 58, 2) := by decide +kernel
theorem dX7_takes_95 : decode cX7_takes 95 = .ok (.if_icmp .ne 7, 3) := by decide +kernel
theorem dX7_takes_98 : decode cX7_takes 98 = .ok (.iconst 1, 1) := by decide +kernel
theorem dX7_takes_99 : decode cX7_takes 99 = .ok (.goto 4, 3) := by decide +kernel
theorem dX7_takes_102 : decode cX7_takes 102 = .ok (.iconst 0, 1) := by decide +kernel
theorem dX7_takes_103 : decode cX7_takes 103 = .ok (.istore_n 3, 1) := by decide +kernel
theorem dX7_takes_104 : decode cX7_takes 104 = .ok (.goto 87, 3) := by decide +kernel
theorem dX7_takes_107 : decode cX7_takes 107 = .ok (.aload_n 0, 1) := by decide +kernel
theorem dX7_takes_108 : decode cX7_takes 108 = .ok (.getfield 32, 3) := by decide +kernel
theorem dX7_takes_111 : decode cX7_takes 111 = .ok (.iconst 4, 1) := by decide +kernel
theorem dX7_takes_112 : decode cX7_takes 112 = .ok (.aload_n 0, 1) := by decide +kernel
theorem dX7_takes_113 : decode cX7_takes 113 = .ok (.getfield 147, 3) := by decide +kernel
theorem dX7_takes_116 : decode cX7_takes 116 = .ok (.imul, 1) := by decide +kernel
theorem dX7_takes_117 : decode cX7_takes 117 = .ok (.iconst 3, 1) := by decide +kernel
theorem dX7_takes_118 : decode cX7_takes 118 = .ok (.iadd, 1) := by decide +kernel
theorem dX7_takes_119 : decode cX7_takes 119 = .ok (.iload_n 1, 1) := by decide +kernel
theorem dX7_takes_120 : decode cX7_takes 120 = .ok (.bipush 48, 2) := by decide +kernel
theorem dX7_takes_122 : decode cX7_takes 122 = .ok (.isub, 1) := by decide +kernel
theorem dX7_takes_123 : decode cX7_takes 123 = .ok (.iastore, 1) := by decide +kernel
theorem dX7_takes_124 : decode cX7_takes 124 = .ok (.iload_n 1, 1) := by decide +kernel
theorem dX7_takes_125 : decode cX7_takes 125 = .ok (.bipush 48, 2) := by decide +kernel
theorem dX7_takes_127 : decode cX7_takes 127 = .ok (.bipush 50, 2) := by decide +kernel
theorem dX7_takes_129 : decode cX7_takes 129 = .ok (.invokestatic 49, 3) := by decide +kernel
theorem dX7_takes_132 : decode cX7_takes 132 = .ok (.istore_n 3, 1) := by decide +kernel
theorem dX7_takes_133 : decode cX7_takes 133 = .ok (.goto 58, 3) := by decide +kernel
theorem dX7_takes_136 : decode cX7_takes 136 = .ok (.iload_n 1, 1) := by decide +kernel
theorem dX7_takes_137 : decode cX7_takes 137 = .ok (.bipush 44, 2) := by decide +kernel
theorem dX7_takes_139 : decode cX7_takes 139 = .ok (.if_icmp .ne 7, 3) := by decide +kernel
theorem dX7_takes_142 : decode cX7_takes 142 = .ok (.iconst 1, 1) := by decide +kernel
theorem dX7_takes_143 : decode cX7_takes 143 = .ok (.goto 4, 3) := by decide +kernel
theorem dX7_takes_146 : decode cX7_takes 146 = .ok (.iconst 0, 1) := by decide +kernel
theorem dX7_takes_147 : decode cX7_takes 147 = .ok (.istore_n 3, 1) := by decide +kernel
theorem dX7_takes_148 : decode cX7_takes 148 = .ok (.aload_n 0, 1) := by decide +kernel
theorem dX7_takes_149 : decode cX7_takes 149 = .ok (.dup, 1) := by decide +kernel
theorem dX7_takes_150 : decode cX7_takes 150 = .ok (.getfield 147, 3) := by decide +kernel
theorem dX7_takes_153 : decode cX7_takes 153 = .ok (.iload_n 3, 1) := by decide +kernel
theorem dX7_takes_154 : decode cX7_takes 154 = .ok (.ifCond .eq 7, 3) := by decide +kernel
theorem dX7_takes_157 : decode cX7_takes 157 = .ok (.iconst 1, 1) := by decide +kernel
theorem dX7_takes_158 : decode cX7_takes 158 = .ok (.goto 4, 3) := by decide +kernel
theorem dX7_takes_161 : decode cX7_takes 161 = .ok (.iconst 0, 1) := by decide +kernel
theorem dX7_takes_162 : decode cX7_takes 162 = .ok (.iadd, 1) := by decide +kernel
theorem dX7_takes_163 : decode cX7_takes 163 = .ok (.putfield 147, 3) := by decide +kernel
theorem dX7_takes_166 : decode cX7_takes 166 = .ok (.aload_n 0, 1) := by decide +kernel
theorem dX7_takes_167 : decode cX7_takes 167 = .ok (.iload_n 3, 1) := by decide +kernel
theorem dX7_takes_168 : decode cX7_takes 168 = .ok (.ifCond .eq 7, 3) := by decide +kernel
theorem dX7_takes_171 : decode cX7_takes 171 = .ok (.iconst (-1), 1) := by decide +kernel
theorem dX7_takes_172 : decode cX7_takes 172 = .ok (.goto 7, 3) := by decide +kernel
theorem dX7_takes_175 : decode cX7_takes 175 = .ok (.aload_n 0, 1) := by decide +kernel
theorem dX7_takes_176 : decode cX7_takes 176 = .ok (.getfield 150, 3) := by decide +kernel
theorem dX7_takes_179 : decode cX7_takes 179 = .ok (.putfield 150, 3) := by decide +kernel
theorem dX7_takes_182 : decode cX7_takes 182 = .ok (.goto 9, 3) := by decide +kernel
theorem dX7_takes_185 : decode cX7_takes 185 = .ok (.aload_n 0, 1) := by decide +kernel
theorem dX7_takes_186 : decode cX7_takes 186 = .ok (.iload_n 1, 1) := by decide +kernel
theorem dX7_takes_187 : decode cX7_takes 187 = .ok (.invokevirtual 153, 3) := by decide +kernel
theorem dX7_takes_190 : decode cX7_takes 190 = .ok (.istore_n 3, 1) := by decide +kernel
theorem dX7_takes_191 : decode cX7_takes 191 = .ok (.aload_n 0, 1) := by decide +kernel
theorem dX7_takes_192 : decode cX7_takes 192 = .ok (.dup, 1) := by decide +kernel
theorem dX7_takes_193 : decode cX7_takes 193 = .ok (.getfield 150, 3) := by decide +kernel
theorem dX7_takes_196 : decode cX7_takes 196 = .ok (.iconst 1, 1) := by decide +kernel
theorem dX7_takes_197 : decode cX7_takes 197 = .ok (.iadd, 1) := by decide +kernel
theorem dX7_takes_198 : decode cX7_takes 198 = .ok (.putfield 150, 3) := by decide +kernel
theorem dX7_takes_201 : decode cX7_takes 201 = .ok (.iload_n 3, 1) := by decide +kernel
theorem dX7_takes_202 : decode cX7_takes 202 = .ok (.ireturn, 1) := by decide +kernel
set_option maxRecDepth 20000 in
theorem ggX7_rightUpTo_X7_takes : GoodIn wsX7_rightUpTo wsX7_takes := goodIn_r _ [9, 2, 10, 11, 1, 12, 13, 8, 14, 15, 16, 17, 18, 19, 20, 21, 22, 23, 24, 25, 26, 27, 28, 29, 30, 31, 32, 33, 34] (by decide +kernel) (by decide +kernel)
set_option maxRecDepth 20000 in
theorem gX7_rightUpTo_X7_takes : GoodIn wsX7_rightUpTo (wsV RX7 156 RX7 yX7_takes wsX7_takes) := goodIn_app (goodIn_of _ (by decide +kernel)) ggX7_rightUpTo_X7_takes
theorem dX7_rightUpTo_0 : decode cX7_rightUpTo 0 = .ok (.aload_n 0, 1) := by decide +kernel
theorem dX7_rightUpTo_1 : decode cX7_rightUpTo 1 = .ok (.iconst 0, 1) := by decide +kernel
theorem dX7_rightUpTo_2 : decode cX7_rightUpTo 2 = .ok (.putfield 147, 3) := by decide +kernel
theorem dX7_rightUpTo_5 : decode cX7_rightUpTo 5 = .ok (.aload_n 0, 1) := by decide +kernel
theorem dX7_rightUpTo_6 : decode cX7_rightUpTo 6 = .ok (.iconst 0, 1) := by decide +kernel
theorem dX7_rightUpTo_7 : decode cX7_rightUpTo 7 = .ok (.putfield 150, 3) := by decide +kernel
theorem dX7_rightUpTo_10 : decode cX7_rightUpTo 10 = .ok (.iconst 0, 1) := by decide +kernel
theorem dX7_rightUpTo_11 : decode cX7_rightUpTo 11 = .ok (.istore_n 1, 1) := by decide +kernel
theorem dX7_rightUpTo_12 : decode cX7_rightUpTo 12 = .ok (.iload_n 1, 1) := by decide +kernel
theorem dX7_rightUpTo_13 : decode cX7_rightUpTo 13 = .ok (.aload_n 0, 1) := by decide +kernel
theorem dX7_rightUpTo_14 : decode cX7_rightUpTo 14 = .ok (.getfield 144, 3) := by decide +kernel
theorem dX7_rightUpTo_17 : decode cX7_rightUpTo 17 = .ok (.if_icmp .ge 22, 3) := by decide +kernel
theorem dX7_rightUpTo_20 : decode cX7_rightUpTo 20 = .ok (.aload_n 0, 1) := by decide +kernel
theorem dX7_rightUpTo_21 : decode cX7_rightUpTo 21 = .ok (.aload_n 0, 1) := by decide +kernel
theorem dX7_rightUpTo_22 : decode cX7_rightUpTo 22 = .ok (.getfield 16, 3) := by decide +kernel
theorem dX7_rightUpTo_25 : decode cX7_rightUpTo 25 = .ok (.iload_n 1, 1) := by decide +kernel
theorem dX7_rightUpTo_26 : decode cX7_rightUpTo 26 = .ok (.iaload, 1) := by decide +kernel
theorem dX7_rightUpTo_27 : decode cX7_rightUpTo 27 = .ok (.invokevirtual 156, 3) := by decide +kernel
theorem dX7_rightUpTo_30 : decode cX7_rightUpTo 30 = .ok (.ifCond .eq 9, 3) := by decide +kernel
theorem dX7_rightUpTo_33 : decode cX7_rightUpTo 33 = .ok (.iinc 1 1, 3) := by decide +kernel
theorem dX7_rightUpTo_36 : decode cX7_rightUpTo 36 = .ok (.goto (-24), 3) := by decide +kernel
theorem dX7_rightUpTo_39 : decode cX7_rightUpTo 39 = .ok (.iload_n 1, 1) := by decide +kernel
theorem dX7_rightUpTo_40 : decode cX7_rightUpTo 40 = .ok (.ireturn, 1) := by decide +kernel
set_option maxRecDepth 20000 in
theorem ggX7_firstError_X7_rightUpTo : GoodIn wsX7_firstError wsX7_rightUpTo := goodIn_r _ [6, 7, 8, 9, 10, 11, 12, 13, 5, 14, 15, 16, 17, 18, 19, 20, 21, 22, 23, 24, 25, 26, 27, 28, 29, 30, 31, 32, 33, 34, 35, 36, 37, 38, 39] (by decide +kernel) (by decide +kernel)
set_option maxRecDepth 20000 in
theorem gX7_firstError_X7_rightUpTo : GoodIn wsX7_firstError (wsV RX7 159 RX7 yX7_rightUpTo wsX7_rightUpTo) := goodIn_app (goodIn_of _ (by decide +kernel)) ggX7_firstError_X7_rightUpTo
theorem dX7_firstError_0 : decode cX7_firstError 0 = .ok (.aload_n 0, 1) := by decide +kernel
theorem dX7_firstError_1 : decode cX7_firstError 1 = .ok (.iconst 0, 1) := by decide +kernel
theorem dX7_firstError_2 : decode cX7_firstError 2 = .ok (.putfield 38, 3) := by decide +kernel
theorem dX7_firstError_5 : decode cX7_firstError 5 = .ok (.aload_n 0, 1) := by decide +kernel
theorem dX7_firstError_6 : decode cX7_firstError 6 = .ok (.invokevirtual 159, 3) := by decide +kernel
theorem dX7_firstError_9 : decode cX7_firstError 9 = .ok (.ireturn, 1) := by decide +kernel
set_option maxRecDepth 20000 in
theorem ggX7_fill_X7_rightUpTo : GoodIn wsX7_fill wsX7_rightUpTo := goodIn_r _ [12, 6, 2, 1, 13, 14, 15, 16, 11, 17, 3, 7, 18, 19, 20, 21, 22, 23, 24, 39, 40, 41, 42, 43, 44, 45, 46, 47, 48, 49, 50, 51, 52, 53, 54] (by decide +kernel) (by decide +kernel)
set_option maxRecDepth 20000 in
theorem gX7_fill_X7_rightUpTo : GoodIn wsX7_fill (wsV RX7 159 RX7 yX7_rightUpTo wsX7_rightUpTo) := goodIn_app (goodIn_of _ (by decide +kernel)) ggX7_fill_X7_rightUpTo
set_option maxRecDepth 20000 in
theorem ggX7_fill_X7_save : GoodIn wsX7_fill wsX7_save := goodIn_r _ [28, 29, 30, 3, 39, 40, 41, 42, 43, 44, 45, 46, 47, 48, 49, 50, 51, 52, 53, 54] (by decide +kernel) (by decide +kernel)
set_option maxRecDepth 20000 in
theorem gX7_fill_X7_save : GoodIn wsX7_fill (wsV RX7 107 RX7 yX7_save wsX7_save) := goodIn_app (goodIn_of _ (by decide +kernel)) ggX7_fill_X7_save
set_option maxRecDepth 20000 in
theorem ggX7_fill_X7_rows : GoodIn wsX7_fill wsX7_rows := goodIn_r _ [34, 3, 39, 40, 41, 42, 43, 44, 45, 46, 47, 48, 49, 50, 51, 52, 53, 54] (by decide +kernel) (by decide +kernel)
set_option maxRecDepth 20000 in
theorem gX7_fill_X7_rows : GoodIn wsX7_fill (wsV RX7 45 RX7 yX7_rows wsX7_rows) := goodIn_app (goodIn_of _ (by decide +kernel)) ggX7_fill_X7_rows
set_option maxRecDepth 20000 in
theorem ggX7_fill_X7_setTruth : GoodIn wsX7_fill wsX7_setTruth := goodIn_r _ [38, 3, 39, 40, 41, 42, 43, 44, 45, 46, 47, 48, 49, 50, 51, 52, 53, 54] (by decide +kernel) (by decide +kernel)
set_option maxRecDepth 20000 in
theorem gX7_fill_X7_setTruth : GoodIn wsX7_fill (wsV RX7 116 RX7 yX7_setTruth wsX7_setTruth) := goodIn_app (goodIn_of _ (by decide +kernel)) ggX7_fill_X7_setTruth
theorem dX7_fill_0 : decode cX7_fill 0 = .ok (.aload_n 0, 1) := by decide +kernel
theorem dX7_fill_1 : decode cX7_fill 1 = .ok (.invokevirtual 159, 3) := by decide +kernel
theorem dX7_fill_4 : decode cX7_fill 4 = .ok (.aload_n 0, 1) := by decide +kernel
theorem dX7_fill_5 : decode cX7_fill 5 = .ok (.getfield 144, 3) := by decide +kernel
theorem dX7_fill_8 : decode cX7_fill 8 = .ok (.if_icmp .ne 22, 3) := by decide +kernel
theorem dX7_fill_11 : decode cX7_fill 11 = .ok (.aload_n 0, 1) := by decide +kernel
theorem dX7_fill_12 : decode cX7_fill 12 = .ok (.getfield 150, 3) := by decide +kernel
theorem dX7_fill_15 : decode cX7_fill 15 = .ok (.aload_n 0, 1) := by decide +kernel
theorem dX7_fill_16 : decode cX7_fill 16 = .ok (.getfield 7, 3) := by decide +kernel
theorem dX7_fill_19 : decode cX7_fill 19 = .ok (.iconst 0, 1) := by decide +kernel
theorem dX7_fill_20 : decode cX7_fill 20 = .ok (.iaload, 1) := by decide +kernel
theorem dX7_fill_21 : decode cX7_fill 21 = .ok (.iconst 4, 1) := by decide +kernel
theorem dX7_fill_22 : decode cX7_fill 22 = .ok (.iadd, 1) := by decide +kernel
theorem dX7_fill_23 : decode cX7_fill 23 = .ok (.if_icmp .ne 7, 3) := by decide +kernel
theorem dX7_fill_26 : decode cX7_fill 26 = .ok (.iconst 1, 1) := by decide +kernel
theorem dX7_fill_27 : decode cX7_fill 27 = .ok (.goto 4, 3) := by decide +kernel
theorem dX7_fill_30 : decode cX7_fill 30 = .ok (.iconst 0, 1) := by decide +kernel
theorem dX7_fill_31 : decode cX7_fill 31 = .ok (.istore_n 1, 1) := by decide +kernel
theorem dX7_fill_32 : decode cX7_fill 32 = .ok (.aload_n 0, 1) := by decide +kernel
theorem dX7_fill_33 : decode cX7_fill 33 = .ok (.iload_n 1, 1) := by decide +kernel
theorem dX7_fill_34 : decode cX7_fill 34 = .ok (.ifCond .eq 7, 3) := by decide +kernel
theorem dX7_fill_37 : decode cX7_fill 37 = .ok (.iconst 0, 1) := by decide +kernel
theorem dX7_fill_38 : decode cX7_fill 38 = .ok (.goto 4, 3) := by decide +kernel
theorem dX7_fill_41 : decode cX7_fill 41 = .ok (.iconst 1, 1) := by decide +kernel
theorem dX7_fill_42 : decode cX7_fill 42 = .ok (.putfield 38, 3) := by decide +kernel
theorem dX7_fill_45 : decode cX7_fill 45 = .ok (.aload_n 0, 1) := by decide +kernel
theorem dX7_fill_46 : decode cX7_fill 46 = .ok (.getfield 38, 3) := by decide +kernel
theorem dX7_fill_49 : decode cX7_fill 49 = .ok (.ifCond .le 5, 3) := by decide +kernel
theorem dX7_fill_52 : decode cX7_fill 52 = .ok (.iconst 0, 1) := by decide +kernel
theorem dX7_fill_53 : decode cX7_fill 53 = .ok (.ireturn, 1) := by decide +kernel
theorem dX7_fill_54 : decode cX7_fill 54 = .ok (.aload_n 0, 1) := by decide +kernel
theorem dX7_fill_55 : decode cX7_fill 55 = .ok (.invokevirtual 107, 3) := by decide +kernel
theorem dX7_fill_58 : decode cX7_fill 58 = .ok (.aload_n 0, 1) := by decide +kernel
theorem dX7_fill_59 : decode cX7_fill 59 = .ok (.iconst 0, 1) := by decide +kernel
theorem dX7_fill_60 : decode cX7_fill 60 = .ok (.putfield 144, 3) := by decide +kernel
theorem dX7_fill_63 : decode cX7_fill 63 = .ok (.iconst 0, 1) := by decide +kernel
theorem dX7_fill_64 : decode cX7_fill 64 = .ok (.istore_n 2, 1) := by decide +kernel
theorem dX7_fill_65 : decode cX7_fill 65 = .ok (.iload_n 2, 1) := by decide +kernel
theorem dX7_fill_66 : decode cX7_fill 66 = .ok (.sipush 256, 3) := by decide +kernel
theorem dX7_fill_69 : decode cX7_fill 69 = .ok (.if_icmp .ge 24, 3) := by decide +kernel
theorem dX7_fill_72 : decode cX7_fill 72 = .ok (.aload_n 0, 1) := by decide +kernel
theorem dX7_fill_73 : decode cX7_fill 73 = .ok (.getfield 35, 3) := by decide +kernel
theorem dX7_fill_76 : decode cX7_fill 76 = .ok (.iload_n 2, 1) := by decide +kernel
theorem dX7_fill_77 : decode cX7_fill 77 = .ok (.aload_n 0, 1) := by decide +kernel
theorem dX7_fill_78 : decode cX7_fill 78 = .ok (.getfield 7, 3) := by decide +kernel
theorem dX7_fill_81 : decode cX7_fill 81 = .ok (.bipush 12, 2) := by decide +kernel
theorem dX7_fill_83 : decode cX7_fill 83 = .ok (.iload_n 2, 1) := by decide +kernel
theorem dX7_fill_84 : decode cX7_fill 84 = .ok (.iadd, 1) := by decide +kernel
theorem dX7_fill_85 : decode cX7_fill 85 = .ok (.iaload, 1) := by decide +kernel
theorem dX7_fill_86 : decode cX7_fill 86 = .ok (.iastore, 1) := by decide +kernel
theorem dX7_fill_87 : decode cX7_fill 87 = .ok (.iinc 2 1, 3) := by decide +kernel
theorem dX7_fill_90 : decode cX7_fill 90 = .ok (.goto (-25), 3) := by decide +kernel
theorem dX7_fill_93 : decode cX7_fill 93 = .ok (.iconst 0, 1) := by decide +kernel
theorem dX7_fill_94 : decode cX7_fill 94 = .ok (.istore_n 2, 1) := by decide +kernel
theorem dX7_fill_95 : decode cX7_fill 95 = .ok (.iload_n 2, 1) := by decide +kernel
theorem dX7_fill_96 : decode cX7_fill 96 = .ok (.aload_n 0, 1) := by decide +kernel
theorem dX7_fill_97 : decode cX7_fill 97 = .ok (.getfield 147, 3) := by decide +kernel
theorem dX7_fill_100 : decode cX7_fill 100 = .ok (.if_icmp .gt 73, 3) := by decide +kernel
theorem dX7_fill_103 : decode cX7_fill 103 = .ok (.iconst 0, 1) := by decide +kernel
theorem dX7_fill_104 : decode cX7_fill 104 = .ok (.istore_n 3, 1) := by decide +kernel
theorem dX7_fill_105 : decode cX7_fill 105 = .ok (.iload_n 3, 1) := by decide +kernel
theorem dX7_fill_106 : decode cX7_fill 106 = .ok (.aload_n 0, 1) := by decide +kernel
theorem dX7_fill_107 : decode cX7_fill 107 = .ok (.invokevirtual 45, 3) := by decide +kernel
theorem dX7_fill_110 : decode cX7_fill 110 = .ok (.if_icmp .ge 57, 3) := by decide +kernel
theorem dX7_fill_113 : decode cX7_fill 113 = .ok (.iload_n 3, 1) := by decide +kernel
theorem dX7_fill_114 : decode cX7_fill 114 = .ok (.aload_n 0, 1) := by decide +kernel
theorem dX7_fill_115 : decode cX7_fill 115 = .ok (.getfield 32, 3) := by decide +kernel
theorem dX7_fill_118 : decode cX7_fill 118 = .ok (.iconst 4, 1) := by decide +kernel
theorem dX7_fill_119 : decode cX7_fill 119 = .ok (.iload_n 2, 1) := by decide +kernel
theorem dX7_fill_120 : decode cX7_fill 120 = .ok (.imul, 1) := by decide +kernel
theorem dX7_fill_121 : decode cX7_fill 121 = .ok (.iaload, 1) := by decide +kernel
theorem dX7_fill_122 : decode cX7_fill 122 = .ok (.iand, 1) := by decide +kernel
theorem dX7_fill_123 : decode cX7_fill 123 = .ok (.aload_n 0, 1) := by decide +kernel
theorem dX7_fill_124 : decode cX7_fill 124 = .ok (.getfield 32, 3) := by decide +kernel
theorem dX7_fill_127 : decode cX7_fill 127 = .ok (.iconst 4, 1) := by decide +kernel
theorem dX7_fill_128 : decode cX7_fill 128 = .ok (.iload_n 2, 1) := by decide +kernel
theorem dX7_fill_129 : decode cX7_fill 129 = .ok (.imul, 1) := by decide +kernel
theorem dX7_fill_130 : decode cX7_fill 130 = .ok (.iconst 1, 1) := by decide +kernel
theorem dX7_fill_131 : decode cX7_fill 131 = .ok (.iadd, 1) := by decide +kernel
theorem dX7_fill_132 : decode cX7_fill 132 = .ok (.iaload, 1) := by decide +kernel
theorem dX7_fill_133 : decode cX7_fill 133 = .ok (.if_icmp .ne 28, 3) := by decide +kernel
theorem dX7_fill_136 : decode cX7_fill 136 = .ok (.aload_n 0, 1) := by decide +kernel
theorem dX7_fill_137 : decode cX7_fill 137 = .ok (.aload_n 0, 1) := by decide +kernel
theorem dX7_fill_138 : decode cX7_fill 138 = .ok (.getfield 32, 3) := by decide +kernel
theorem dX7_fill_141 : decode cX7_fill 141 = .ok (.iconst 4, 1) := by decide +kernel
theorem dX7_fill_142 : decode cX7_fill 142 = .ok (.iload_n 2, 1) := by decide +kernel
theorem dX7_fill_143 : decode cX7_fill 143 = .ok (.imul, 1) := by decide +kernel
theorem dX7_fill_144 : decode cX7_fill 144 = .ok (.iconst 2, 1) := by decide +kernel
theorem dX7_fill_145 : decode cX7_fill 145 = .ok (.iadd, 1) := by decide +kernel
theorem dX7_fill_146 : decode cX7_fill 146 = .ok (.iaload, 1) := by decide +kernel
theorem dX7_fill_147 : decode cX7_fill 147 = .ok (.iload_n 3, 1) := by decide +kernel
theorem dX7_fill_148 : decode cX7_fill 148 = .ok (.aload_n 0, 1) := by decide +kernel
theorem dX7_fill_149 : decode cX7_fill 149 = .ok (.getfield 32, 3) := by decide +kernel
theorem dX7_fill_152 : decode cX7_fill 152 = .ok (.iconst 4, 1) := by decide +kernel
theorem dX7_fill_153 : decode cX7_fill 153 = .ok (.iload_n 2, 1) := by decide +kernel
theorem dX7_fill_154 : decode cX7_fill 154 = .ok (.imul, 1) := by decide +kernel
theorem dX7_fill_155 : decode cX7_fill 155 = .ok (.iconst 3, 1) := by decide +kernel
theorem dX7_fill_156 : decode cX7_fill 156 = .ok (.iadd, 1) := by decide +kernel
theorem dX7_fill_157 : decode cX7_fill 157 = .ok (.iaload, 1) := by decide +kernel
theorem dX7_fill_158 : decode cX7_fill 158 = .ok (.invokevirtual 116, 3) := by decide +kernel
theorem dX7_fill_161 : decode cX7_fill 161 = .ok (.iinc 3 1, 3) := by decide +kernel
theorem dX7_fill_164 : decode cX7_fill 164 = .ok (.goto (-59), 3) := by decide +kernel
theorem dX7_fill_167 : decode cX7_fill 167 = .ok (.iinc 2 1, 3) := by decide +kernel
theorem dX7_fill_170 : decode cX7_fill 170 = .ok (.goto (-75), 3) := by decide +kernel
theorem dX7_fill_173 : decode cX7_fill 173 = .ok (.iconst 0, 1) := by decide +kernel
theorem dX7_fill_174 : decode cX7_fill 174 = .ok (.istore_n 2, 1) := by decide +kernel
theorem dX7_fill_175 : decode cX7_fill 175 = .ok (.iconst 0, 1) := by decide +kernel
theorem dX7_fill_176 : decode cX7_fill 176 = .ok (.istore_n 3, 1) := by decide +kernel
theorem dX7_fill_177 : decode cX7_fill 177 = .ok (.iload_n 3, 1) := by decide +kernel
theorem dX7_fill_178 : decode cX7_fill 178 = .ok (.sipush 256, 3) := by decide +kernel
theorem dX7_fill_181 : decode cX7_fill 181 = .ok (.if_icmp .ge 35, 3) := by decide +kernel
theorem dX7_fill_184 : decode cX7_fill 184 = .ok (.iload_n 2, 1) := by decide +kernel
theorem dX7_fill_185 : decode cX7_fill 185 = .ok (.aload_n 0, 1) := by decide +kernel
theorem dX7_fill_186 : decode cX7_fill 186 = .ok (.getfield 35, 3) := by decide +kernel
theorem dX7_fill_189 : decode cX7_fill 189 = .ok (.iload_n 3, 1) := by decide +kernel
theorem dX7_fill_190 : decode cX7_fill 190 = .ok (.iaload, 1) := by decide +kernel
theorem dX7_fill_191 : decode cX7_fill 191 = .ok (.aload_n 0, 1) := by decide +kernel
theorem dX7_fill_192 : decode cX7_fill 192 = .ok (.getfield 7, 3) := by decide +kernel
theorem dX7_fill_195 : decode cX7_fill 195 = .ok (.bipush 12, 2) := by decide +kernel
theorem dX7_fill_197 : decode cX7_fill 197 = .ok (.iload_n 3, 1) := by decide +kernel
theorem dX7_fill_198 : decode cX7_fill 198 = .ok (.iadd, 1) := by decide +kernel
theorem dX7_fill_199 : decode cX7_fill 199 = .ok (.iaload, 1) := by decide +kernel
theorem dX7_fill_200 : decode cX7_fill 200 = .ok (.if_icmp .ne 7, 3) := by decide +kernel
theorem dX7_fill_203 : decode cX7_fill 203 = .ok (.iconst 0, 1) := by decide +kernel
theorem dX7_fill_204 : decode cX7_fill 204 = .ok (.goto 4, 3) := by decide +kernel
theorem dX7_fill_207 : decode cX7_fill 207 = .ok (.iconst 1, 1) := by decide +kernel
theorem dX7_fill_208 : decode cX7_fill 208 = .ok (.iadd, 1) := by decide +kernel
theorem dX7_fill_209 : decode cX7_fill 209 = .ok (.istore_n 2, 1) := by decide +kernel
theorem dX7_fill_210 : decode cX7_fill 210 = .ok (.iinc 3 1, 3) := by decide +kernel
theorem dX7_fill_213 : decode cX7_fill 213 = .ok (.goto (-36), 3) := by decide +kernel
theorem dX7_fill_216 : decode cX7_fill 216 = .ok (.iload_n 2, 1) := by decide +kernel
theorem dX7_fill_217 : decode cX7_fill 217 = .ok (.ireturn, 1) := by decide +kernel
theorem dX7_undo_0 : decode cX7_undo 0 = .ok (.aload_n 0, 1) := by decide +kernel
theorem dX7_undo_1 : decode cX7_undo 1 = .ok (.aload_n 0, 1) := by decide +kernel
theorem dX7_undo_2 : decode cX7_undo 2 = .ok (.getfield 42, 3) := by decide +kernel
theorem dX7_undo_5 : decode cX7_undo 5 = .ok (.ifCond .le 7, 3) := by decide +kernel
theorem dX7_undo_8 : decode cX7_undo 8 = .ok (.iconst 0, 1) := by decide +kernel
theorem dX7_undo_9 : decode cX7_undo 9 = .ok (.goto 4, 3) := by decide +kernel
theorem dX7_undo_12 : decode cX7_undo 12 = .ok (.iconst 1, 1) := by decide +kernel
theorem dX7_undo_13 : decode cX7_undo 13 = .ok (.putfield 38, 3) := by decide +kernel
theorem dX7_undo_16 : decode cX7_undo 16 = .ok (.aload_n 0, 1) := by decide +kernel
theorem dX7_undo_17 : decode cX7_undo 17 = .ok (.getfield 38, 3) := by decide +kernel
theorem dX7_undo_20 : decode cX7_undo 20 = .ok (.ifCond .le 5, 3) := by decide +kernel
theorem dX7_undo_23 : decode cX7_undo 23 = .ok (.iconst 0, 1) := by decide +kernel
theorem dX7_undo_24 : decode cX7_undo 24 = .ok (.ireturn, 1) := by decide +kernel
theorem dX7_undo_25 : decode cX7_undo 25 = .ok (.aload_n 0, 1) := by decide +kernel
theorem dX7_undo_26 : decode cX7_undo 26 = .ok (.dup, 1) := by decide +kernel
theorem dX7_undo_27 : decode cX7_undo 27 = .ok (.getfield 42, 3) := by decide +kernel
theorem dX7_undo_30 : decode cX7_undo 30 = .ok (.iconst 1, 1) := by decide +kernel
theorem dX7_undo_31 : decode cX7_undo 31 = .ok (.isub, 1) := by decide +kernel
theorem dX7_undo_32 : decode cX7_undo 32 = .ok (.putfield 42, 3) := by decide +kernel
theorem dX7_undo_35 : decode cX7_undo 35 = .ok (.iconst 0, 1) := by decide +kernel
theorem dX7_undo_36 : decode cX7_undo 36 = .ok (.istore_n 1, 1) := by decide +kernel
theorem dX7_undo_37 : decode cX7_undo 37 = .ok (.iload_n 1, 1) := by decide +kernel
theorem dX7_undo_38 : decode cX7_undo 38 = .ok (.sipush 268, 3) := by decide +kernel
theorem dX7_undo_41 : decode cX7_undo 41 = .ok (.if_icmp .ge 30, 3) := by decide +kernel
theorem dX7_undo_44 : decode cX7_undo 44 = .ok (.aload_n 0, 1) := by decide +kernel
theorem dX7_undo_45 : decode cX7_undo 45 = .ok (.getfield 7, 3) := by decide +kernel
theorem dX7_undo_48 : decode cX7_undo 48 = .ok (.iload_n 1, 1) := by decide +kernel
theorem dX7_undo_49 : decode cX7_undo 49 = .ok (.aload_n 0, 1) := by decide +kernel
theorem dX7_undo_50 : decode cX7_undo 50 = .ok (.getfield 13, 3) := by decide +kernel
theorem dX7_undo_53 : decode cX7_undo 53 = .ok (.sipush 268, 3) := by decide +kernel
theorem dX7_undo_56 : decode cX7_undo 56 = .ok (.aload_n 0, 1) := by decide +kernel
theorem dX7_undo_57 : decode cX7_undo 57 = .ok (.getfield 42, 3) := by decide +kernel
theorem dX7_undo_60 : decode cX7_undo 60 = .ok (.imul, 1) := by decide +kernel
theorem dX7_undo_61 : decode cX7_undo 61 = .ok (.iload_n 1, 1) := by decide +kernel
theorem dX7_undo_62 : decode cX7_undo 62 = .ok (.iadd, 1) := by decide +kernel
theorem dX7_undo_63 : decode cX7_undo 63 = .ok (.iaload, 1) := by decide +kernel
theorem dX7_undo_64 : decode cX7_undo 64 = .ok (.iastore, 1) := by decide +kernel
theorem dX7_undo_65 : decode cX7_undo 65 = .ok (.iinc 1 1, 3) := by decide +kernel
theorem dX7_undo_68 : decode cX7_undo 68 = .ok (.goto (-31), 3) := by decide +kernel
theorem dX7_undo_71 : decode cX7_undo 71 = .ok (.aload_n 0, 1) := by decide +kernel
theorem dX7_undo_72 : decode cX7_undo 72 = .ok (.getfield 42, 3) := by decide +kernel
theorem dX7_undo_75 : decode cX7_undo 75 = .ok (.ireturn, 1) := by decide +kernel
set_option maxRecDepth 20000 in
theorem ggX7_atNow_X7_truth : GoodIn wsX7_atNow wsX7_truth := goodIn_r _ [5, 6, 21, 22, 23, 24, 25, 26, 27, 28, 29, 30, 31, 32, 33, 34, 35, 36] (by decide +kernel) (by decide +kernel)
set_option maxRecDepth 20000 in
theorem gX7_atNow_X7_truth : GoodIn wsX7_atNow (wsV RX7 53 RX7 yX7_truth wsX7_truth) := goodIn_app (goodIn_of _ (by decide +kernel)) ggX7_atNow_X7_truth
set_option maxRecDepth 20000 in
theorem ggX7_atNow_X7_decided : GoodIn wsX7_atNow wsX7_decided := goodIn_r _ [10, 6, 11, 12, 13, 4, 14, 1, 2, 3, 5, 21, 22, 23, 24, 25, 26, 27, 28, 29, 30, 31, 32, 33, 34, 35, 36] (by decide +kernel) (by decide +kernel)
set_option maxRecDepth 20000 in
theorem gX7_atNow_X7_decided : GoodIn wsX7_atNow (wsV RX7 57 RX7 yX7_decided wsX7_decided) := goodIn_app (goodIn_of _ (by decide +kernel)) ggX7_atNow_X7_decided
set_option maxRecDepth 20000 in
theorem ggX7_atNow_X7_answer : GoodIn wsX7_atNow wsX7_answer := goodIn_r _ [18, 19, 20, 21, 22, 23, 24, 25, 26, 27, 28, 29, 30, 31, 32, 33, 34, 35, 36] (by decide +kernel) (by decide +kernel)
set_option maxRecDepth 20000 in
theorem gX7_atNow_X7_answer : GoodIn wsX7_atNow (wsV RX7 141 RX7 yX7_answer wsX7_answer) := goodIn_app (goodIn_of _ (by decide +kernel)) ggX7_atNow_X7_answer
theorem dX7_atNow_0 : decode cX7_atNow 0 = .ok (.iload_n 3, 1) := by decide +kernel
theorem dX7_atNow_1 : decode cX7_atNow 1 = .ok (.ifCond .ne 12, 3) := by decide +kernel
theorem dX7_atNow_4 : decode cX7_atNow 4 = .ok (.aload_n 0, 1) := by decide +kernel
theorem dX7_atNow_5 : decode cX7_atNow 5 = .ok (.iload_n 1, 1) := by decide +kernel
theorem dX7_atNow_6 : decode cX7_atNow 6 = .ok (.iload_n 2, 1) := by decide +kernel
theorem dX7_atNow_7 : decode cX7_atNow 7 = .ok (.invokevirtual 53, 3) := by decide +kernel
theorem dX7_atNow_10 : decode cX7_atNow 10 = .ok (.goto 23, 3) := by decide +kernel
theorem dX7_atNow_13 : decode cX7_atNow 13 = .ok (.iload_n 3, 1) := by decide +kernel
theorem dX7_atNow_14 : decode cX7_atNow 14 = .ok (.iconst 1, 1) := by decide +kernel
theorem dX7_atNow_15 : decode cX7_atNow 15 = .ok (.if_icmp .ne 12, 3) := by decide +kernel
theorem dX7_atNow_18 : decode cX7_atNow 18 = .ok (.aload_n 0, 1) := by decide +kernel
theorem dX7_atNow_19 : decode cX7_atNow 19 = .ok (.iload_n 1, 1) := by decide +kernel
theorem dX7_atNow_20 : decode cX7_atNow 20 = .ok (.iload_n 2, 1) := by decide +kernel
theorem dX7_atNow_21 : decode cX7_atNow 21 = .ok (.invokevirtual 57, 3) := by decide +kernel
theorem dX7_atNow_24 : decode cX7_atNow 24 = .ok (.goto 9, 3) := by decide +kernel
theorem dX7_atNow_27 : decode cX7_atNow 27 = .ok (.aload_n 0, 1) := by decide +kernel
theorem dX7_atNow_28 : decode cX7_atNow 28 = .ok (.iload_n 1, 1) := by decide +kernel
theorem dX7_atNow_29 : decode cX7_atNow 29 = .ok (.iload_n 2, 1) := by decide +kernel
theorem dX7_atNow_30 : decode cX7_atNow 30 = .ok (.invokevirtual 141, 3) := by decide +kernel
theorem dX7_atNow_33 : decode cX7_atNow 33 = .ok (.ireturn, 1) := by decide +kernel
set_option maxRecDepth 20000 in
theorem ggX7_at_X7_isOutput : GoodIn wsX7_at wsX7_isOutput := goodIn_r _ [5, 6, 7, 4, 8] (by decide +kernel) (by decide +kernel)
set_option maxRecDepth 20000 in
theorem gX7_at_X7_isOutput : GoodIn wsX7_at (va_wsS RX7 110 yX7_isOutput wsX7_isOutput) := goodIn_app (goodIn_of _ (by decide +kernel)) ggX7_at_X7_isOutput
set_option maxRecDepth 20000 in
theorem ggX7_at_X7_isRow : GoodIn wsX7_at wsX7_isRow := goodIn_r _ [12, 13, 14, 15, 4, 16, 17, 6, 7, 8, 74, 75, 76, 77, 78, 79, 80, 81, 82, 83, 84, 85, 86, 87, 88, 89] (by decide +kernel) (by decide +kernel)
set_option maxRecDepth 20000 in
theorem gX7_at_X7_isRow : GoodIn wsX7_at (wsV RX7 113 RX7 yX7_isRow wsX7_isRow) := goodIn_app (goodIn_of _ (by decide +kernel)) ggX7_at_X7_isRow
set_option maxRecDepth 20000 in
theorem ggX7_at_X7_within : GoodIn wsX7_at wsX7_within := goodIn_r _ [8] (by decide +kernel) (by decide +kernel)
set_option maxRecDepth 20000 in
theorem gX7_at_X7_within : GoodIn wsX7_at (va_wsS RX7 49 yX7_within wsX7_within) := goodIn_app (goodIn_of _ (by decide +kernel)) ggX7_at_X7_within
set_option maxRecDepth 20000 in
theorem ggX7_at_X7_layCover : GoodIn wsX7_at wsX7_layCover := goodIn_r _ [21, 22, 23, 24, 25, 26, 27, 28, 4, 29, 30, 31, 32, 33, 34, 35, 13, 14, 15, 16, 17, 36, 37, 38, 39, 40, 41, 42, 43, 44, 45, 46, 47, 48, 49, 50, 51, 52, 53, 54, 55, 56, 57, 58, 59, 60, 61, 62, 63, 64, 65, 74, 75, 76, 77, 78, 79, 80, 81, 82, 83, 84, 85, 86, 87, 88, 89] (by decide +kernel) (by decide +kernel)
set_option maxRecDepth 20000 in
theorem gX7_at_X7_layCover : GoodIn wsX7_at (wsV RX7 97 RX7 yX7_layCover wsX7_layCover) := goodIn_app (goodIn_of _ (by decide +kernel)) ggX7_at_X7_layCover
set_option maxRecDepth 20000 in
theorem ggX7_at_X7_atNow : GoodIn wsX7_at wsX7_atNow := goodIn_r _ [69, 40, 41, 42, 4, 43, 17, 36, 37, 38, 39, 13, 14, 15, 16, 70, 71, 72, 73, 22, 23, 74, 75, 76, 77, 78, 79, 80, 81, 82, 83, 84, 85, 86, 87, 88, 89] (by decide +kernel) (by decide +kernel)
set_option maxRecDepth 20000 in
theorem gX7_at_X7_atNow : GoodIn wsX7_at (wsV RX7 162 RX7 yX7_atNow wsX7_atNow) := goodIn_app (goodIn_of _ (by decide +kernel)) ggX7_at_X7_atNow
theorem dX7_at_0 : decode cX7_at 0 = .ok (.aload_n 0, 1) := by decide +kernel
theorem dX7_at_1 : decode cX7_at 1 = .ok (.iload_n 1, 1) := by decide +kernel
theorem dX7_at_2 : decode cX7_at 2 = .ok (.invokestatic 110, 3) := by decide +kernel
theorem dX7_at_5 : decode cX7_at 5 = .ok (.ifCond .eq 11, 3) := by decide +kernel
theorem dX7_at_8 : decode cX7_at 8 = .ok (.aload_n 0, 1) := by decide +kernel
theorem dX7_at_9 : decode cX7_at 9 = .ok (.iload_n 2, 1) := by decide +kernel
theorem dX7_at_10 : decode cX7_at 10 = .ok (.invokevirtual 113, 3) := by decide +kernel
theorem dX7_at_13 : decode cX7_at 13 = .ok (.ifCond .ne 7, 3) := by decide +kernel
theorem dX7_at_16 : decode cX7_at 16 = .ok (.iconst 1, 1) := by decide +kernel
theorem dX7_at_17 : decode cX7_at 17 = .ok (.goto 17, 3) := by decide +kernel
theorem dX7_at_20 : decode cX7_at 20 = .ok (.iload_n 3, 1) := by decide +kernel
theorem dX7_at_21 : decode cX7_at 21 = .ok (.iconst 0, 1) := by decide +kernel
theorem dX7_at_22 : decode cX7_at 22 = .ok (.iconst 2, 1) := by decide +kernel
theorem dX7_at_23 : decode cX7_at 23 = .ok (.invokestatic 49, 3) := by decide +kernel
theorem dX7_at_26 : decode cX7_at 26 = .ok (.ifCond .eq 7, 3) := by decide +kernel
theorem dX7_at_29 : decode cX7_at 29 = .ok (.iconst 0, 1) := by decide +kernel
theorem dX7_at_30 : decode cX7_at 30 = .ok (.goto 4, 3) := by decide +kernel
theorem dX7_at_33 : decode cX7_at 33 = .ok (.iconst 2, 1) := by decide +kernel
theorem dX7_at_34 : decode cX7_at 34 = .ok (.putfield 38, 3) := by decide +kernel
theorem dX7_at_37 : decode cX7_at 37 = .ok (.aload_n 0, 1) := by decide +kernel
theorem dX7_at_38 : decode cX7_at 38 = .ok (.getfield 38, 3) := by decide +kernel
theorem dX7_at_41 : decode cX7_at 41 = .ok (.ifCond .le 5, 3) := by decide +kernel
theorem dX7_at_44 : decode cX7_at 44 = .ok (.iconst 0, 1) := by decide +kernel
theorem dX7_at_45 : decode cX7_at 45 = .ok (.ireturn, 1) := by decide +kernel
theorem dX7_at_46 : decode cX7_at 46 = .ok (.aload_n 0, 1) := by decide +kernel
theorem dX7_at_47 : decode cX7_at 47 = .ok (.iload_n 1, 1) := by decide +kernel
theorem dX7_at_48 : decode cX7_at 48 = .ok (.invokevirtual 97, 3) := by decide +kernel
theorem dX7_at_51 : decode cX7_at 51 = .ok (.aload_n 0, 1) := by decide +kernel
theorem dX7_at_52 : decode cX7_at 52 = .ok (.iload_n 1, 1) := by decide +kernel
theorem dX7_at_53 : decode cX7_at 53 = .ok (.iload_n 2, 1) := by decide +kernel
theorem dX7_at_54 : decode cX7_at 54 = .ok (.iload_n 3, 1) := by decide +kernel
theorem dX7_at_55 : decode cX7_at 55 = .ok (.invokevirtual 162, 3) := by decide +kernel
theorem dX7_at_58 : decode cX7_at 58 = .ok (.ireturn, 1) := by decide +kernel
set_option maxRecDepth 20000 in
theorem ggX7_coverOf_X7_ones : GoodIn wsX7_coverOf wsX7_ones := goodIn_r _ [6] (by decide +kernel) (by decide +kernel)
set_option maxRecDepth 20000 in
theorem gX7_coverOf_X7_ones : GoodIn wsX7_coverOf (va_wsS RX7 85 yX7_ones wsX7_ones) := goodIn_app (goodIn_of _ (by decide +kernel)) ggX7_coverOf_X7_ones
theorem dX7_coverOf_0 : decode cX7_coverOf 0 = .ok (.iconst 0, 1) := by decide +kernel
theorem dX7_coverOf_1 : decode cX7_coverOf 1 = .ok (.istore_n 3, 1) := by decide +kernel
theorem dX7_coverOf_2 : decode cX7_coverOf 2 = .ok (.iconst 0, 1) := by decide +kernel
theorem dX7_coverOf_3 : decode cX7_coverOf 3 = .ok (.istore 4, 2) := by decide +kernel
theorem dX7_coverOf_5 : decode cX7_coverOf 5 = .ok (.iconst 0, 1) := by decide +kernel
theorem dX7_coverOf_6 : decode cX7_coverOf 6 = .ok (.istore 5, 2) := by decide +kernel
theorem dX7_coverOf_8 : decode cX7_coverOf 8 = .ok (.iload 5, 2) := by decide +kernel
theorem dX7_coverOf_10 : decode cX7_coverOf 10 = .ok (.aload_n 0, 1) := by decide +kernel
theorem dX7_coverOf_11 : decode cX7_coverOf 11 = .ok (.getfield 29, 3) := by decide +kernel
theorem dX7_coverOf_14 : decode cX7_coverOf 14 = .ok (.iload_n 1, 1) := by decide +kernel
theorem dX7_coverOf_15 : decode cX7_coverOf 15 = .ok (.iaload, 1) := by decide +kernel
theorem dX7_coverOf_16 : decode cX7_coverOf 16 = .ok (.if_icmp .ge 41, 3) := by decide +kernel
theorem dX7_coverOf_19 : decode cX7_coverOf 19 = .ok (.aload_n 0, 1) := by decide +kernel
theorem dX7_coverOf_20 : decode cX7_coverOf 20 = .ok (.getfield 26, 3) := by decide +kernel
theorem dX7_coverOf_23 : decode cX7_coverOf 23 = .ok (.bipush 64, 2) := by decide +kernel
theorem dX7_coverOf_25 : decode cX7_coverOf 25 = .ok (.iload_n 1, 1) := by decide +kernel
theorem dX7_coverOf_26 : decode cX7_coverOf 26 = .ok (.imul, 1) := by decide +kernel
theorem dX7_coverOf_27 : decode cX7_coverOf 27 = .ok (.iload 5, 2) := by decide +kernel
theorem dX7_coverOf_29 : decode cX7_coverOf 29 = .ok (.iadd, 1) := by decide +kernel
theorem dX7_coverOf_30 : decode cX7_coverOf 30 = .ok (.iaload, 1) := by decide +kernel
theorem dX7_coverOf_31 : decode cX7_coverOf 31 = .ok (.bipush 64, 2) := by decide +kernel
theorem dX7_coverOf_33 : decode cX7_coverOf 33 = .ok (.idiv, 1) := by decide +kernel
theorem dX7_coverOf_34 : decode cX7_coverOf 34 = .ok (.istore 6, 2) := by decide +kernel
theorem dX7_coverOf_36 : decode cX7_coverOf 36 = .ok (.iload_n 3, 1) := by decide +kernel
theorem dX7_coverOf_37 : decode cX7_coverOf 37 = .ok (.iload 6, 2) := by decide +kernel
theorem dX7_coverOf_39 : decode cX7_coverOf 39 = .ok (.invokestatic 85, 3) := by decide +kernel
theorem dX7_coverOf_42 : decode cX7_coverOf 42 = .ok (.iadd, 1) := by decide +kernel
theorem dX7_coverOf_43 : decode cX7_coverOf 43 = .ok (.istore_n 3, 1) := by decide +kernel
theorem dX7_coverOf_44 : decode cX7_coverOf 44 = .ok (.iload 4, 2) := by decide +kernel
theorem dX7_coverOf_46 : decode cX7_coverOf 46 = .ok (.iload 6, 2) := by decide +kernel
theorem dX7_coverOf_48 : decode cX7_coverOf 48 = .ok (.ior, 1) := by decide +kernel
theorem dX7_coverOf_49 : decode cX7_coverOf 49 = .ok (.istore 4, 2) := by decide +kernel
theorem dX7_coverOf_51 : decode cX7_coverOf 51 = .ok (.iinc 5 1, 3) := by decide +kernel
theorem dX7_coverOf_54 : decode cX7_coverOf 54 = .ok (.goto (-46), 3) := by decide +kernel
theorem dX7_coverOf_57 : decode cX7_coverOf 57 = .ok (.iload_n 2, 1) := by decide +kernel
theorem dX7_coverOf_58 : decode cX7_coverOf 58 = .ok (.bipush 6, 2) := by decide +kernel
theorem dX7_coverOf_60 : decode cX7_coverOf 60 = .ok (.if_icmp .ne 12, 3) := by decide +kernel
theorem dX7_coverOf_63 : decode cX7_coverOf 63 = .ok (.aload_n 0, 1) := by decide +kernel
theorem dX7_coverOf_64 : decode cX7_coverOf 64 = .ok (.getfield 29, 3) := by decide +kernel
theorem dX7_coverOf_67 : decode cX7_coverOf 67 = .ok (.iload_n 1, 1) := by decide +kernel
theorem dX7_coverOf_68 : decode cX7_coverOf 68 = .ok (.iaload, 1) := by decide +kernel
theorem dX7_coverOf_69 : decode cX7_coverOf 69 = .ok (.goto 15, 3) := by decide +kernel
theorem dX7_coverOf_72 : decode cX7_coverOf 72 = .ok (.iload_n 2, 1) := by decide +kernel
theorem dX7_coverOf_73 : decode cX7_coverOf 73 = .ok (.bipush 7, 2) := by decide +kernel
theorem dX7_coverOf_75 : decode cX7_coverOf 75 = .ok (.if_icmp .ne 7, 3) := by decide +kernel
theorem dX7_coverOf_78 : decode cX7_coverOf 78 = .ok (.iload_n 3, 1) := by decide +kernel
theorem dX7_coverOf_79 : decode cX7_coverOf 79 = .ok (.goto 5, 3) := by decide +kernel
theorem dX7_coverOf_82 : decode cX7_coverOf 82 = .ok (.iload 4, 2) := by decide +kernel
theorem dX7_coverOf_84 : decode cX7_coverOf 84 = .ok (.ireturn, 1) := by decide +kernel
set_option maxRecDepth 20000 in
theorem ggX7_outputNow_X7_truthsOf : GoodIn wsX7_outputNow wsX7_truthsOf := goodIn_r _ [7, 8, 9, 10, 6, 11, 2, 12, 13, 14, 15, 55, 56, 57, 58, 59, 60, 61, 62, 63, 64, 65, 66, 67, 68, 69, 70] (by decide +kernel) (by decide +kernel)
set_option maxRecDepth 20000 in
theorem gX7_outputNow_X7_truthsOf : GoodIn wsX7_outputNow (wsV RX7 120 RX7 yX7_truthsOf wsX7_truthsOf) := goodIn_app (goodIn_of _ (by decide +kernel)) ggX7_outputNow_X7_truthsOf
set_option maxRecDepth 20000 in
theorem ggX7_outputNow_X7_decidedRows : GoodIn wsX7_outputNow wsX7_decidedRows := goodIn_r _ [19, 8, 9, 10, 6, 11, 2, 20, 21, 22, 23, 12, 13, 14, 15, 55, 56, 57, 58, 59, 60, 61, 62, 63, 64, 65, 66, 67, 68, 69, 70] (by decide +kernel) (by decide +kernel)
set_option maxRecDepth 20000 in
theorem gX7_outputNow_X7_decidedRows : GoodIn wsX7_outputNow (wsV RX7 60 RX7 yX7_decidedRows wsX7_decidedRows) := goodIn_app (goodIn_of _ (by decide +kernel)) ggX7_outputNow_X7_decidedRows
set_option maxRecDepth 20000 in
theorem ggX7_outputNow_X7_layPrimes : GoodIn wsX7_outputNow wsX7_layPrimes := goodIn_r _ [27, 1, 28, 29, 30, 31, 6, 32, 33, 8, 9, 10, 11, 2, 20, 21, 22, 23, 12, 13, 14, 15, 34, 35, 36, 37, 38, 39, 40, 41, 42, 43, 44, 45, 55, 56, 57, 58, 59, 60, 61, 62, 63, 64, 65, 66, 67, 68, 69, 70] (by decide +kernel) (by decide +kernel)
set_option maxRecDepth 20000 in
theorem gX7_outputNow_X7_layPrimes : GoodIn wsX7_outputNow (wsV RX7 89 RX7 yX7_layPrimes wsX7_layPrimes) := goodIn_app (goodIn_of _ (by decide +kernel)) ggX7_outputNow_X7_layPrimes
set_option maxRecDepth 20000 in
theorem ggX7_outputNow_X7_coverOf : GoodIn wsX7_outputNow wsX7_coverOf := goodIn_r _ [49, 50, 51, 52, 53, 6, 54, 55, 56, 57, 58, 59, 60, 61, 62, 63, 64, 65, 66, 67, 68, 69, 70] (by decide +kernel) (by decide +kernel)
set_option maxRecDepth 20000 in
theorem gX7_outputNow_X7_coverOf : GoodIn wsX7_outputNow (wsV RX7 166 RX7 yX7_coverOf wsX7_coverOf) := goodIn_app (goodIn_of _ (by decide +kernel)) ggX7_outputNow_X7_coverOf
theorem dX7_outputNow_0 : decode cX7_outputNow 0 = .ok (.iload_n 2, 1) := by decide +kernel
theorem dX7_outputNow_1 : decode cX7_outputNow 1 = .ok (.tableswitch 102 0 9 #[55, 55, 64, 64, 64, 73, 102, 102, 83, 92], 55) := by decide +kernel
theorem dX7_outputNow_56 : decode cX7_outputNow 56 = .ok (.aload_n 0, 1) := by decide +kernel
theorem dX7_outputNow_57 : decode cX7_outputNow 57 = .ok (.iload_n 1, 1) := by decide +kernel
theorem dX7_outputNow_58 : decode cX7_outputNow 58 = .ok (.iload_n 2, 1) := by decide +kernel
theorem dX7_outputNow_59 : decode cX7_outputNow 59 = .ok (.iconst 1, 1) := by decide +kernel
theorem dX7_outputNow_60 : decode cX7_outputNow 60 = .ok (.iadd, 1) := by decide +kernel
theorem dX7_outputNow_61 : decode cX7_outputNow 61 = .ok (.invokevirtual 120, 3) := by decide +kernel
theorem dX7_outputNow_64 : decode cX7_outputNow 64 = .ok (.ireturn, 1) := by decide +kernel
theorem dX7_outputNow_65 : decode cX7_outputNow 65 = .ok (.aload_n 0, 1) := by decide +kernel
theorem dX7_outputNow_66 : decode cX7_outputNow 66 = .ok (.iload_n 1, 1) := by decide +kernel
theorem dX7_outputNow_67 : decode cX7_outputNow 67 = .ok (.iload_n 2, 1) := by decide +kernel
theorem dX7_outputNow_68 : decode cX7_outputNow 68 = .ok (.iconst 1, 1) := by decide +kernel
theorem dX7_outputNow_69 : decode cX7_outputNow 69 = .ok (.isub, 1) := by decide +kernel
theorem dX7_outputNow_70 : decode cX7_outputNow 70 = .ok (.invokevirtual 60, 3) := by decide +kernel
theorem dX7_outputNow_73 : decode cX7_outputNow 73 = .ok (.ireturn, 1) := by decide +kernel
theorem dX7_outputNow_74 : decode cX7_outputNow 74 = .ok (.aload_n 0, 1) := by decide +kernel
theorem dX7_outputNow_75 : decode cX7_outputNow 75 = .ok (.iload_n 1, 1) := by decide +kernel
theorem dX7_outputNow_76 : decode cX7_outputNow 76 = .ok (.invokevirtual 89, 3) := by decide +kernel
theorem dX7_outputNow_79 : decode cX7_outputNow 79 = .ok (.aload_n 0, 1) := by decide +kernel
theorem dX7_outputNow_80 : decode cX7_outputNow 80 = .ok (.getfield 75, 3) := by decide +kernel
theorem dX7_outputNow_83 : decode cX7_outputNow 83 = .ok (.ireturn, 1) := by decide +kernel
theorem dX7_outputNow_84 : decode cX7_outputNow 84 = .ok (.aload_n 0, 1) := by decide +kernel
theorem dX7_outputNow_85 : decode cX7_outputNow 85 = .ok (.getfield 7, 3) := by decide +kernel
theorem dX7_outputNow_88 : decode cX7_outputNow 88 = .ok (.iconst 4, 1) := by decide +kernel
theorem dX7_outputNow_89 : decode cX7_outputNow 89 = .ok (.iload_n 1, 1) := by decide +kernel
theorem dX7_outputNow_90 : decode cX7_outputNow 90 = .ok (.iadd, 1) := by decide +kernel
theorem dX7_outputNow_91 : decode cX7_outputNow 91 = .ok (.iaload, 1) := by decide +kernel
theorem dX7_outputNow_92 : decode cX7_outputNow 92 = .ok (.ireturn, 1) := by decide +kernel
theorem dX7_outputNow_93 : decode cX7_outputNow 93 = .ok (.aload_n 0, 1) := by decide +kernel
theorem dX7_outputNow_94 : decode cX7_outputNow 94 = .ok (.getfield 7, 3) := by decide +kernel
theorem dX7_outputNow_97 : decode cX7_outputNow 97 = .ok (.bipush 8, 2) := by decide +kernel
theorem dX7_outputNow_99 : decode cX7_outputNow 99 = .ok (.iload_n 1, 1) := by decide +kernel
theorem dX7_outputNow_100 : decode cX7_outputNow 100 = .ok (.iadd, 1) := by decide +kernel
theorem dX7_outputNow_101 : decode cX7_outputNow 101 = .ok (.iaload, 1) := by decide +kernel
theorem dX7_outputNow_102 : decode cX7_outputNow 102 = .ok (.ireturn, 1) := by decide +kernel
theorem dX7_outputNow_103 : decode cX7_outputNow 103 = .ok (.aload_n 0, 1) := by decide +kernel
theorem dX7_outputNow_104 : decode cX7_outputNow 104 = .ok (.iload_n 1, 1) := by decide +kernel
theorem dX7_outputNow_105 : decode cX7_outputNow 105 = .ok (.iload_n 2, 1) := by decide +kernel
theorem dX7_outputNow_106 : decode cX7_outputNow 106 = .ok (.invokevirtual 166, 3) := by decide +kernel
theorem dX7_outputNow_109 : decode cX7_outputNow 109 = .ok (.ireturn, 1) := by decide +kernel
set_option maxRecDepth 20000 in
theorem ggX7_output_X7_isOutput : GoodIn wsX7_output wsX7_isOutput := goodIn_r _ [5, 6, 7, 4, 8] (by decide +kernel) (by decide +kernel)
set_option maxRecDepth 20000 in
theorem gX7_output_X7_isOutput : GoodIn wsX7_output (va_wsS RX7 110 yX7_isOutput wsX7_isOutput) := goodIn_app (goodIn_of _ (by decide +kernel)) ggX7_output_X7_isOutput
set_option maxRecDepth 20000 in
theorem ggX7_output_X7_within : GoodIn wsX7_output wsX7_within := goodIn_r _ [8] (by decide +kernel) (by decide +kernel)
set_option maxRecDepth 20000 in
theorem gX7_output_X7_within : GoodIn wsX7_output (va_wsS RX7 49 yX7_within wsX7_within) := goodIn_app (goodIn_of _ (by decide +kernel)) ggX7_output_X7_within
set_option maxRecDepth 20000 in
theorem ggX7_output_X7_layCover : GoodIn wsX7_output wsX7_layCover := goodIn_r _ [12, 13, 14, 15, 16, 17, 18, 19, 4, 20, 21, 22, 23, 24, 25, 26, 27, 28, 29, 30, 31, 32, 33, 34, 35, 36, 37, 38, 39, 40, 41, 42, 43, 44, 45, 46, 47, 48, 49, 50, 51, 52, 53, 54, 55, 56, 57, 58, 59, 60, 61, 78, 79, 80, 81, 82, 83, 84, 85, 86, 87, 88, 89, 90, 91, 92, 93] (by decide +kernel) (by decide +kernel)
set_option maxRecDepth 20000 in
theorem gX7_output_X7_layCover : GoodIn wsX7_output (wsV RX7 97 RX7 yX7_layCover wsX7_layCover) := goodIn_app (goodIn_of _ (by decide +kernel)) ggX7_output_X7_layCover
set_option maxRecDepth 20000 in
theorem ggX7_output_X7_outputNow : GoodIn wsX7_output wsX7_outputNow := goodIn_r _ [65, 21, 31, 66, 67, 68, 4, 69, 27, 28, 29, 30, 36, 37, 38, 39, 70, 71, 72, 73, 32, 33, 34, 35, 17, 18, 19, 20, 22, 23, 24, 25, 26, 15, 40, 41, 42, 43, 44, 45, 46, 47, 48, 49, 50, 51, 74, 75, 76, 77, 13, 14, 59, 60, 61, 78, 79, 80, 81, 82, 83, 84, 85, 86, 87, 88, 89, 90, 91, 92, 93] (by decide +kernel) (by decide +kernel)
set_option maxRecDepth 20000 in
theorem gX7_output_X7_outputNow : GoodIn wsX7_output (wsV RX7 169 RX7 yX7_outputNow wsX7_outputNow) := goodIn_app (goodIn_of _ (by decide +kernel)) ggX7_output_X7_outputNow
theorem dX7_output_0 : decode cX7_output 0 = .ok (.aload_n 0, 1) := by decide +kernel
theorem dX7_output_1 : decode cX7_output 1 = .ok (.iload_n 1, 1) := by decide +kernel
theorem dX7_output_2 : decode cX7_output 2 = .ok (.invokestatic 110, 3) := by decide +kernel
theorem dX7_output_5 : decode cX7_output 5 = .ok (.ifCond .ne 7, 3) := by decide +kernel
theorem dX7_output_8 : decode cX7_output 8 = .ok (.iconst 1, 1) := by decide +kernel
theorem dX7_output_9 : decode cX7_output 9 = .ok (.goto 18, 3) := by decide +kernel
theorem dX7_output_12 : decode cX7_output 12 = .ok (.iload_n 2, 1) := by decide +kernel
theorem dX7_output_13 : decode cX7_output 13 = .ok (.iconst 0, 1) := by decide +kernel
theorem dX7_output_14 : decode cX7_output 14 = .ok (.bipush 10, 2) := by decide +kernel
theorem dX7_output_16 : decode cX7_output 16 = .ok (.invokestatic 49, 3) := by decide +kernel
theorem dX7_output_19 : decode cX7_output 19 = .ok (.ifCond .eq 7, 3) := by decide +kernel
theorem dX7_output_22 : decode cX7_output 22 = .ok (.iconst 0, 1) := by decide +kernel
theorem dX7_output_23 : decode cX7_output 23 = .ok (.goto 4, 3) := by decide +kernel
theorem dX7_output_26 : decode cX7_output 26 = .ok (.iconst 2, 1) := by decide +kernel
theorem dX7_output_27 : decode cX7_output 27 = .ok (.putfield 38, 3) := by decide +kernel
theorem dX7_output_30 : decode cX7_output 30 = .ok (.aload_n 0, 1) := by decide +kernel
theorem dX7_output_31 : decode cX7_output 31 = .ok (.getfield 38, 3) := by decide +kernel
theorem dX7_output_34 : decode cX7_output 34 = .ok (.ifCond .le 5, 3) := by decide +kernel
theorem dX7_output_37 : decode cX7_output 37 = .ok (.iconst 0, 1) := by decide +kernel
theorem dX7_output_38 : decode cX7_output 38 = .ok (.ireturn, 1) := by decide +kernel
theorem dX7_output_39 : decode cX7_output 39 = .ok (.aload_n 0, 1) := by decide +kernel
theorem dX7_output_40 : decode cX7_output 40 = .ok (.iload_n 1, 1) := by decide +kernel
theorem dX7_output_41 : decode cX7_output 41 = .ok (.invokevirtual 97, 3) := by decide +kernel
theorem dX7_output_44 : decode cX7_output 44 = .ok (.aload_n 0, 1) := by decide +kernel
theorem dX7_output_45 : decode cX7_output 45 = .ok (.iload_n 1, 1) := by decide +kernel
theorem dX7_output_46 : decode cX7_output 46 = .ok (.iload_n 2, 1) := by decide +kernel
theorem dX7_output_47 : decode cX7_output 47 = .ok (.invokevirtual 169, 3) := by decide +kernel
theorem dX7_output_50 : decode cX7_output 50 = .ok (.ireturn, 1) := by decide +kernel
set_option maxRecDepth 20000 in
theorem ggX7_productNow_X7_rowsOf : GoodIn wsX7_productNow wsX7_rowsOf := goodIn_r _ [7, 8, 9, 10, 6, 11, 12, 24, 25, 26, 27, 28, 29, 30, 31, 32, 33, 34, 35, 36, 37, 38, 39] (by decide +kernel) (by decide +kernel)
set_option maxRecDepth 20000 in
theorem gX7_productNow_X7_rowsOf : GoodIn wsX7_productNow (wsV RX7 67 RX7 yX7_rowsOf wsX7_rowsOf) := goodIn_app (goodIn_of _ (by decide +kernel)) ggX7_productNow_X7_rowsOf
set_option maxRecDepth 20000 in
theorem ggX7_productNow_X7_onesOf : GoodIn wsX7_productNow wsX7_onesOf := goodIn_r _ [15] (by decide +kernel) (by decide +kernel)
set_option maxRecDepth 20000 in
theorem gX7_productNow_X7_onesOf : GoodIn wsX7_productNow (va_wsS RX7 81 yX7_onesOf wsX7_onesOf) := goodIn_app (goodIn_of _ (by decide +kernel)) ggX7_productNow_X7_onesOf
set_option maxRecDepth 20000 in
theorem ggX7_productNow_X7_coversWith : GoodIn wsX7_productNow wsX7_coversWith := goodIn_r _ [19, 20, 21, 22, 6, 23, 1, 2, 24, 25, 26, 27, 28, 29, 30, 31, 32, 33, 34, 35, 36, 37, 38, 39] (by decide +kernel) (by decide +kernel)
set_option maxRecDepth 20000 in
theorem gX7_productNow_X7_coversWith : GoodIn wsX7_productNow (wsV RX7 104 RX7 yX7_coversWith wsX7_coversWith) := goodIn_app (goodIn_of _ (by decide +kernel)) ggX7_productNow_X7_coversWith
theorem dX7_productNow_0 : decode cX7_productNow 0 = .ok (.iload_n 2, 1) := by decide +kernel
theorem dX7_productNow_1 : decode cX7_productNow 1 = .ok (.aload_n 0, 1) := by decide +kernel
theorem dX7_productNow_2 : decode cX7_productNow 2 = .ok (.getfield 29, 3) := by decide +kernel
theorem dX7_productNow_5 : decode cX7_productNow 5 = .ok (.iload_n 1, 1) := by decide +kernel
theorem dX7_productNow_6 : decode cX7_productNow 6 = .ok (.iaload, 1) := by decide +kernel
theorem dX7_productNow_7 : decode cX7_productNow 7 = .ok (.if_icmp .lt 5, 3) := by decide +kernel
theorem dX7_productNow_10 : decode cX7_productNow 10 = .ok (.iconst (-1), 1) := by decide +kernel
theorem dX7_productNow_11 : decode cX7_productNow 11 = .ok (.ireturn, 1) := by decide +kernel
theorem dX7_productNow_12 : decode cX7_productNow 12 = .ok (.aload_n 0, 1) := by decide +kernel
theorem dX7_productNow_13 : decode cX7_productNow 13 = .ok (.getfield 26, 3) := by decide +kernel
theorem dX7_productNow_16 : decode cX7_productNow 16 = .ok (.bipush 64, 2) := by decide +kernel
theorem dX7_productNow_18 : decode cX7_productNow 18 = .ok (.iload_n 1, 1) := by decide +kernel
theorem dX7_productNow_19 : decode cX7_productNow 19 = .ok (.imul, 1) := by decide +kernel
theorem dX7_productNow_20 : decode cX7_productNow 20 = .ok (.iload_n 2, 1) := by decide +kernel
theorem dX7_productNow_21 : decode cX7_productNow 21 = .ok (.iadd, 1) := by decide +kernel
theorem dX7_productNow_22 : decode cX7_productNow 22 = .ok (.iaload, 1) := by decide +kernel
theorem dX7_productNow_23 : decode cX7_productNow 23 = .ok (.istore 4, 2) := by decide +kernel
theorem dX7_productNow_25 : decode cX7_productNow 25 = .ok (.iload_n 3, 1) := by decide +kernel
theorem dX7_productNow_26 : decode cX7_productNow 26 = .ok (.ifCond .ne 11, 3) := by decide +kernel
theorem dX7_productNow_29 : decode cX7_productNow 29 = .ok (.iload 4, 2) := by decide +kernel
theorem dX7_productNow_31 : decode cX7_productNow 31 = .ok (.bipush 64, 2) := by decide +kernel
theorem dX7_productNow_33 : decode cX7_productNow 33 = .ok (.idiv, 1) := by decide +kernel
theorem dX7_productNow_34 : decode cX7_productNow 34 = .ok (.goto 39, 3) := by decide +kernel
theorem dX7_productNow_37 : decode cX7_productNow 37 = .ok (.iload_n 3, 1) := by decide +kernel
theorem dX7_productNow_38 : decode cX7_productNow 38 = .ok (.iconst 1, 1) := by decide +kernel
theorem dX7_productNow_39 : decode cX7_productNow 39 = .ok (.if_icmp .ne 11, 3) := by decide +kernel
theorem dX7_productNow_42 : decode cX7_productNow 42 = .ok (.iload 4, 2) := by decide +kernel
theorem dX7_productNow_44 : decode cX7_productNow 44 = .ok (.bipush 64, 2) := by decide +kernel
theorem dX7_productNow_46 : decode cX7_productNow 46 = .ok (.irem, 1) := by decide +kernel
theorem dX7_productNow_47 : decode cX7_productNow 47 = .ok (.goto 26, 3) := by decide +kernel
theorem dX7_productNow_50 : decode cX7_productNow 50 = .ok (.iload_n 3, 1) := by decide +kernel
theorem dX7_productNow_51 : decode cX7_productNow 51 = .ok (.iconst 2, 1) := by decide +kernel
theorem dX7_productNow_52 : decode cX7_productNow 52 = .ok (.if_icmp .ne 15, 3) := by decide +kernel
theorem dX7_productNow_55 : decode cX7_productNow 55 = .ok (.aload_n 0, 1) := by decide +kernel
theorem dX7_productNow_56 : decode cX7_productNow 56 = .ok (.iload 4, 2) := by decide +kernel
theorem dX7_productNow_58 : decode cX7_productNow 58 = .ok (.invokevirtual 67, 3) := by decide +kernel
theorem dX7_productNow_61 : decode cX7_productNow 61 = .ok (.invokestatic 81, 3) := by decide +kernel
theorem dX7_productNow_64 : decode cX7_productNow 64 = .ok (.goto 9, 3) := by decide +kernel
theorem dX7_productNow_67 : decode cX7_productNow 67 = .ok (.aload_n 0, 1) := by decide +kernel
theorem dX7_productNow_68 : decode cX7_productNow 68 = .ok (.iload 4, 2) := by decide +kernel
theorem dX7_productNow_70 : decode cX7_productNow 70 = .ok (.invokevirtual 104, 3) := by decide +kernel
theorem dX7_productNow_73 : decode cX7_productNow 73 = .ok (.ireturn, 1) := by decide +kernel
set_option maxRecDepth 20000 in
theorem ggX7_product_X7_isOutput : GoodIn wsX7_product wsX7_isOutput := goodIn_r _ [5, 6, 7, 4, 8] (by decide +kernel) (by decide +kernel)
set_option maxRecDepth 20000 in
theorem gX7_product_X7_isOutput : GoodIn wsX7_product (va_wsS RX7 110 yX7_isOutput wsX7_isOutput) := goodIn_app (goodIn_of _ (by decide +kernel)) ggX7_product_X7_isOutput
set_option maxRecDepth 20000 in
theorem ggX7_product_X7_within : GoodIn wsX7_product wsX7_within := goodIn_r _ [8] (by decide +kernel) (by decide +kernel)
set_option maxRecDepth 20000 in
theorem gX7_product_X7_within : GoodIn wsX7_product (va_wsS RX7 49 yX7_within wsX7_within) := goodIn_app (goodIn_of _ (by decide +kernel)) ggX7_product_X7_within
set_option maxRecDepth 20000 in
theorem ggX7_product_X7_layAll : GoodIn wsX7_product wsX7_layAll := goodIn_r _ [12, 13, 14, 15, 4, 16, 17, 18, 19, 20, 21, 22, 23, 24, 25, 26, 27, 28, 29, 30, 31, 32, 33, 34, 35, 36, 37, 38, 39, 40, 41, 42, 43, 44, 45, 46, 47, 48, 49, 50, 51, 52, 53, 54, 55, 56, 57, 58, 59, 60, 61, 62, 63, 64, 65, 78, 79, 80, 81, 82, 83, 84, 85, 86, 87, 88, 89, 90, 91, 92, 93] (by decide +kernel) (by decide +kernel)
set_option maxRecDepth 20000 in
theorem gX7_product_X7_layAll : GoodIn wsX7_product (wsV RX7 138 RX7 yX7_layAll wsX7_layAll) := goodIn_app (goodIn_of _ (by decide +kernel)) ggX7_product_X7_layAll
set_option maxRecDepth 20000 in
theorem ggX7_product_X7_productNow : GoodIn wsX7_product wsX7_productNow := goodIn_r _ [69, 17, 18, 48, 49, 50, 4, 51, 31, 32, 33, 34, 35, 60, 61, 62, 70, 71, 72, 73, 74, 75, 76, 77, 78, 79, 80, 81, 82, 83, 84, 85, 86, 87, 88, 89, 90, 91, 92, 93] (by decide +kernel) (by decide +kernel)
set_option maxRecDepth 20000 in
theorem gX7_product_X7_productNow : GoodIn wsX7_product (wsV RX7 172 RX7 yX7_productNow wsX7_productNow) := goodIn_app (goodIn_of _ (by decide +kernel)) ggX7_product_X7_productNow
theorem dX7_product_0 : decode cX7_product 0 = .ok (.aload_n 0, 1) := by decide +kernel
theorem dX7_product_1 : decode cX7_product 1 = .ok (.iload_n 1, 1) := by decide +kernel
theorem dX7_product_2 : decode cX7_product 2 = .ok (.invokestatic 110, 3) := by decide +kernel
theorem dX7_product_5 : decode cX7_product 5 = .ok (.ifCond .ne 7, 3) := by decide +kernel
theorem dX7_product_8 : decode cX7_product 8 = .ok (.iconst 1, 1) := by decide +kernel
theorem dX7_product_9 : decode cX7_product 9 = .ok (.goto 27, 3) := by decide +kernel
theorem dX7_product_12 : decode cX7_product 12 = .ok (.iload_n 2, 1) := by decide +kernel
theorem dX7_product_13 : decode cX7_product 13 = .ok (.iconst 0, 1) := by decide +kernel
theorem dX7_product_14 : decode cX7_product 14 = .ok (.bipush 63, 2) := by decide +kernel
theorem dX7_product_16 : decode cX7_product 16 = .ok (.invokestatic 49, 3) := by decide +kernel
theorem dX7_product_19 : decode cX7_product 19 = .ok (.ifCond .eq 16, 3) := by decide +kernel
theorem dX7_product_22 : decode cX7_product 22 = .ok (.iload_n 3, 1) := by decide +kernel
theorem dX7_product_23 : decode cX7_product 23 = .ok (.iconst 0, 1) := by decide +kernel
theorem dX7_product_24 : decode cX7_product 24 = .ok (.iconst 3, 1) := by decide +kernel
theorem dX7_product_25 : decode cX7_product 25 = .ok (.invokestatic 49, 3) := by decide +kernel
theorem dX7_product_28 : decode cX7_product 28 = .ok (.ifCond .eq 7, 3) := by decide +kernel
theorem dX7_product_31 : decode cX7_product 31 = .ok (.iconst 0, 1) := by decide +kernel
theorem dX7_product_32 : decode cX7_product 32 = .ok (.goto 4, 3) := by decide +kernel
theorem dX7_product_35 : decode cX7_product 35 = .ok (.iconst 2, 1) := by decide +kernel
theorem dX7_product_36 : decode cX7_product 36 = .ok (.putfield 38, 3) := by decide +kernel
theorem dX7_product_39 : decode cX7_product 39 = .ok (.aload_n 0, 1) := by decide +kernel
theorem dX7_product_40 : decode cX7_product 40 = .ok (.getfield 38, 3) := by decide +kernel
theorem dX7_product_43 : decode cX7_product 43 = .ok (.ifCond .le 5, 3) := by decide +kernel
theorem dX7_product_46 : decode cX7_product 46 = .ok (.iconst 0, 1) := by decide +kernel
theorem dX7_product_47 : decode cX7_product 47 = .ok (.ireturn, 1) := by decide +kernel
theorem dX7_product_48 : decode cX7_product 48 = .ok (.aload_n 0, 1) := by decide +kernel
theorem dX7_product_49 : decode cX7_product 49 = .ok (.invokevirtual 138, 3) := by decide +kernel
theorem dX7_product_52 : decode cX7_product 52 = .ok (.aload_n 0, 1) := by decide +kernel
theorem dX7_product_53 : decode cX7_product 53 = .ok (.iload_n 1, 1) := by decide +kernel
theorem dX7_product_54 : decode cX7_product 54 = .ok (.iload_n 2, 1) := by decide +kernel
theorem dX7_product_55 : decode cX7_product 55 = .ok (.iload_n 3, 1) := by decide +kernel
theorem dX7_product_56 : decode cX7_product 56 = .ok (.invokevirtual 172, 3) := by decide +kernel
theorem dX7_product_59 : decode cX7_product 59 = .ok (.ireturn, 1) := by decide +kernel
theorem dX7_sumOf_0 : decode cX7_sumOf 0 = .ok (.iconst 0, 1) := by decide +kernel
theorem dX7_sumOf_1 : decode cX7_sumOf 1 = .ok (.istore_n 2, 1) := by decide +kernel
theorem dX7_sumOf_2 : decode cX7_sumOf 2 = .ok (.iconst 0, 1) := by decide +kernel
theorem dX7_sumOf_3 : decode cX7_sumOf 3 = .ok (.istore_n 3, 1) := by decide +kernel
theorem dX7_sumOf_4 : decode cX7_sumOf 4 = .ok (.iload_n 3, 1) := by decide +kernel
theorem dX7_sumOf_5 : decode cX7_sumOf 5 = .ok (.iconst 4, 1) := by decide +kernel
theorem dX7_sumOf_6 : decode cX7_sumOf 6 = .ok (.if_icmp .ge 20, 3) := by decide +kernel
theorem dX7_sumOf_9 : decode cX7_sumOf 9 = .ok (.iload_n 2, 1) := by decide +kernel
theorem dX7_sumOf_10 : decode cX7_sumOf 10 = .ok (.aload_n 0, 1) := by decide +kernel
theorem dX7_sumOf_11 : decode cX7_sumOf 11 = .ok (.getfield 7, 3) := by decide +kernel
theorem dX7_sumOf_14 : decode cX7_sumOf 14 = .ok (.iload_n 1, 1) := by decide +kernel
theorem dX7_sumOf_15 : decode cX7_sumOf 15 = .ok (.iload_n 3, 1) := by decide +kernel
theorem dX7_sumOf_16 : decode cX7_sumOf 16 = .ok (.iadd, 1) := by decide +kernel
theorem dX7_sumOf_17 : decode cX7_sumOf 17 = .ok (.iaload, 1) := by decide +kernel
theorem dX7_sumOf_18 : decode cX7_sumOf 18 = .ok (.iadd, 1) := by decide +kernel
theorem dX7_sumOf_19 : decode cX7_sumOf 19 = .ok (.istore_n 2, 1) := by decide +kernel
theorem dX7_sumOf_20 : decode cX7_sumOf 20 = .ok (.iinc 3 1, 3) := by decide +kernel
theorem dX7_sumOf_23 : decode cX7_sumOf 23 = .ok (.goto (-19), 3) := by decide +kernel
theorem dX7_sumOf_26 : decode cX7_sumOf 26 = .ok (.iload_n 2, 1) := by decide +kernel
theorem dX7_sumOf_27 : decode cX7_sumOf 27 = .ok (.ireturn, 1) := by decide +kernel
set_option maxRecDepth 20000 in
theorem ggX7_counted_X7_undecided : GoodIn wsX7_counted wsX7_undecided := goodIn_r _ [7, 8, 9, 10, 6, 11, 12, 13, 14, 15, 1, 16, 17, 18, 19, 20, 21, 22, 23, 49, 50, 51, 52, 53, 54, 55, 56, 57, 58, 59, 60, 61, 62, 63, 64] (by decide +kernel) (by decide +kernel)
set_option maxRecDepth 20000 in
theorem gX7_counted_X7_undecided : GoodIn wsX7_counted (wsV RX7 129 RX7 yX7_undecided wsX7_undecided) := goodIn_app (goodIn_of _ (by decide +kernel)) ggX7_counted_X7_undecided
set_option maxRecDepth 20000 in
theorem ggX7_counted_X7_partsOf : GoodIn wsX7_counted wsX7_partsOf := goodIn_r _ [27, 28, 29, 30, 6, 31, 1, 32, 33, 34, 35, 36, 37, 38, 39, 40, 41, 42, 43, 44, 49, 50, 51, 52, 53, 54, 55, 56, 57, 58, 59, 60, 61, 62, 63, 64] (by decide +kernel) (by decide +kernel)
set_option maxRecDepth 20000 in
theorem gX7_counted_X7_partsOf : GoodIn wsX7_counted (wsV RX7 175 RX7 yX7_partsOf wsX7_partsOf) := goodIn_app (goodIn_of _ (by decide +kernel)) ggX7_counted_X7_partsOf
set_option maxRecDepth 20000 in
theorem ggX7_counted_X7_sumOf : GoodIn wsX7_counted wsX7_sumOf := goodIn_r _ [48, 1, 49, 50, 51, 52, 53, 54, 55, 56, 57, 58, 59, 60, 61, 62, 63, 64] (by decide +kernel) (by decide +kernel)
set_option maxRecDepth 20000 in
theorem gX7_counted_X7_sumOf : GoodIn wsX7_counted (wsV RX7 178 RX7 yX7_sumOf wsX7_sumOf) := goodIn_app (goodIn_of _ (by decide +kernel)) ggX7_counted_X7_sumOf
theorem dX7_counted_0 : decode cX7_counted 0 = .ok (.iload_n 1, 1) := by decide +kernel
theorem dX7_counted_1 : decode cX7_counted 1 = .ok (.tableswitch 109 0 9 #[55, 62, 69, 74, 74, 74, 82, 89, 95, 102], 55) := by decide +kernel
theorem dX7_counted_56 : decode cX7_counted 56 = .ok (.aload_n 0, 1) := by decide +kernel
theorem dX7_counted_57 : decode cX7_counted 57 = .ok (.getfield 7, 3) := by decide +kernel
theorem dX7_counted_60 : decode cX7_counted 60 = .ok (.iconst 0, 1) := by decide +kernel
theorem dX7_counted_61 : decode cX7_counted 61 = .ok (.iaload, 1) := by decide +kernel
theorem dX7_counted_62 : decode cX7_counted 62 = .ok (.ireturn, 1) := by decide +kernel
theorem dX7_counted_63 : decode cX7_counted 63 = .ok (.aload_n 0, 1) := by decide +kernel
theorem dX7_counted_64 : decode cX7_counted 64 = .ok (.getfield 7, 3) := by decide +kernel
theorem dX7_counted_67 : decode cX7_counted 67 = .ok (.iconst 1, 1) := by decide +kernel
theorem dX7_counted_68 : decode cX7_counted 68 = .ok (.iaload, 1) := by decide +kernel
theorem dX7_counted_69 : decode cX7_counted 69 = .ok (.ireturn, 1) := by decide +kernel
theorem dX7_counted_70 : decode cX7_counted 70 = .ok (.aload_n 0, 1) := by decide +kernel
theorem dX7_counted_71 : decode cX7_counted 71 = .ok (.invokevirtual 129, 3) := by decide +kernel
theorem dX7_counted_74 : decode cX7_counted 74 = .ok (.ireturn, 1) := by decide +kernel
theorem dX7_counted_75 : decode cX7_counted 75 = .ok (.aload_n 0, 1) := by decide +kernel
theorem dX7_counted_76 : decode cX7_counted 76 = .ok (.iload_n 1, 1) := by decide +kernel
theorem dX7_counted_77 : decode cX7_counted 77 = .ok (.iconst 3, 1) := by decide +kernel
theorem dX7_counted_78 : decode cX7_counted 78 = .ok (.isub, 1) := by decide +kernel
theorem dX7_counted_79 : decode cX7_counted 79 = .ok (.invokevirtual 175, 3) := by decide +kernel
theorem dX7_counted_82 : decode cX7_counted 82 = .ok (.ireturn, 1) := by decide +kernel
theorem dX7_counted_83 : decode cX7_counted 83 = .ok (.aload_n 0, 1) := by decide +kernel
theorem dX7_counted_84 : decode cX7_counted 84 = .ok (.getfield 7, 3) := by decide +kernel
theorem dX7_counted_87 : decode cX7_counted 87 = .ok (.iconst 2, 1) := by decide +kernel
theorem dX7_counted_88 : decode cX7_counted 88 = .ok (.iaload, 1) := by decide +kernel
theorem dX7_counted_89 : decode cX7_counted 89 = .ok (.ireturn, 1) := by decide +kernel
theorem dX7_counted_90 : decode cX7_counted 90 = .ok (.aload_n 0, 1) := by decide +kernel
theorem dX7_counted_91 : decode cX7_counted 91 = .ok (.iconst 4, 1) := by decide +kernel
theorem dX7_counted_92 : decode cX7_counted 92 = .ok (.invokevirtual 178, 3) := by decide +kernel
theorem dX7_counted_95 : decode cX7_counted 95 = .ok (.ireturn, 1) := by decide +kernel
theorem dX7_counted_96 : decode cX7_counted 96 = .ok (.aload_n 0, 1) := by decide +kernel
theorem dX7_counted_97 : decode cX7_counted 97 = .ok (.bipush 8, 2) := by decide +kernel
theorem dX7_counted_99 : decode cX7_counted 99 = .ok (.invokevirtual 178, 3) := by decide +kernel
theorem dX7_counted_102 : decode cX7_counted 102 = .ok (.ireturn, 1) := by decide +kernel
theorem dX7_counted_103 : decode cX7_counted 103 = .ok (.aload_n 0, 1) := by decide +kernel
theorem dX7_counted_104 : decode cX7_counted 104 = .ok (.getfield 7, 3) := by decide +kernel
theorem dX7_counted_107 : decode cX7_counted 107 = .ok (.iconst 3, 1) := by decide +kernel
theorem dX7_counted_108 : decode cX7_counted 108 = .ok (.iaload, 1) := by decide +kernel
theorem dX7_counted_109 : decode cX7_counted 109 = .ok (.ireturn, 1) := by decide +kernel
theorem dX7_counted_110 : decode cX7_counted 110 = .ok (.aload_n 0, 1) := by decide +kernel
theorem dX7_counted_111 : decode cX7_counted 111 = .ok (.getfield 42, 3) := by decide +kernel
theorem dX7_counted_114 : decode cX7_counted 114 = .ok (.ireturn, 1) := by decide +kernel
set_option maxRecDepth 20000 in
theorem ggX7_count_X7_within : GoodIn wsX7_count wsX7_within := goodIn_r _ [5] (by decide +kernel) (by decide +kernel)
set_option maxRecDepth 20000 in
theorem gX7_count_X7_within : GoodIn wsX7_count (va_wsS RX7 49 yX7_within wsX7_within) := goodIn_app (goodIn_of _ (by decide +kernel)) ggX7_count_X7_within
set_option maxRecDepth 20000 in
theorem ggX7_count_X7_layAll : GoodIn wsX7_count wsX7_layAll := goodIn_r _ [9, 10, 11, 12, 4, 13, 14, 15, 16, 17, 18, 19, 20, 21, 22, 23, 24, 25, 26, 27, 28, 29, 30, 31, 32, 33, 34, 35, 36, 37, 38, 39, 40, 41, 42, 43, 44, 45, 46, 47, 48, 49, 50, 51, 52, 53, 54, 55, 56, 57, 58, 59, 60, 61, 62, 92, 93, 94, 95, 96, 97, 98, 99, 100, 101, 102, 103, 104, 105, 106, 107] (by decide +kernel) (by decide +kernel)
set_option maxRecDepth 20000 in
theorem gX7_count_X7_layAll : GoodIn wsX7_count (wsV RX7 138 RX7 yX7_layAll wsX7_layAll) := goodIn_app (goodIn_of _ (by decide +kernel)) ggX7_count_X7_layAll
set_option maxRecDepth 20000 in
theorem ggX7_count_X7_counted : GoodIn wsX7_count wsX7_counted := goodIn_r _ [66, 32, 67, 68, 69, 70, 4, 71, 72, 73, 74, 75, 28, 29, 30, 31, 33, 34, 35, 36, 37, 38, 39, 40, 76, 77, 78, 79, 41, 42, 43, 44, 80, 81, 82, 83, 84, 85, 86, 87, 14, 15, 60, 61, 62, 88, 89, 90, 91, 92, 93, 94, 95, 96, 97, 98, 99, 100, 101, 102, 103, 104, 105, 106, 107] (by decide +kernel) (by decide +kernel)
set_option maxRecDepth 20000 in
theorem gX7_count_X7_counted : GoodIn wsX7_count (wsV RX7 181 RX7 yX7_counted wsX7_counted) := goodIn_app (goodIn_of _ (by decide +kernel)) ggX7_count_X7_counted
theorem dX7_count_0 : decode cX7_count 0 = .ok (.aload_n 0, 1) := by decide +kernel
theorem dX7_count_1 : decode cX7_count 1 = .ok (.iload_n 1, 1) := by decide +kernel
theorem dX7_count_2 : decode cX7_count 2 = .ok (.iconst 0, 1) := by decide +kernel
theorem dX7_count_3 : decode cX7_count 3 = .ok (.bipush 10, 2) := by decide +kernel
theorem dX7_count_5 : decode cX7_count 5 = .ok (.invokestatic 49, 3) := by decide +kernel
theorem dX7_count_8 : decode cX7_count 8 = .ok (.ifCond .eq 7, 3) := by decide +kernel
theorem dX7_count_11 : decode cX7_count 11 = .ok (.iconst 0, 1) := by decide +kernel
theorem dX7_count_12 : decode cX7_count 12 = .ok (.goto 4, 3) := by decide +kernel
theorem dX7_count_15 : decode cX7_count 15 = .ok (.iconst 1, 1) := by decide +kernel
theorem dX7_count_16 : decode cX7_count 16 = .ok (.putfield 38, 3) := by decide +kernel
theorem dX7_count_19 : decode cX7_count 19 = .ok (.aload_n 0, 1) := by decide +kernel
theorem dX7_count_20 : decode cX7_count 20 = .ok (.getfield 38, 3) := by decide +kernel
theorem dX7_count_23 : decode cX7_count 23 = .ok (.ifCond .le 5, 3) := by decide +kernel
theorem dX7_count_26 : decode cX7_count 26 = .ok (.iconst 0, 1) := by decide +kernel
theorem dX7_count_27 : decode cX7_count 27 = .ok (.ireturn, 1) := by decide +kernel
theorem dX7_count_28 : decode cX7_count 28 = .ok (.aload_n 0, 1) := by decide +kernel
theorem dX7_count_29 : decode cX7_count 29 = .ok (.invokevirtual 138, 3) := by decide +kernel
theorem dX7_count_32 : decode cX7_count 32 = .ok (.aload_n 0, 1) := by decide +kernel
theorem dX7_count_33 : decode cX7_count 33 = .ok (.iload_n 1, 1) := by decide +kernel
theorem dX7_count_34 : decode cX7_count 34 = .ok (.invokevirtual 181, 3) := by decide +kernel
theorem dX7_count_37 : decode cX7_count 37 = .ok (.ireturn, 1) := by decide +kernel
set_option maxRecDepth 20000 in
theorem ggX7_forgottenThen_X7_isKnown : GoodIn wsX7_forgottenThen wsX7_isKnown := goodIn_r _ [6, 1, 87, 88, 89, 90, 91, 92, 93, 94, 95, 96, 97, 98, 99, 100, 101, 102] (by decide +kernel) (by decide +kernel)
set_option maxRecDepth 20000 in
theorem gX7_forgottenThen_X7_isKnown : GoodIn wsX7_forgottenThen (wsV RX7 126 RX7 yX7_isKnown wsX7_isKnown) := goodIn_app (goodIn_of _ (by decide +kernel)) ggX7_forgottenThen_X7_isKnown
set_option maxRecDepth 20000 in
theorem ggX7_forgottenThen_X7_undecidedWithout : GoodIn wsX7_forgottenThen wsX7_undecidedWithout := goodIn_r _ [10, 1, 11, 12, 13, 5, 14, 15, 16, 17, 18, 19, 20, 21, 22, 23, 24, 25, 26, 27, 28, 29, 30, 87, 88, 89, 90, 91, 92, 93, 94, 95, 96, 97, 98, 99, 100, 101, 102] (by decide +kernel) (by decide +kernel)
set_option maxRecDepth 20000 in
theorem gX7_forgottenThen_X7_undecidedWithout : GoodIn wsX7_forgottenThen (wsV RX7 132 RX7 yX7_undecidedWithout wsX7_undecidedWithout) := goodIn_app (goodIn_of _ (by decide +kernel)) ggX7_forgottenThen_X7_undecidedWithout
set_option maxRecDepth 20000 in
theorem ggX7_forgottenThen_X7_layAll : GoodIn wsX7_forgottenThen wsX7_layAll := goodIn_r _ [34, 35, 36, 37, 5, 38, 39, 40, 41, 42, 43, 44, 45, 46, 47, 48, 49, 50, 51, 52, 19, 20, 21, 22, 1, 23, 24, 25, 26, 27, 28, 29, 30, 53, 54, 55, 56, 57, 58, 59, 60, 61, 62, 63, 64, 65, 66, 67, 68, 69, 70, 71, 72, 73, 74, 87, 88, 89, 90, 91, 92, 93, 94, 95, 96, 97, 98, 99, 100, 101, 102] (by decide +kernel) (by decide +kernel)
set_option maxRecDepth 20000 in
theorem gX7_forgottenThen_X7_layAll : GoodIn wsX7_forgottenThen (wsV RX7 138 RX7 yX7_layAll wsX7_layAll) := goodIn_app (goodIn_of _ (by decide +kernel)) ggX7_forgottenThen_X7_layAll
set_option maxRecDepth 20000 in
theorem ggX7_forgottenThen_X7_partsOf : GoodIn wsX7_forgottenThen wsX7_partsOf := goodIn_r _ [78, 53, 54, 55, 5, 56, 1, 79, 80, 81, 82, 83, 84, 85, 86, 39, 40, 72, 73, 74, 87, 88, 89, 90, 91, 92, 93, 94, 95, 96, 97, 98, 99, 100, 101, 102] (by decide +kernel) (by decide +kernel)
set_option maxRecDepth 20000 in
theorem gX7_forgottenThen_X7_partsOf : GoodIn wsX7_forgottenThen (wsV RX7 175 RX7 yX7_partsOf wsX7_partsOf) := goodIn_app (goodIn_of _ (by decide +kernel)) ggX7_forgottenThen_X7_partsOf
theorem dX7_forgottenThen_0 : decode cX7_forgottenThen 0 = .ok (.aload_n 0, 1) := by decide +kernel
theorem dX7_forgottenThen_1 : decode cX7_forgottenThen 1 = .ok (.iload_n 1, 1) := by decide +kernel
theorem dX7_forgottenThen_2 : decode cX7_forgottenThen 2 = .ok (.invokevirtual 126, 3) := by decide +kernel
theorem dX7_forgottenThen_5 : decode cX7_forgottenThen 5 = .ok (.ifCond .ne 5, 3) := by decide +kernel
theorem dX7_forgottenThen_8 : decode cX7_forgottenThen 8 = .ok (.iconst (-1), 1) := by decide +kernel
theorem dX7_forgottenThen_9 : decode cX7_forgottenThen 9 = .ok (.ireturn, 1) := by decide +kernel
theorem dX7_forgottenThen_10 : decode cX7_forgottenThen 10 = .ok (.iload_n 2, 1) := by decide +kernel
theorem dX7_forgottenThen_11 : decode cX7_forgottenThen 11 = .ok (.ifCond .ne 9, 3) := by decide +kernel
theorem dX7_forgottenThen_14 : decode cX7_forgottenThen 14 = .ok (.aload_n 0, 1) := by decide +kernel
theorem dX7_forgottenThen_15 : decode cX7_forgottenThen 15 = .ok (.iload_n 1, 1) := by decide +kernel
theorem dX7_forgottenThen_16 : decode cX7_forgottenThen 16 = .ok (.invokevirtual 132, 3) := by decide +kernel
theorem dX7_forgottenThen_19 : decode cX7_forgottenThen 19 = .ok (.ireturn, 1) := by decide +kernel
theorem dX7_forgottenThen_20 : decode cX7_forgottenThen 20 = .ok (.aload_n 0, 1) := by decide +kernel
theorem dX7_forgottenThen_21 : decode cX7_forgottenThen 21 = .ok (.getfield 7, 3) := by decide +kernel
theorem dX7_forgottenThen_24 : decode cX7_forgottenThen 24 = .ok (.iconst 1, 1) := by decide +kernel
theorem dX7_forgottenThen_25 : decode cX7_forgottenThen 25 = .ok (.dup2, 1) := by decide +kernel
theorem dX7_forgottenThen_26 : decode cX7_forgottenThen 26 = .ok (.iaload, 1) := by decide +kernel
theorem dX7_forgottenThen_27 : decode cX7_forgottenThen 27 = .ok (.iconst 1, 1) := by decide +kernel
theorem dX7_forgottenThen_28 : decode cX7_forgottenThen 28 = .ok (.iload_n 1, 1) := by decide +kernel
theorem dX7_forgottenThen_29 : decode cX7_forgottenThen 29 = .ok (.ishl, 1) := by decide +kernel
theorem dX7_forgottenThen_30 : decode cX7_forgottenThen 30 = .ok (.iconst (-1), 1) := by decide +kernel
theorem dX7_forgottenThen_31 : decode cX7_forgottenThen 31 = .ok (.ixor, 1) := by decide +kernel
theorem dX7_forgottenThen_32 : decode cX7_forgottenThen 32 = .ok (.iand, 1) := by decide +kernel
theorem dX7_forgottenThen_33 : decode cX7_forgottenThen 33 = .ok (.iastore, 1) := by decide +kernel
theorem dX7_forgottenThen_34 : decode cX7_forgottenThen 34 = .ok (.aload_n 0, 1) := by decide +kernel
theorem dX7_forgottenThen_35 : decode cX7_forgottenThen 35 = .ok (.invokevirtual 138, 3) := by decide +kernel
theorem dX7_forgottenThen_38 : decode cX7_forgottenThen 38 = .ok (.aload_n 0, 1) := by decide +kernel
theorem dX7_forgottenThen_39 : decode cX7_forgottenThen 39 = .ok (.iconst 0, 1) := by decide +kernel
theorem dX7_forgottenThen_40 : decode cX7_forgottenThen 40 = .ok (.invokevirtual 175, 3) := by decide +kernel
theorem dX7_forgottenThen_43 : decode cX7_forgottenThen 43 = .ok (.istore_n 3, 1) := by decide +kernel
theorem dX7_forgottenThen_44 : decode cX7_forgottenThen 44 = .ok (.aload_n 0, 1) := by decide +kernel
theorem dX7_forgottenThen_45 : decode cX7_forgottenThen 45 = .ok (.getfield 7, 3) := by decide +kernel
theorem dX7_forgottenThen_48 : decode cX7_forgottenThen 48 = .ok (.iconst 1, 1) := by decide +kernel
theorem dX7_forgottenThen_49 : decode cX7_forgottenThen 49 = .ok (.dup2, 1) := by decide +kernel
theorem dX7_forgottenThen_50 : decode cX7_forgottenThen 50 = .ok (.iaload, 1) := by decide +kernel
theorem dX7_forgottenThen_51 : decode cX7_forgottenThen 51 = .ok (.iconst 1, 1) := by decide +kernel
theorem dX7_forgottenThen_52 : decode cX7_forgottenThen 52 = .ok (.iload_n 1, 1) := by decide +kernel
theorem dX7_forgottenThen_53 : decode cX7_forgottenThen 53 = .ok (.ishl, 1) := by decide +kernel
theorem dX7_forgottenThen_54 : decode cX7_forgottenThen 54 = .ok (.ior, 1) := by decide +kernel
theorem dX7_forgottenThen_55 : decode cX7_forgottenThen 55 = .ok (.iastore, 1) := by decide +kernel
theorem dX7_forgottenThen_56 : decode cX7_forgottenThen 56 = .ok (.iload_n 3, 1) := by decide +kernel
theorem dX7_forgottenThen_57 : decode cX7_forgottenThen 57 = .ok (.ireturn, 1) := by decide +kernel
set_option maxRecDepth 20000 in
theorem ggX7_ifForgotten_X7_isInput : GoodIn wsX7_ifForgotten wsX7_isInput := goodIn_r _ [6, 7, 8, 9, 5, 10, 99, 100, 101, 102, 103, 104, 105, 106, 107, 108, 109, 110, 111, 112, 113, 114] (by decide +kernel) (by decide +kernel)
set_option maxRecDepth 20000 in
theorem gX7_ifForgotten_X7_isInput : GoodIn wsX7_ifForgotten (wsV RX7 123 RX7 yX7_isInput wsX7_isInput) := goodIn_app (goodIn_of _ (by decide +kernel)) ggX7_ifForgotten_X7_isInput
set_option maxRecDepth 20000 in
theorem ggX7_ifForgotten_X7_within : GoodIn wsX7_ifForgotten wsX7_within := goodIn_r _ [10] (by decide +kernel) (by decide +kernel)
set_option maxRecDepth 20000 in
theorem gX7_ifForgotten_X7_within : GoodIn wsX7_ifForgotten (va_wsS RX7 49 yX7_within wsX7_within) := goodIn_app (goodIn_of _ (by decide +kernel)) ggX7_ifForgotten_X7_within
set_option maxRecDepth 20000 in
theorem ggX7_ifForgotten_X7_forgottenThen : GoodIn wsX7_ifForgotten wsX7_forgottenThen := goodIn_r _ [14, 7, 15, 16, 17, 5, 18, 19, 20, 21, 22, 23, 24, 25, 26, 27, 28, 29, 30, 31, 32, 33, 34, 35, 36, 37, 38, 39, 40, 41, 42, 43, 44, 45, 46, 47, 48, 49, 50, 51, 52, 53, 54, 55, 56, 57, 58, 59, 60, 61, 62, 63, 64, 65, 66, 67, 68, 69, 70, 71, 72, 73, 74, 75, 76, 77, 78, 79, 80, 81, 82, 83, 84, 85, 86, 87, 88, 89, 90, 91, 92, 93, 94, 95, 96, 97, 98, 99, 100, 101, 102, 103, 104, 105, 106, 107, 108, 109, 110, 111, 112, 113, 114] (by decide +kernel) (by decide +kernel)
set_option maxRecDepth 20000 in
theorem gX7_ifForgotten_X7_forgottenThen : GoodIn wsX7_ifForgotten (wsV RX7 184 RX7 yX7_forgottenThen wsX7_forgottenThen) := goodIn_app (goodIn_of _ (by decide +kernel)) ggX7_ifForgotten_X7_forgottenThen
theorem dX7_ifForgotten_0 : decode cX7_ifForgotten 0 = .ok (.aload_n 0, 1) := by decide +kernel
theorem dX7_ifForgotten_1 : decode cX7_ifForgotten 1 = .ok (.aload_n 0, 1) := by decide +kernel
theorem dX7_ifForgotten_2 : decode cX7_ifForgotten 2 = .ok (.iload_n 1, 1) := by decide +kernel
theorem dX7_ifForgotten_3 : decode cX7_ifForgotten 3 = .ok (.invokevirtual 123, 3) := by decide +kernel
theorem dX7_ifForgotten_6 : decode cX7_ifForgotten 6 = .ok (.ifCond .ne 7, 3) := by decide +kernel
theorem dX7_ifForgotten_9 : decode cX7_ifForgotten 9 = .ok (.iconst 1, 1) := by decide +kernel
theorem dX7_ifForgotten_10 : decode cX7_ifForgotten 10 = .ok (.goto 17, 3) := by decide +kernel
theorem dX7_ifForgotten_13 : decode cX7_ifForgotten 13 = .ok (.iload_n 2, 1) := by decide +kernel
theorem dX7_ifForgotten_14 : decode cX7_ifForgotten 14 = .ok (.iconst 0, 1) := by decide +kernel
theorem dX7_ifForgotten_15 : decode cX7_ifForgotten 15 = .ok (.iconst 1, 1) := by decide +kernel
theorem dX7_ifForgotten_16 : decode cX7_ifForgotten 16 = .ok (.invokestatic 49, 3) := by decide +kernel
theorem dX7_ifForgotten_19 : decode cX7_ifForgotten 19 = .ok (.ifCond .eq 7, 3) := by decide +kernel
theorem dX7_ifForgotten_22 : decode cX7_ifForgotten 22 = .ok (.iconst 0, 1) := by decide +kernel
theorem dX7_ifForgotten_23 : decode cX7_ifForgotten 23 = .ok (.goto 4, 3) := by decide +kernel
theorem dX7_ifForgotten_26 : decode cX7_ifForgotten 26 = .ok (.iconst 2, 1) := by decide +kernel
theorem dX7_ifForgotten_27 : decode cX7_ifForgotten 27 = .ok (.putfield 38, 3) := by decide +kernel
theorem dX7_ifForgotten_30 : decode cX7_ifForgotten 30 = .ok (.aload_n 0, 1) := by decide +kernel
theorem dX7_ifForgotten_31 : decode cX7_ifForgotten 31 = .ok (.getfield 38, 3) := by decide +kernel
theorem dX7_ifForgotten_34 : decode cX7_ifForgotten 34 = .ok (.ifCond .le 7, 3) := by decide +kernel
theorem dX7_ifForgotten_37 : decode cX7_ifForgotten 37 = .ok (.iconst 0, 1) := by decide +kernel
theorem dX7_ifForgotten_38 : decode cX7_ifForgotten 38 = .ok (.goto 9, 3) := by decide +kernel
theorem dX7_ifForgotten_41 : decode cX7_ifForgotten 41 = .ok (.aload_n 0, 1) := by decide +kernel
theorem dX7_ifForgotten_42 : decode cX7_ifForgotten 42 = .ok (.iload_n 1, 1) := by decide +kernel
theorem dX7_ifForgotten_43 : decode cX7_ifForgotten 43 = .ok (.iload_n 2, 1) := by decide +kernel
theorem dX7_ifForgotten_44 : decode cX7_ifForgotten 44 = .ok (.invokevirtual 184, 3) := by decide +kernel
theorem dX7_ifForgotten_47 : decode cX7_ifForgotten 47 = .ok (.ireturn, 1) := by decide +kernel
set_option maxRecDepth 20000 in
theorem ggX7_needsNow_X7_rows : GoodIn wsX7_needsNow wsX7_rows := goodIn_r _ [6, 1, 11, 12, 13, 14, 15, 16, 17, 18, 19, 20, 21, 22, 23, 24, 25, 26] (by decide +kernel) (by decide +kernel)
set_option maxRecDepth 20000 in
theorem gX7_needsNow_X7_rows : GoodIn wsX7_needsNow (wsV RX7 45 RX7 yX7_rows wsX7_rows) := goodIn_app (goodIn_of _ (by decide +kernel)) ggX7_needsNow_X7_rows
set_option maxRecDepth 20000 in
theorem ggX7_needsNow_X7_truth : GoodIn wsX7_needsNow wsX7_truth := goodIn_r _ [10, 1, 11, 12, 13, 14, 15, 16, 17, 18, 19, 20, 21, 22, 23, 24, 25, 26] (by decide +kernel) (by decide +kernel)
set_option maxRecDepth 20000 in
theorem gX7_needsNow_X7_truth : GoodIn wsX7_needsNow (wsV RX7 53 RX7 yX7_truth wsX7_truth) := goodIn_app (goodIn_of _ (by decide +kernel)) ggX7_needsNow_X7_truth
theorem dX7_needsNow_0 : decode cX7_needsNow 0 = .ok (.iconst 0, 1) := by decide +kernel
theorem dX7_needsNow_1 : decode cX7_needsNow 1 = .ok (.istore_n 2, 1) := by decide +kernel
theorem dX7_needsNow_2 : decode cX7_needsNow 2 = .ok (.iconst 0, 1) := by decide +kernel
theorem dX7_needsNow_3 : decode cX7_needsNow 3 = .ok (.istore_n 3, 1) := by decide +kernel
theorem dX7_needsNow_4 : decode cX7_needsNow 4 = .ok (.iload_n 3, 1) := by decide +kernel
theorem dX7_needsNow_5 : decode cX7_needsNow 5 = .ok (.aload_n 0, 1) := by decide +kernel
theorem dX7_needsNow_6 : decode cX7_needsNow 6 = .ok (.getfield 7, 3) := by decide +kernel
theorem dX7_needsNow_9 : decode cX7_needsNow 9 = .ok (.iconst 0, 1) := by decide +kernel
theorem dX7_needsNow_10 : decode cX7_needsNow 10 = .ok (.iaload, 1) := by decide +kernel
theorem dX7_needsNow_11 : decode cX7_needsNow 11 = .ok (.if_icmp .ge 66, 3) := by decide +kernel
theorem dX7_needsNow_14 : decode cX7_needsNow 14 = .ok (.iconst 0, 1) := by decide +kernel
theorem dX7_needsNow_15 : decode cX7_needsNow 15 = .ok (.istore 4, 2) := by decide +kernel
theorem dX7_needsNow_17 : decode cX7_needsNow 17 = .ok (.iload 4, 2) := by decide +kernel
theorem dX7_needsNow_19 : decode cX7_needsNow 19 = .ok (.aload_n 0, 1) := by decide +kernel
theorem dX7_needsNow_20 : decode cX7_needsNow 20 = .ok (.invokevirtual 45, 3) := by decide +kernel
theorem dX7_needsNow_23 : decode cX7_needsNow 23 = .ok (.if_icmp .ge 48, 3) := by decide +kernel
theorem dX7_needsNow_26 : decode cX7_needsNow 26 = .ok (.iload 4, 2) := by decide +kernel
theorem dX7_needsNow_28 : decode cX7_needsNow 28 = .ok (.iconst 1, 1) := by decide +kernel
theorem dX7_needsNow_29 : decode cX7_needsNow 29 = .ok (.iload_n 3, 1) := by decide +kernel
theorem dX7_needsNow_30 : decode cX7_needsNow 30 = .ok (.ishl, 1) := by decide +kernel
theorem dX7_needsNow_31 : decode cX7_needsNow 31 = .ok (.ixor, 1) := by decide +kernel
theorem dX7_needsNow_32 : decode cX7_needsNow 32 = .ok (.istore 5, 2) := by decide +kernel
theorem dX7_needsNow_34 : decode cX7_needsNow 34 = .ok (.iload_n 2, 1) := by decide +kernel
theorem dX7_needsNow_35 : decode cX7_needsNow 35 = .ok (.aload_n 0, 1) := by decide +kernel
theorem dX7_needsNow_36 : decode cX7_needsNow 36 = .ok (.iload_n 1, 1) := by decide +kernel
theorem dX7_needsNow_37 : decode cX7_needsNow 37 = .ok (.iload 4, 2) := by decide +kernel
theorem dX7_needsNow_39 : decode cX7_needsNow 39 = .ok (.invokevirtual 53, 3) := by decide +kernel
theorem dX7_needsNow_42 : decode cX7_needsNow 42 = .ok (.ifCond .ne 20, 3) := by decide +kernel
theorem dX7_needsNow_45 : decode cX7_needsNow 45 = .ok (.aload_n 0, 1) := by decide +kernel
theorem dX7_needsNow_46 : decode cX7_needsNow 46 = .ok (.iload_n 1, 1) := by decide +kernel
theorem dX7_needsNow_47 : decode cX7_needsNow 47 = .ok (.iload 5, 2) := by decide +kernel
theorem dX7_needsNow_49 : decode cX7_needsNow 49 = .ok (.invokevirtual 53, 3) := by decide +kernel
theorem dX7_needsNow_52 : decode cX7_needsNow 52 = .ok (.iconst 1, 1) := by decide +kernel
theorem dX7_needsNow_53 : decode cX7_needsNow 53 = .ok (.if_icmp .ne 9, 3) := by decide +kernel
theorem dX7_needsNow_56 : decode cX7_needsNow 56 = .ok (.iconst 1, 1) := by decide +kernel
theorem dX7_needsNow_57 : decode cX7_needsNow 57 = .ok (.iload_n 3, 1) := by decide +kernel
theorem dX7_needsNow_58 : decode cX7_needsNow 58 = .ok (.ishl, 1) := by decide +kernel
theorem dX7_needsNow_59 : decode cX7_needsNow 59 = .ok (.goto 4, 3) := by decide +kernel
theorem dX7_needsNow_62 : decode cX7_needsNow 62 = .ok (.iconst 0, 1) := by decide +kernel
theorem dX7_needsNow_63 : decode cX7_needsNow 63 = .ok (.ior, 1) := by decide +kernel
theorem dX7_needsNow_64 : decode cX7_needsNow 64 = .ok (.istore_n 2, 1) := by decide +kernel
theorem dX7_needsNow_65 : decode cX7_needsNow 65 = .ok (.iinc 4 1, 3) := by decide +kernel
theorem dX7_needsNow_68 : decode cX7_needsNow 68 = .ok (.goto (-51), 3) := by decide +kernel
theorem dX7_needsNow_71 : decode cX7_needsNow 71 = .ok (.iinc 3 1, 3) := by decide +kernel
theorem dX7_needsNow_74 : decode cX7_needsNow 74 = .ok (.goto (-70), 3) := by decide +kernel
theorem dX7_needsNow_77 : decode cX7_needsNow 77 = .ok (.iload_n 2, 1) := by decide +kernel
theorem dX7_needsNow_78 : decode cX7_needsNow 78 = .ok (.ireturn, 1) := by decide +kernel
set_option maxRecDepth 20000 in
theorem ggX7_needs_X7_isOutput : GoodIn wsX7_needs wsX7_isOutput := goodIn_r _ [5, 6, 7, 4, 8] (by decide +kernel) (by decide +kernel)
set_option maxRecDepth 20000 in
theorem gX7_needs_X7_isOutput : GoodIn wsX7_needs (va_wsS RX7 110 yX7_isOutput wsX7_isOutput) := goodIn_app (goodIn_of _ (by decide +kernel)) ggX7_needs_X7_isOutput
set_option maxRecDepth 20000 in
theorem ggX7_needs_X7_needsNow : GoodIn wsX7_needs wsX7_needsNow := goodIn_r _ [12, 13, 14, 15, 16, 4, 17, 18, 19, 20, 21, 22, 23, 24, 25, 26, 27, 28, 29, 30, 31, 32, 33, 34, 35, 36, 37] (by decide +kernel) (by decide +kernel)
set_option maxRecDepth 20000 in
theorem gX7_needs_X7_needsNow : GoodIn wsX7_needs (wsV RX7 187 RX7 yX7_needsNow wsX7_needsNow) := goodIn_app (goodIn_of _ (by decide +kernel)) ggX7_needs_X7_needsNow
theorem dX7_needs_0 : decode cX7_needs 0 = .ok (.aload_n 0, 1) := by decide +kernel
theorem dX7_needs_1 : decode cX7_needs 1 = .ok (.iload_n 1, 1) := by decide +kernel
theorem dX7_needs_2 : decode cX7_needs 2 = .ok (.invokestatic 110, 3) := by decide +kernel
theorem dX7_needs_5 : decode cX7_needs 5 = .ok (.ifCond .eq 7, 3) := by decide +kernel
theorem dX7_needs_8 : decode cX7_needs 8 = .ok (.iconst 0, 1) := by decide +kernel
theorem dX7_needs_9 : decode cX7_needs 9 = .ok (.goto 4, 3) := by decide +kernel
theorem dX7_needs_12 : decode cX7_needs 12 = .ok (.iconst 1, 1) := by decide +kernel
theorem dX7_needs_13 : decode cX7_needs 13 = .ok (.putfield 38, 3) := by decide +kernel
theorem dX7_needs_16 : decode cX7_needs 16 = .ok (.aload_n 0, 1) := by decide +kernel
theorem dX7_needs_17 : decode cX7_needs 17 = .ok (.getfield 38, 3) := by decide +kernel
theorem dX7_needs_20 : decode cX7_needs 20 = .ok (.ifCond .le 7, 3) := by decide +kernel
theorem dX7_needs_23 : decode cX7_needs 23 = .ok (.iconst 0, 1) := by decide +kernel
theorem dX7_needs_24 : decode cX7_needs 24 = .ok (.goto 8, 3) := by decide +kernel
theorem dX7_needs_27 : decode cX7_needs 27 = .ok (.aload_n 0, 1) := by decide +kernel
theorem dX7_needs_28 : decode cX7_needs 28 = .ok (.iload_n 1, 1) := by decide +kernel
theorem dX7_needs_29 : decode cX7_needs 29 = .ok (.invokevirtual 187, 3) := by decide +kernel
theorem dX7_needs_32 : decode cX7_needs 32 = .ok (.ireturn, 1) := by decide +kernel
set_option maxRecDepth 20000 in
theorem ggX7_harmlessNow_X7_rows : GoodIn wsX7_harmlessNow wsX7_rows := goodIn_r _ [6, 1, 26, 27, 28, 29, 30, 31, 32, 33, 34, 35, 36, 37, 38, 39, 40, 41] (by decide +kernel) (by decide +kernel)
set_option maxRecDepth 20000 in
theorem gX7_harmlessNow_X7_rows : GoodIn wsX7_harmlessNow (wsV RX7 45 RX7 yX7_rows wsX7_rows) := goodIn_app (goodIn_of _ (by decide +kernel)) ggX7_harmlessNow_X7_rows
set_option maxRecDepth 20000 in
theorem ggX7_harmlessNow_X7_ones : GoodIn wsX7_harmlessNow wsX7_ones := goodIn_r _ [9] (by decide +kernel) (by decide +kernel)
set_option maxRecDepth 20000 in
theorem gX7_harmlessNow_X7_ones : GoodIn wsX7_harmlessNow (va_wsS RX7 85 yX7_ones wsX7_ones) := goodIn_app (goodIn_of _ (by decide +kernel)) ggX7_harmlessNow_X7_ones
set_option maxRecDepth 20000 in
theorem ggX7_harmlessNow_X7_undecided : GoodIn wsX7_harmlessNow wsX7_undecided := goodIn_r _ [13, 14, 15, 16, 5, 17, 2, 3, 4, 6, 1, 18, 19, 20, 21, 22, 23, 24, 25, 26, 27, 28, 29, 30, 31, 32, 33, 34, 35, 36, 37, 38, 39, 40, 41] (by decide +kernel) (by decide +kernel)
set_option maxRecDepth 20000 in
theorem gX7_harmlessNow_X7_undecided : GoodIn wsX7_harmlessNow (wsV RX7 129 RX7 yX7_undecided wsX7_undecided) := goodIn_app (goodIn_of _ (by decide +kernel)) ggX7_harmlessNow_X7_undecided
theorem dX7_harmlessNow_0 : decode cX7_harmlessNow 0 = .ok (.aload_n 0, 1) := by decide +kernel
theorem dX7_harmlessNow_1 : decode cX7_harmlessNow 1 = .ok (.getfield 7, 3) := by decide +kernel
theorem dX7_harmlessNow_4 : decode cX7_harmlessNow 4 = .ok (.iconst 1, 1) := by decide +kernel
theorem dX7_harmlessNow_5 : decode cX7_harmlessNow 5 = .ok (.iaload, 1) := by decide +kernel
theorem dX7_harmlessNow_6 : decode cX7_harmlessNow 6 = .ok (.istore_n 1, 1) := by decide +kernel
theorem dX7_harmlessNow_7 : decode cX7_harmlessNow 7 = .ok (.iconst 0, 1) := by decide +kernel
theorem dX7_harmlessNow_8 : decode cX7_harmlessNow 8 = .ok (.istore_n 2, 1) := by decide +kernel
theorem dX7_harmlessNow_9 : decode cX7_harmlessNow 9 = .ok (.iconst 1, 1) := by decide +kernel
theorem dX7_harmlessNow_10 : decode cX7_harmlessNow 10 = .ok (.istore_n 3, 1) := by decide +kernel
theorem dX7_harmlessNow_11 : decode cX7_harmlessNow 11 = .ok (.iload_n 3, 1) := by decide +kernel
theorem dX7_harmlessNow_12 : decode cX7_harmlessNow 12 = .ok (.aload_n 0, 1) := by decide +kernel
theorem dX7_harmlessNow_13 : decode cX7_harmlessNow 13 = .ok (.invokevirtual 45, 3) := by decide +kernel
theorem dX7_harmlessNow_16 : decode cX7_harmlessNow 16 = .ok (.if_icmp .ge 49, 3) := by decide +kernel
theorem dX7_harmlessNow_19 : decode cX7_harmlessNow 19 = .ok (.aload_n 0, 1) := by decide +kernel
theorem dX7_harmlessNow_20 : decode cX7_harmlessNow 20 = .ok (.getfield 7, 3) := by decide +kernel
theorem dX7_harmlessNow_23 : decode cX7_harmlessNow 23 = .ok (.iconst 1, 1) := by decide +kernel
theorem dX7_harmlessNow_24 : decode cX7_harmlessNow 24 = .ok (.aload_n 0, 1) := by decide +kernel
theorem dX7_harmlessNow_25 : decode cX7_harmlessNow 25 = .ok (.invokevirtual 45, 3) := by decide +kernel
theorem dX7_harmlessNow_28 : decode cX7_harmlessNow 28 = .ok (.iconst 1, 1) := by decide +kernel
theorem dX7_harmlessNow_29 : decode cX7_harmlessNow 29 = .ok (.isub, 1) := by decide +kernel
theorem dX7_harmlessNow_30 : decode cX7_harmlessNow 30 = .ok (.iload_n 3, 1) := by decide +kernel
theorem dX7_harmlessNow_31 : decode cX7_harmlessNow 31 = .ok (.iconst (-1), 1) := by decide +kernel
theorem dX7_harmlessNow_32 : decode cX7_harmlessNow 32 = .ok (.ixor, 1) := by decide +kernel
theorem dX7_harmlessNow_33 : decode cX7_harmlessNow 33 = .ok (.iand, 1) := by decide +kernel
theorem dX7_harmlessNow_34 : decode cX7_harmlessNow 34 = .ok (.iastore, 1) := by decide +kernel
theorem dX7_harmlessNow_35 : decode cX7_harmlessNow 35 = .ok (.iload_n 3, 1) := by decide +kernel
theorem dX7_harmlessNow_36 : decode cX7_harmlessNow 36 = .ok (.invokestatic 85, 3) := by decide +kernel
theorem dX7_harmlessNow_39 : decode cX7_harmlessNow 39 = .ok (.iload_n 2, 1) := by decide +kernel
theorem dX7_harmlessNow_40 : decode cX7_harmlessNow 40 = .ok (.invokestatic 85, 3) := by decide +kernel
theorem dX7_harmlessNow_43 : decode cX7_harmlessNow 43 = .ok (.if_icmp .le 14, 3) := by decide +kernel
theorem dX7_harmlessNow_46 : decode cX7_harmlessNow 46 = .ok (.aload_n 0, 1) := by decide +kernel
theorem dX7_harmlessNow_47 : decode cX7_harmlessNow 47 = .ok (.invokevirtual 129, 3) := by decide +kernel
theorem dX7_harmlessNow_50 : decode cX7_harmlessNow 50 = .ok (.ifCond .ne 7, 3) := by decide +kernel
theorem dX7_harmlessNow_53 : decode cX7_harmlessNow 53 = .ok (.iload_n 3, 1) := by decide +kernel
theorem dX7_harmlessNow_54 : decode cX7_harmlessNow 54 = .ok (.goto 4, 3) := by decide +kernel
theorem dX7_harmlessNow_57 : decode cX7_harmlessNow 57 = .ok (.iload_n 2, 1) := by decide +kernel
theorem dX7_harmlessNow_58 : decode cX7_harmlessNow 58 = .ok (.istore_n 2, 1) := by decide +kernel
theorem dX7_harmlessNow_59 : decode cX7_harmlessNow 59 = .ok (.iinc 3 1, 3) := by decide +kernel
theorem dX7_harmlessNow_62 : decode cX7_harmlessNow 62 = .ok (.goto (-51), 3) := by decide +kernel
theorem dX7_harmlessNow_65 : decode cX7_harmlessNow 65 = .ok (.aload_n 0, 1) := by decide +kernel
theorem dX7_harmlessNow_66 : decode cX7_harmlessNow 66 = .ok (.getfield 7, 3) := by decide +kernel
theorem dX7_harmlessNow_69 : decode cX7_harmlessNow 69 = .ok (.iconst 1, 1) := by decide +kernel
theorem dX7_harmlessNow_70 : decode cX7_harmlessNow 70 = .ok (.iload_n 1, 1) := by decide +kernel
theorem dX7_harmlessNow_71 : decode cX7_harmlessNow 71 = .ok (.iastore, 1) := by decide +kernel
theorem dX7_harmlessNow_72 : decode cX7_harmlessNow 72 = .ok (.iload_n 2, 1) := by decide +kernel
theorem dX7_harmlessNow_73 : decode cX7_harmlessNow 73 = .ok (.ireturn, 1) := by decide +kernel
set_option maxRecDepth 20000 in
theorem ggX7_harmless_X7_harmlessNow : GoodIn wsX7_harmless wsX7_harmlessNow := goodIn_r _ [6, 7, 8, 9, 10, 5, 11, 12, 13, 14, 15, 16, 17, 18, 19, 20, 21, 22, 23, 24, 25, 26, 27, 28, 29, 30, 31, 32, 33, 34, 35, 36, 37, 38, 39, 40, 41, 42, 43, 44, 45, 46] (by decide +kernel) (by decide +kernel)
set_option maxRecDepth 20000 in
theorem gX7_harmless_X7_harmlessNow : GoodIn wsX7_harmless (wsV RX7 190 RX7 yX7_harmlessNow wsX7_harmlessNow) := goodIn_app (goodIn_of _ (by decide +kernel)) ggX7_harmless_X7_harmlessNow
theorem dX7_harmless_0 : decode cX7_harmless 0 = .ok (.aload_n 0, 1) := by decide +kernel
theorem dX7_harmless_1 : decode cX7_harmless 1 = .ok (.iconst 0, 1) := by decide +kernel
theorem dX7_harmless_2 : decode cX7_harmless 2 = .ok (.putfield 38, 3) := by decide +kernel
theorem dX7_harmless_5 : decode cX7_harmless 5 = .ok (.aload_n 0, 1) := by decide +kernel
theorem dX7_harmless_6 : decode cX7_harmless 6 = .ok (.invokevirtual 190, 3) := by decide +kernel
theorem dX7_harmless_9 : decode cX7_harmless 9 = .ok (.ireturn, 1) := by decide +kernel
set_option maxRecDepth 20000 in
theorem ggX7_alikeNow_X7_rows : GoodIn wsX7_alikeNow wsX7_rows := goodIn_r _ [5, 6, 13, 14, 15, 16, 17, 18, 19, 20, 21, 22, 23, 24, 25, 26, 27, 28] (by decide +kernel) (by decide +kernel)
set_option maxRecDepth 20000 in
theorem gX7_alikeNow_X7_rows : GoodIn wsX7_alikeNow (wsV RX7 45 RX7 yX7_rows wsX7_rows) := goodIn_app (goodIn_of _ (by decide +kernel)) ggX7_alikeNow_X7_rows
set_option maxRecDepth 20000 in
theorem ggX7_alikeNow_X7_answer : GoodIn wsX7_alikeNow wsX7_answer := goodIn_r _ [10, 11, 12, 13, 14, 15, 16, 17, 18, 19, 20, 21, 22, 23, 24, 25, 26, 27, 28] (by decide +kernel) (by decide +kernel)
set_option maxRecDepth 20000 in
theorem gX7_alikeNow_X7_answer : GoodIn wsX7_alikeNow (wsV RX7 141 RX7 yX7_answer wsX7_answer) := goodIn_app (goodIn_of _ (by decide +kernel)) ggX7_alikeNow_X7_answer
theorem dX7_alikeNow_0 : decode cX7_alikeNow 0 = .ok (.iconst 0, 1) := by decide +kernel
theorem dX7_alikeNow_1 : decode cX7_alikeNow 1 = .ok (.istore_n 3, 1) := by decide +kernel
theorem dX7_alikeNow_2 : decode cX7_alikeNow 2 = .ok (.iconst 0, 1) := by decide +kernel
theorem dX7_alikeNow_3 : decode cX7_alikeNow 3 = .ok (.istore 4, 2) := by decide +kernel
theorem dX7_alikeNow_5 : decode cX7_alikeNow 5 = .ok (.iload 4, 2) := by decide +kernel
theorem dX7_alikeNow_7 : decode cX7_alikeNow 7 = .ok (.aload_n 0, 1) := by decide +kernel
theorem dX7_alikeNow_8 : decode cX7_alikeNow 8 = .ok (.invokevirtual 45, 3) := by decide +kernel
theorem dX7_alikeNow_11 : decode cX7_alikeNow 11 = .ok (.if_icmp .ge 34, 3) := by decide +kernel
theorem dX7_alikeNow_14 : decode cX7_alikeNow 14 = .ok (.iload_n 3, 1) := by decide +kernel
theorem dX7_alikeNow_15 : decode cX7_alikeNow 15 = .ok (.aload_n 0, 1) := by decide +kernel
theorem dX7_alikeNow_16 : decode cX7_alikeNow 16 = .ok (.iload_n 1, 1) := by decide +kernel
theorem dX7_alikeNow_17 : decode cX7_alikeNow 17 = .ok (.iload 4, 2) := by decide +kernel
theorem dX7_alikeNow_19 : decode cX7_alikeNow 19 = .ok (.invokevirtual 141, 3) := by decide +kernel
theorem dX7_alikeNow_22 : decode cX7_alikeNow 22 = .ok (.aload_n 0, 1) := by decide +kernel
theorem dX7_alikeNow_23 : decode cX7_alikeNow 23 = .ok (.iload_n 2, 1) := by decide +kernel
theorem dX7_alikeNow_24 : decode cX7_alikeNow 24 = .ok (.iload 4, 2) := by decide +kernel
theorem dX7_alikeNow_26 : decode cX7_alikeNow 26 = .ok (.invokevirtual 141, 3) := by decide +kernel
theorem dX7_alikeNow_29 : decode cX7_alikeNow 29 = .ok (.if_icmp .ne 7, 3) := by decide +kernel
theorem dX7_alikeNow_32 : decode cX7_alikeNow 32 = .ok (.iconst 1, 1) := by decide +kernel
theorem dX7_alikeNow_33 : decode cX7_alikeNow 33 = .ok (.goto 4, 3) := by decide +kernel
theorem dX7_alikeNow_36 : decode cX7_alikeNow 36 = .ok (.iconst 0, 1) := by decide +kernel
theorem dX7_alikeNow_37 : decode cX7_alikeNow 37 = .ok (.iadd, 1) := by decide +kernel
theorem dX7_alikeNow_38 : decode cX7_alikeNow 38 = .ok (.istore_n 3, 1) := by decide +kernel
theorem dX7_alikeNow_39 : decode cX7_alikeNow 39 = .ok (.iinc 4 1, 3) := by decide +kernel
theorem dX7_alikeNow_42 : decode cX7_alikeNow 42 = .ok (.goto (-37), 3) := by decide +kernel
theorem dX7_alikeNow_45 : decode cX7_alikeNow 45 = .ok (.iload_n 3, 1) := by decide +kernel
theorem dX7_alikeNow_46 : decode cX7_alikeNow 46 = .ok (.ireturn, 1) := by decide +kernel
set_option maxRecDepth 20000 in
theorem ggX7_alike_X7_isOutput : GoodIn wsX7_alike wsX7_isOutput := goodIn_r _ [5, 6, 7, 4, 8] (by decide +kernel) (by decide +kernel)
set_option maxRecDepth 20000 in
theorem gX7_alike_X7_isOutput : GoodIn wsX7_alike (va_wsS RX7 110 yX7_isOutput wsX7_isOutput) := goodIn_app (goodIn_of _ (by decide +kernel)) ggX7_alike_X7_isOutput
set_option maxRecDepth 20000 in
theorem ggX7_alike_X7_layAll : GoodIn wsX7_alike wsX7_layAll := goodIn_r _ [12, 13, 14, 15, 4, 16, 17, 18, 19, 20, 21, 22, 23, 24, 25, 26, 27, 28, 29, 30, 31, 32, 33, 34, 35, 36, 37, 38, 39, 40, 41, 42, 43, 44, 45, 46, 47, 48, 49, 50, 51, 52, 53, 54, 55, 56, 57, 58, 59, 60, 61, 62, 63, 64, 65, 74, 75, 76, 77, 78, 79, 80, 81, 82, 83, 84, 85, 86, 87, 88, 89] (by decide +kernel) (by decide +kernel)
set_option maxRecDepth 20000 in
theorem gX7_alike_X7_layAll : GoodIn wsX7_alike (wsV RX7 138 RX7 yX7_layAll wsX7_layAll) := goodIn_app (goodIn_of _ (by decide +kernel)) ggX7_alike_X7_layAll
set_option maxRecDepth 20000 in
theorem ggX7_alike_X7_alikeNow : GoodIn wsX7_alike wsX7_alikeNow := goodIn_r _ [69, 31, 32, 33, 4, 34, 35, 70, 71, 72, 73, 17, 18, 74, 75, 76, 77, 78, 79, 80, 81, 82, 83, 84, 85, 86, 87, 88, 89] (by decide +kernel) (by decide +kernel)
set_option maxRecDepth 20000 in
theorem gX7_alike_X7_alikeNow : GoodIn wsX7_alike (wsV RX7 193 RX7 yX7_alikeNow wsX7_alikeNow) := goodIn_app (goodIn_of _ (by decide +kernel)) ggX7_alike_X7_alikeNow
theorem dX7_alike_0 : decode cX7_alike 0 = .ok (.aload_n 0, 1) := by decide +kernel
theorem dX7_alike_1 : decode cX7_alike 1 = .ok (.iload_n 1, 1) := by decide +kernel
theorem dX7_alike_2 : decode cX7_alike 2 = .ok (.invokestatic 110, 3) := by decide +kernel
theorem dX7_alike_5 : decode cX7_alike 5 = .ok (.ifCond .eq 14, 3) := by decide +kernel
theorem dX7_alike_8 : decode cX7_alike 8 = .ok (.iload_n 2, 1) := by decide +kernel
theorem dX7_alike_9 : decode cX7_alike 9 = .ok (.invokestatic 110, 3) := by decide +kernel
theorem dX7_alike_12 : decode cX7_alike 12 = .ok (.ifCond .eq 7, 3) := by decide +kernel
theorem dX7_alike_15 : decode cX7_alike 15 = .ok (.iconst 0, 1) := by decide +kernel
theorem dX7_alike_16 : decode cX7_alike 16 = .ok (.goto 4, 3) := by decide +kernel
theorem dX7_alike_19 : decode cX7_alike 19 = .ok (.iconst 1, 1) := by decide +kernel
theorem dX7_alike_20 : decode cX7_alike 20 = .ok (.putfield 38, 3) := by decide +kernel
theorem dX7_alike_23 : decode cX7_alike 23 = .ok (.aload_n 0, 1) := by decide +kernel
theorem dX7_alike_24 : decode cX7_alike 24 = .ok (.getfield 38, 3) := by decide +kernel
theorem dX7_alike_27 : decode cX7_alike 27 = .ok (.ifCond .le 5, 3) := by decide +kernel
theorem dX7_alike_30 : decode cX7_alike 30 = .ok (.iconst 0, 1) := by decide +kernel
theorem dX7_alike_31 : decode cX7_alike 31 = .ok (.ireturn, 1) := by decide +kernel
theorem dX7_alike_32 : decode cX7_alike 32 = .ok (.aload_n 0, 1) := by decide +kernel
theorem dX7_alike_33 : decode cX7_alike 33 = .ok (.invokevirtual 138, 3) := by decide +kernel
theorem dX7_alike_36 : decode cX7_alike 36 = .ok (.aload_n 0, 1) := by decide +kernel
theorem dX7_alike_37 : decode cX7_alike 37 = .ok (.iload_n 1, 1) := by decide +kernel
theorem dX7_alike_38 : decode cX7_alike 38 = .ok (.iload_n 2, 1) := by decide +kernel
theorem dX7_alike_39 : decode cX7_alike 39 = .ok (.invokevirtual 193, 3) := by decide +kernel
theorem dX7_alike_42 : decode cX7_alike 42 = .ok (.ireturn, 1) := by decide +kernel
set_option maxRecDepth 20000 in
theorem ggX7_nearestNow_X7_rows : GoodIn wsX7_nearestNow wsX7_rows := goodIn_r _ [5, 6, 18, 19, 20, 21, 22, 23, 24, 25, 26, 27, 28, 29, 30, 31, 32, 33] (by decide +kernel) (by decide +kernel)
set_option maxRecDepth 20000 in
theorem gX7_nearestNow_X7_rows : GoodIn wsX7_nearestNow (wsV RX7 45 RX7 yX7_rows wsX7_rows) := goodIn_app (goodIn_of _ (by decide +kernel)) ggX7_nearestNow_X7_rows
set_option maxRecDepth 20000 in
theorem ggX7_nearestNow_X7_decided : GoodIn wsX7_nearestNow wsX7_decided := goodIn_r _ [10, 6, 1, 2, 3, 4, 5, 11, 12, 13, 14, 18, 19, 20, 21, 22, 23, 24, 25, 26, 27, 28, 29, 30, 31, 32, 33] (by decide +kernel) (by decide +kernel)
set_option maxRecDepth 20000 in
theorem gX7_nearestNow_X7_decided : GoodIn wsX7_nearestNow (wsV RX7 57 RX7 yX7_decided wsX7_decided) := goodIn_app (goodIn_of _ (by decide +kernel)) ggX7_nearestNow_X7_decided
set_option maxRecDepth 20000 in
theorem ggX7_nearestNow_X7_ones : GoodIn wsX7_nearestNow wsX7_ones := goodIn_r _ [17] (by decide +kernel) (by decide +kernel)
set_option maxRecDepth 20000 in
theorem gX7_nearestNow_X7_ones : GoodIn wsX7_nearestNow (va_wsS RX7 85 yX7_ones wsX7_ones) := goodIn_app (goodIn_of _ (by decide +kernel)) ggX7_nearestNow_X7_ones
theorem dX7_nearestNow_0 : decode cX7_nearestNow 0 = .ok (.iconst (-1), 1) := by decide +kernel
theorem dX7_nearestNow_1 : decode cX7_nearestNow 1 = .ok (.istore_n 3, 1) := by decide +kernel
theorem dX7_nearestNow_2 : decode cX7_nearestNow 2 = .ok (.bipush 99, 2) := by decide +kernel
theorem dX7_nearestNow_4 : decode cX7_nearestNow 4 = .ok (.istore 4, 2) := by decide +kernel
theorem dX7_nearestNow_6 : decode cX7_nearestNow 6 = .ok (.iconst 0, 1) := by decide +kernel
theorem dX7_nearestNow_7 : decode cX7_nearestNow 7 = .ok (.istore 5, 2) := by decide +kernel
theorem dX7_nearestNow_9 : decode cX7_nearestNow 9 = .ok (.iload 5, 2) := by decide +kernel
theorem dX7_nearestNow_11 : decode cX7_nearestNow 11 = .ok (.aload_n 0, 1) := by decide +kernel
theorem dX7_nearestNow_12 : decode cX7_nearestNow 12 = .ok (.invokevirtual 45, 3) := by decide +kernel
theorem dX7_nearestNow_15 : decode cX7_nearestNow 15 = .ok (.if_icmp .ge 44, 3) := by decide +kernel
theorem dX7_nearestNow_18 : decode cX7_nearestNow 18 = .ok (.aload_n 0, 1) := by decide +kernel
theorem dX7_nearestNow_19 : decode cX7_nearestNow 19 = .ok (.iload_n 1, 1) := by decide +kernel
theorem dX7_nearestNow_20 : decode cX7_nearestNow 20 = .ok (.iload 5, 2) := by decide +kernel
theorem dX7_nearestNow_22 : decode cX7_nearestNow 22 = .ok (.invokevirtual 57, 3) := by decide +kernel
theorem dX7_nearestNow_25 : decode cX7_nearestNow 25 = .ok (.iconst 3, 1) := by decide +kernel
theorem dX7_nearestNow_26 : decode cX7_nearestNow 26 = .ok (.if_icmp .ne 27, 3) := by decide +kernel
theorem dX7_nearestNow_29 : decode cX7_nearestNow 29 = .ok (.iload 5, 2) := by decide +kernel
theorem dX7_nearestNow_31 : decode cX7_nearestNow 31 = .ok (.iload_n 2, 1) := by decide +kernel
theorem dX7_nearestNow_32 : decode cX7_nearestNow 32 = .ok (.ixor, 1) := by decide +kernel
theorem dX7_nearestNow_33 : decode cX7_nearestNow 33 = .ok (.invokestatic 85, 3) := by decide +kernel
theorem dX7_nearestNow_36 : decode cX7_nearestNow 36 = .ok (.iload 4, 2) := by decide +kernel
theorem dX7_nearestNow_38 : decode cX7_nearestNow 38 = .ok (.if_icmp .ge 15, 3) := by decide +kernel
theorem dX7_nearestNow_41 : decode cX7_nearestNow 41 = .ok (.iload 5, 2) := by decide +kernel
theorem dX7_nearestNow_43 : decode cX7_nearestNow 43 = .ok (.istore_n 3, 1) := by decide +kernel
theorem dX7_nearestNow_44 : decode cX7_nearestNow 44 = .ok (.iload 5, 2) := by decide +kernel
theorem dX7_nearestNow_46 : decode cX7_nearestNow 46 = .ok (.iload_n 2, 1) := by decide +kernel
theorem dX7_nearestNow_47 : decode cX7_nearestNow 47 = .ok (.ixor, 1) := by decide +kernel
theorem dX7_nearestNow_48 : decode cX7_nearestNow 48 = .ok (.invokestatic 85, 3) := by decide +kernel
theorem dX7_nearestNow_51 : decode cX7_nearestNow 51 = .ok (.istore 4, 2) := by decide +kernel
theorem dX7_nearestNow_53 : decode cX7_nearestNow 53 = .ok (.iinc 5 1, 3) := by decide +kernel
theorem dX7_nearestNow_56 : decode cX7_nearestNow 56 = .ok (.goto (-47), 3) := by decide +kernel
theorem dX7_nearestNow_59 : decode cX7_nearestNow 59 = .ok (.iload_n 3, 1) := by decide +kernel
theorem dX7_nearestNow_60 : decode cX7_nearestNow 60 = .ok (.ireturn, 1) := by decide +kernel
set_option maxRecDepth 20000 in
theorem ggX7_nearest_X7_isOutput : GoodIn wsX7_nearest wsX7_isOutput := goodIn_r _ [5, 6, 7, 4, 8] (by decide +kernel) (by decide +kernel)
set_option maxRecDepth 20000 in
theorem gX7_nearest_X7_isOutput : GoodIn wsX7_nearest (va_wsS RX7 110 yX7_isOutput wsX7_isOutput) := goodIn_app (goodIn_of _ (by decide +kernel)) ggX7_nearest_X7_isOutput
set_option maxRecDepth 20000 in
theorem ggX7_nearest_X7_isRow : GoodIn wsX7_nearest wsX7_isRow := goodIn_r _ [12, 13, 14, 15, 4, 16, 17, 6, 7, 8, 33, 34, 35, 36, 37, 38, 39, 40, 41, 42, 43, 44, 45, 46, 47, 48] (by decide +kernel) (by decide +kernel)
set_option maxRecDepth 20000 in
theorem gX7_nearest_X7_isRow : GoodIn wsX7_nearest (wsV RX7 113 RX7 yX7_isRow wsX7_isRow) := goodIn_app (goodIn_of _ (by decide +kernel)) ggX7_nearest_X7_isRow
set_option maxRecDepth 20000 in
theorem ggX7_nearest_X7_nearestNow : GoodIn wsX7_nearest wsX7_nearestNow := goodIn_r _ [21, 13, 14, 15, 4, 16, 17, 22, 23, 24, 25, 26, 27, 28, 29, 30, 31, 32, 33, 34, 35, 36, 37, 38, 39, 40, 41, 42, 43, 44, 45, 46, 47, 48] (by decide +kernel) (by decide +kernel)
set_option maxRecDepth 20000 in
theorem gX7_nearest_X7_nearestNow : GoodIn wsX7_nearest (wsV RX7 196 RX7 yX7_nearestNow wsX7_nearestNow) := goodIn_app (goodIn_of _ (by decide +kernel)) ggX7_nearest_X7_nearestNow
theorem dX7_nearest_0 : decode cX7_nearest 0 = .ok (.aload_n 0, 1) := by decide +kernel
theorem dX7_nearest_1 : decode cX7_nearest 1 = .ok (.iload_n 1, 1) := by decide +kernel
theorem dX7_nearest_2 : decode cX7_nearest 2 = .ok (.invokestatic 110, 3) := by decide +kernel
theorem dX7_nearest_5 : decode cX7_nearest 5 = .ok (.ifCond .eq 15, 3) := by decide +kernel
theorem dX7_nearest_8 : decode cX7_nearest 8 = .ok (.aload_n 0, 1) := by decide +kernel
theorem dX7_nearest_9 : decode cX7_nearest 9 = .ok (.iload_n 2, 1) := by decide +kernel
theorem dX7_nearest_10 : decode cX7_nearest 10 = .ok (.invokevirtual 113, 3) := by decide +kernel
theorem dX7_nearest_13 : decode cX7_nearest 13 = .ok (.ifCond .eq 7, 3) := by decide +kernel
theorem dX7_nearest_16 : decode cX7_nearest 16 = .ok (.iconst 0, 1) := by decide +kernel
theorem dX7_nearest_17 : decode cX7_nearest 17 = .ok (.goto 4, 3) := by decide +kernel
theorem dX7_nearest_20 : decode cX7_nearest 20 = .ok (.iconst 1, 1) := by decide +kernel
theorem dX7_nearest_21 : decode cX7_nearest 21 = .ok (.putfield 38, 3) := by decide +kernel
theorem dX7_nearest_24 : decode cX7_nearest 24 = .ok (.aload_n 0, 1) := by decide +kernel
theorem dX7_nearest_25 : decode cX7_nearest 25 = .ok (.getfield 38, 3) := by decide +kernel
theorem dX7_nearest_28 : decode cX7_nearest 28 = .ok (.ifCond .le 7, 3) := by decide +kernel
theorem dX7_nearest_31 : decode cX7_nearest 31 = .ok (.iconst 0, 1) := by decide +kernel
theorem dX7_nearest_32 : decode cX7_nearest 32 = .ok (.goto 9, 3) := by decide +kernel
theorem dX7_nearest_35 : decode cX7_nearest 35 = .ok (.aload_n 0, 1) := by decide +kernel
theorem dX7_nearest_36 : decode cX7_nearest 36 = .ok (.iload_n 1, 1) := by decide +kernel
theorem dX7_nearest_37 : decode cX7_nearest 37 = .ok (.iload_n 2, 1) := by decide +kernel
theorem dX7_nearest_38 : decode cX7_nearest 38 = .ok (.invokevirtual 196, 3) := by decide +kernel
theorem dX7_nearest_41 : decode cX7_nearest 41 = .ok (.ireturn, 1) := by decide +kernel
set_option maxRecDepth 20000 in
theorem ggX7_share_X7_rows : GoodIn wsX7_share wsX7_rows := goodIn_r _ [5, 6, 15, 16, 17, 18, 19, 20, 21, 22, 23, 24, 25, 26, 27, 28, 29, 30] (by decide +kernel) (by decide +kernel)
set_option maxRecDepth 20000 in
theorem gX7_share_X7_rows : GoodIn wsX7_share (wsV RX7 45 RX7 yX7_rows wsX7_rows) := goodIn_app (goodIn_of _ (by decide +kernel)) ggX7_share_X7_rows
set_option maxRecDepth 20000 in
theorem ggX7_share_X7_truth : GoodIn wsX7_share wsX7_truth := goodIn_r _ [10, 6, 15, 16, 17, 18, 19, 20, 21, 22, 23, 24, 25, 26, 27, 28, 29, 30] (by decide +kernel) (by decide +kernel)
set_option maxRecDepth 20000 in
theorem gX7_share_X7_truth : GoodIn wsX7_share (wsV RX7 53 RX7 yX7_truth wsX7_truth) := goodIn_app (goodIn_of _ (by decide +kernel)) ggX7_share_X7_truth
set_option maxRecDepth 20000 in
theorem ggX7_share_X7_decided : GoodIn wsX7_share wsX7_decided := goodIn_r _ [14, 6, 1, 2, 3, 4, 5, 7, 8, 9, 10, 15, 16, 17, 18, 19, 20, 21, 22, 23, 24, 25, 26, 27, 28, 29, 30] (by decide +kernel) (by decide +kernel)
set_option maxRecDepth 20000 in
theorem gX7_share_X7_decided : GoodIn wsX7_share (wsV RX7 57 RX7 yX7_decided wsX7_decided) := goodIn_app (goodIn_of _ (by decide +kernel)) ggX7_share_X7_decided
theorem dX7_share_0 : decode cX7_share 0 = .ok (.iconst 0, 1) := by decide +kernel
theorem dX7_share_1 : decode cX7_share 1 = .ok (.istore_n 1, 1) := by decide +kernel
theorem dX7_share_2 : decode cX7_share 2 = .ok (.iconst 0, 1) := by decide +kernel
theorem dX7_share_3 : decode cX7_share 3 = .ok (.istore_n 2, 1) := by decide +kernel
theorem dX7_share_4 : decode cX7_share 4 = .ok (.iconst 0, 1) := by decide +kernel
theorem dX7_share_5 : decode cX7_share 5 = .ok (.istore_n 3, 1) := by decide +kernel
theorem dX7_share_6 : decode cX7_share 6 = .ok (.iload_n 3, 1) := by decide +kernel
theorem dX7_share_7 : decode cX7_share 7 = .ok (.iconst 4, 1) := by decide +kernel
theorem dX7_share_8 : decode cX7_share 8 = .ok (.if_icmp .ge 82, 3) := by decide +kernel
theorem dX7_share_11 : decode cX7_share 11 = .ok (.iconst 0, 1) := by decide +kernel
theorem dX7_share_12 : decode cX7_share 12 = .ok (.istore 4, 2) := by decide +kernel
theorem dX7_share_14 : decode cX7_share 14 = .ok (.iload 4, 2) := by decide +kernel
theorem dX7_share_16 : decode cX7_share 16 = .ok (.aload_n 0, 1) := by decide +kernel
theorem dX7_share_17 : decode cX7_share 17 = .ok (.invokevirtual 45, 3) := by decide +kernel
theorem dX7_share_20 : decode cX7_share 20 = .ok (.if_icmp .ge 64, 3) := by decide +kernel
theorem dX7_share_23 : decode cX7_share 23 = .ok (.aload_n 0, 1) := by decide +kernel
theorem dX7_share_24 : decode cX7_share 24 = .ok (.iload_n 3, 1) := by decide +kernel
theorem dX7_share_25 : decode cX7_share 25 = .ok (.iload 4, 2) := by decide +kernel
theorem dX7_share_27 : decode cX7_share 27 = .ok (.invokevirtual 53, 3) := by decide +kernel
theorem dX7_share_30 : decode cX7_share 30 = .ok (.iconst 2, 1) := by decide +kernel
theorem dX7_share_31 : decode cX7_share 31 = .ok (.if_icmp .ge 7, 3) := by decide +kernel
theorem dX7_share_34 : decode cX7_share 34 = .ok (.iconst 1, 1) := by decide +kernel
theorem dX7_share_35 : decode cX7_share 35 = .ok (.goto 4, 3) := by decide +kernel
theorem dX7_share_38 : decode cX7_share 38 = .ok (.iconst 0, 1) := by decide +kernel
theorem dX7_share_39 : decode cX7_share 39 = .ok (.istore 5, 2) := by decide +kernel
theorem dX7_share_41 : decode cX7_share 41 = .ok (.iload_n 1, 1) := by decide +kernel
theorem dX7_share_42 : decode cX7_share 42 = .ok (.iload 5, 2) := by decide +kernel
theorem dX7_share_44 : decode cX7_share 44 = .ok (.ifCond .eq 7, 3) := by decide +kernel
theorem dX7_share_47 : decode cX7_share 47 = .ok (.iconst 1, 1) := by decide +kernel
theorem dX7_share_48 : decode cX7_share 48 = .ok (.goto 4, 3) := by decide +kernel
theorem dX7_share_51 : decode cX7_share 51 = .ok (.iconst 0, 1) := by decide +kernel
theorem dX7_share_52 : decode cX7_share 52 = .ok (.iadd, 1) := by decide +kernel
theorem dX7_share_53 : decode cX7_share 53 = .ok (.istore_n 1, 1) := by decide +kernel
theorem dX7_share_54 : decode cX7_share 54 = .ok (.iload_n 2, 1) := by decide +kernel
theorem dX7_share_55 : decode cX7_share 55 = .ok (.iload 5, 2) := by decide +kernel
theorem dX7_share_57 : decode cX7_share 57 = .ok (.ifCond .eq 18, 3) := by decide +kernel
theorem dX7_share_60 : decode cX7_share 60 = .ok (.aload_n 0, 1) := by decide +kernel
theorem dX7_share_61 : decode cX7_share 61 = .ok (.iload_n 3, 1) := by decide +kernel
theorem dX7_share_62 : decode cX7_share 62 = .ok (.iload 4, 2) := by decide +kernel
theorem dX7_share_64 : decode cX7_share 64 = .ok (.invokevirtual 57, 3) := by decide +kernel
theorem dX7_share_67 : decode cX7_share 67 = .ok (.iconst 3, 1) := by decide +kernel
theorem dX7_share_68 : decode cX7_share 68 = .ok (.if_icmp .ge 7, 3) := by decide +kernel
theorem dX7_share_71 : decode cX7_share 71 = .ok (.iconst 1, 1) := by decide +kernel
theorem dX7_share_72 : decode cX7_share 72 = .ok (.goto 4, 3) := by decide +kernel
theorem dX7_share_75 : decode cX7_share 75 = .ok (.iconst 0, 1) := by decide +kernel
theorem dX7_share_76 : decode cX7_share 76 = .ok (.iadd, 1) := by decide +kernel
theorem dX7_share_77 : decode cX7_share 77 = .ok (.istore_n 2, 1) := by decide +kernel
theorem dX7_share_78 : decode cX7_share 78 = .ok (.iinc 4 1, 3) := by decide +kernel
theorem dX7_share_81 : decode cX7_share 81 = .ok (.goto (-67), 3) := by decide +kernel
theorem dX7_share_84 : decode cX7_share 84 = .ok (.iinc 3 1, 3) := by decide +kernel
theorem dX7_share_87 : decode cX7_share 87 = .ok (.goto (-81), 3) := by decide +kernel
theorem dX7_share_90 : decode cX7_share 90 = .ok (.iload_n 1, 1) := by decide +kernel
theorem dX7_share_91 : decode cX7_share 91 = .ok (.ifCond .ne 7, 3) := by decide +kernel
theorem dX7_share_94 : decode cX7_share 94 = .ok (.dconst 1, 1) := by decide +kernel
theorem dX7_share_95 : decode cX7_share 95 = .ok (.goto 8, 3) := by decide +kernel
theorem dX7_share_98 : decode cX7_share 98 = .ok (.iload_n 2, 1) := by decide +kernel
theorem dX7_share_99 : decode cX7_share 99 = .ok (.i2d, 1) := by decide +kernel
theorem dX7_share_100 : decode cX7_share 100 = .ok (.iload_n 1, 1) := by decide +kernel
theorem dX7_share_101 : decode cX7_share 101 = .ok (.i2d, 1) := by decide +kernel
theorem dX7_share_102 : decode cX7_share 102 = .ok (.ddiv, 1) := by decide +kernel
theorem dX7_share_103 : decode cX7_share 103 = .ok (.dreturn, 1) := by decide +kernel
set_option maxRecDepth 20000 in
theorem ggX7_decidedShare_X7_share : GoodIn wsX7_decidedShare wsX7_share := goodIn_r _ [6, 7, 8, 9, 5, 10, 11, 12, 13, 14, 15, 16, 17, 18, 19, 20, 21, 22, 23, 24, 25, 26, 27, 28, 29, 30, 31, 32, 33, 34, 35] (by decide +kernel) (by decide +kernel)
set_option maxRecDepth 20000 in
theorem gX7_decidedShare_X7_share : GoodIn wsX7_decidedShare (wsV RX7 199 RX7 yX7_share wsX7_share) := goodIn_app (goodIn_of _ (by decide +kernel)) ggX7_decidedShare_X7_share
theorem dX7_decidedShare_0 : decode cX7_decidedShare 0 = .ok (.aload_n 0, 1) := by decide +kernel
theorem dX7_decidedShare_1 : decode cX7_decidedShare 1 = .ok (.iconst 0, 1) := by decide +kernel
theorem dX7_decidedShare_2 : decode cX7_decidedShare 2 = .ok (.putfield 38, 3) := by decide +kernel
theorem dX7_decidedShare_5 : decode cX7_decidedShare 5 = .ok (.aload_n 0, 1) := by decide +kernel
theorem dX7_decidedShare_6 : decode cX7_decidedShare 6 = .ok (.invokevirtual 199, 3) := by decide +kernel
theorem dX7_decidedShare_9 : decode cX7_decidedShare 9 = .ok (.dreturn, 1) := by decide +kernel
theorem dX7_mix_0 : decode cX7_mix 0 = .ok (.aload_n 0, 1) := by decide +kernel
theorem dX7_mix_1 : decode cX7_mix 1 = .ok (.ldc2_w 203, 3) := by decide +kernel
theorem dX7_mix_4 : decode cX7_mix 4 = .ok (.aload_n 0, 1) := by decide +kernel
theorem dX7_mix_5 : decode cX7_mix 5 = .ok (.getfield 205, 3) := by decide +kernel
theorem dX7_mix_8 : decode cX7_mix 8 = .ok (.lmul, 1) := by decide +kernel
theorem dX7_mix_9 : decode cX7_mix 9 = .ok (.lload_n 1, 1) := by decide +kernel
theorem dX7_mix_10 : decode cX7_mix 10 = .ok (.ladd, 1) := by decide +kernel
theorem dX7_mix_11 : decode cX7_mix 11 = .ok (.putfield 205, 3) := by decide +kernel
theorem dX7_mix_14 : decode cX7_mix 14 = .ok (.return_, 1) := by decide +kernel
set_option maxRecDepth 20000 in
theorem ggX7_mixOutput_X7_rows : GoodIn wsX7_mixOutput wsX7_rows := goodIn_r _ [6, 7, 100, 101, 102, 103, 104, 105, 106, 107, 108, 109, 110, 111, 112, 113, 114, 115] (by decide +kernel) (by decide +kernel)
set_option maxRecDepth 20000 in
theorem gX7_mixOutput_X7_rows : GoodIn wsX7_mixOutput (wsV RX7 45 RX7 yX7_rows wsX7_rows) := goodIn_app (goodIn_of _ (by decide +kernel)) ggX7_mixOutput_X7_rows
set_option maxRecDepth 20000 in
theorem ggX7_mixOutput_X7_atNow : GoodIn wsX7_mixOutput wsX7_atNow := goodIn_r _ [11, 12, 13, 14, 5, 15, 7, 16, 17, 18, 19, 2, 3, 4, 6, 20, 21, 22, 23, 1, 24, 100, 101, 102, 103, 104, 105, 106, 107, 108, 109, 110, 111, 112, 113, 114, 115] (by decide +kernel) (by decide +kernel)
set_option maxRecDepth 20000 in
theorem gX7_mixOutput_X7_atNow : GoodIn wsX7_mixOutput (wsV RX7 162 RX7 yX7_atNow wsX7_atNow) := goodIn_app (goodIn_of _ (by decide +kernel)) ggX7_mixOutput_X7_atNow
set_option maxRecDepth 20000 in
theorem ggX7_mixOutput_X7_mix : GoodIn wsX7_mixOutput wsX7_mix := goodIn_r _ [28, 29, 30, 100, 101, 102, 103, 104, 105, 106, 107, 108, 109, 110, 111, 112, 113, 114, 115] (by decide +kernel) (by decide +kernel)
set_option maxRecDepth 20000 in
theorem gX7_mixOutput_X7_mix : GoodIn wsX7_mixOutput (wsV RX7 209 RX7 yX7_mix wsX7_mix) := goodIn_app (goodIn_of _ (by decide +kernel)) ggX7_mixOutput_X7_mix
set_option maxRecDepth 20000 in
theorem ggX7_mixOutput_X7_outputNow : GoodIn wsX7_mixOutput wsX7_outputNow := goodIn_r _ [34, 35, 7, 36, 37, 38, 5, 39, 2, 3, 4, 6, 12, 13, 14, 15, 40, 41, 42, 43, 16, 17, 18, 19, 44, 45, 46, 47, 48, 49, 50, 51, 52, 53, 54, 55, 56, 57, 58, 59, 60, 61, 62, 63, 64, 65, 66, 67, 68, 69, 1, 24, 70, 71, 72, 100, 101, 102, 103, 104, 105, 106, 107, 108, 109, 110, 111, 112, 113, 114, 115] (by decide +kernel) (by decide +kernel)
set_option maxRecDepth 20000 in
theorem gX7_mixOutput_X7_outputNow : GoodIn wsX7_mixOutput (wsV RX7 169 RX7 yX7_outputNow wsX7_outputNow) := goodIn_app (goodIn_of _ (by decide +kernel)) ggX7_mixOutput_X7_outputNow
set_option maxRecDepth 20000 in
theorem ggX7_mixOutput_X7_productNow : GoodIn wsX7_mixOutput wsX7_productNow := goodIn_r _ [76, 1, 24, 58, 59, 60, 5, 61, 2, 3, 4, 6, 7, 77, 78, 79, 80, 81, 82, 83, 84, 85, 86, 87, 100, 101, 102, 103, 104, 105, 106, 107, 108, 109, 110, 111, 112, 113, 114, 115] (by decide +kernel) (by decide +kernel)
set_option maxRecDepth 20000 in
theorem gX7_mixOutput_X7_productNow : GoodIn wsX7_mixOutput (wsV RX7 172 RX7 yX7_productNow wsX7_productNow) := goodIn_app (goodIn_of _ (by decide +kernel)) ggX7_mixOutput_X7_productNow
set_option maxRecDepth 20000 in
theorem ggX7_mixOutput_X7_needsNow : GoodIn wsX7_mixOutput wsX7_needsNow := goodIn_r _ [91, 7, 2, 3, 4, 5, 6, 12, 13, 14, 15, 100, 101, 102, 103, 104, 105, 106, 107, 108, 109, 110, 111, 112, 113, 114, 115] (by decide +kernel) (by decide +kernel)
set_option maxRecDepth 20000 in
theorem gX7_mixOutput_X7_needsNow : GoodIn wsX7_mixOutput (wsV RX7 187 RX7 yX7_needsNow wsX7_needsNow) := goodIn_app (goodIn_of _ (by decide +kernel)) ggX7_mixOutput_X7_needsNow
set_option maxRecDepth 20000 in
theorem ggX7_mixOutput_X7_alikeNow : GoodIn wsX7_mixOutput wsX7_alikeNow := goodIn_r _ [95, 2, 3, 4, 5, 6, 7, 20, 21, 22, 23, 1, 24, 100, 101, 102, 103, 104, 105, 106, 107, 108, 109, 110, 111, 112, 113, 114, 115] (by decide +kernel) (by decide +kernel)
set_option maxRecDepth 20000 in
theorem gX7_mixOutput_X7_alikeNow : GoodIn wsX7_mixOutput (wsV RX7 193 RX7 yX7_alikeNow wsX7_alikeNow) := goodIn_app (goodIn_of _ (by decide +kernel)) ggX7_mixOutput_X7_alikeNow
set_option maxRecDepth 20000 in
theorem ggX7_mixOutput_X7_nearestNow : GoodIn wsX7_mixOutput wsX7_nearestNow := goodIn_r _ [99, 2, 3, 4, 5, 6, 7, 16, 17, 18, 19, 12, 13, 14, 15, 70, 71, 72, 100, 101, 102, 103, 104, 105, 106, 107, 108, 109, 110, 111, 112, 113, 114, 115] (by decide +kernel) (by decide +kernel)
set_option maxRecDepth 20000 in
theorem gX7_mixOutput_X7_nearestNow : GoodIn wsX7_mixOutput (wsV RX7 196 RX7 yX7_nearestNow wsX7_nearestNow) := goodIn_app (goodIn_of _ (by decide +kernel)) ggX7_mixOutput_X7_nearestNow
theorem dX7_mixOutput_0 : decode cX7_mixOutput 0 = .ok (.iconst 0, 1) := by decide +kernel
theorem dX7_mixOutput_1 : decode cX7_mixOutput 1 = .ok (.istore_n 2, 1) := by decide +kernel
theorem dX7_mixOutput_2 : decode cX7_mixOutput 2 = .ok (.iload_n 2, 1) := by decide +kernel
theorem dX7_mixOutput_3 : decode cX7_mixOutput 3 = .ok (.iconst 3, 1) := by decide +kernel
theorem dX7_mixOutput_4 : decode cX7_mixOutput 4 = .ok (.aload_n 0, 1) := by decide +kernel
theorem dX7_mixOutput_5 : decode cX7_mixOutput 5 = .ok (.invokevirtual 45, 3) := by decide +kernel
theorem dX7_mixOutput_8 : decode cX7_mixOutput 8 = .ok (.imul, 1) := by decide +kernel
theorem dX7_mixOutput_9 : decode cX7_mixOutput 9 = .ok (.if_icmp .ge 25, 3) := by decide +kernel
theorem dX7_mixOutput_12 : decode cX7_mixOutput 12 = .ok (.aload_n 0, 1) := by decide +kernel
theorem dX7_mixOutput_13 : decode cX7_mixOutput 13 = .ok (.aload_n 0, 1) := by decide +kernel
theorem dX7_mixOutput_14 : decode cX7_mixOutput 14 = .ok (.iload_n 1, 1) := by decide +kernel
theorem dX7_mixOutput_15 : decode cX7_mixOutput 15 = .ok (.iload_n 2, 1) := by decide +kernel
theorem dX7_mixOutput_16 : decode cX7_mixOutput 16 = .ok (.iconst 3, 1) := by decide +kernel
theorem dX7_mixOutput_17 : decode cX7_mixOutput 17 = .ok (.idiv, 1) := by decide +kernel
theorem dX7_mixOutput_18 : decode cX7_mixOutput 18 = .ok (.iload_n 2, 1) := by decide +kernel
theorem dX7_mixOutput_19 : decode cX7_mixOutput 19 = .ok (.iconst 3, 1) := by decide +kernel
theorem dX7_mixOutput_20 : decode cX7_mixOutput 20 = .ok (.irem, 1) := by decide +kernel
theorem dX7_mixOutput_21 : decode cX7_mixOutput 21 = .ok (.invokevirtual 162, 3) := by decide +kernel
theorem dX7_mixOutput_24 : decode cX7_mixOutput 24 = .ok (.i2l, 1) := by decide +kernel
theorem dX7_mixOutput_25 : decode cX7_mixOutput 25 = .ok (.invokevirtual 209, 3) := by decide +kernel
theorem dX7_mixOutput_28 : decode cX7_mixOutput 28 = .ok (.iinc 2 1, 3) := by decide +kernel
theorem dX7_mixOutput_31 : decode cX7_mixOutput 31 = .ok (.goto (-29), 3) := by decide +kernel
theorem dX7_mixOutput_34 : decode cX7_mixOutput 34 = .ok (.iconst 0, 1) := by decide +kernel
theorem dX7_mixOutput_35 : decode cX7_mixOutput 35 = .ok (.istore_n 2, 1) := by decide +kernel
theorem dX7_mixOutput_36 : decode cX7_mixOutput 36 = .ok (.iload_n 2, 1) := by decide +kernel
theorem dX7_mixOutput_37 : decode cX7_mixOutput 37 = .ok (.bipush 11, 2) := by decide +kernel
theorem dX7_mixOutput_39 : decode cX7_mixOutput 39 = .ok (.if_icmp .ge 20, 3) := by decide +kernel
theorem dX7_mixOutput_42 : decode cX7_mixOutput 42 = .ok (.aload_n 0, 1) := by decide +kernel
theorem dX7_mixOutput_43 : decode cX7_mixOutput 43 = .ok (.aload_n 0, 1) := by decide +kernel
theorem dX7_mixOutput_44 : decode cX7_mixOutput 44 = .ok (.iload_n 1, 1) := by decide +kernel
theorem dX7_mixOutput_45 : decode cX7_mixOutput 45 = .ok (.iload_n 2, 1) := by decide +kernel
theorem dX7_mixOutput_46 : decode cX7_mixOutput 46 = .ok (.invokevirtual 169, 3) := by decide +kernel
theorem dX7_mixOutput_49 : decode cX7_mixOutput 49 = .ok (.i2l, 1) := by decide +kernel
theorem dX7_mixOutput_50 : decode cX7_mixOutput 50 = .ok (.invokevirtual 209, 3) := by decide +kernel
theorem dX7_mixOutput_53 : decode cX7_mixOutput 53 = .ok (.iinc 2 1, 3) := by decide +kernel
theorem dX7_mixOutput_56 : decode cX7_mixOutput 56 = .ok (.goto (-20), 3) := by decide +kernel
theorem dX7_mixOutput_59 : decode cX7_mixOutput 59 = .ok (.iconst 0, 1) := by decide +kernel
theorem dX7_mixOutput_60 : decode cX7_mixOutput 60 = .ok (.istore_n 2, 1) := by decide +kernel
theorem dX7_mixOutput_61 : decode cX7_mixOutput 61 = .ok (.iload_n 2, 1) := by decide +kernel
theorem dX7_mixOutput_62 : decode cX7_mixOutput 62 = .ok (.iconst 4, 1) := by decide +kernel
theorem dX7_mixOutput_63 : decode cX7_mixOutput 63 = .ok (.aload_n 0, 1) := by decide +kernel
theorem dX7_mixOutput_64 : decode cX7_mixOutput 64 = .ok (.getfield 29, 3) := by decide +kernel
theorem dX7_mixOutput_67 : decode cX7_mixOutput 67 = .ok (.iload_n 1, 1) := by decide +kernel
theorem dX7_mixOutput_68 : decode cX7_mixOutput 68 = .ok (.iaload, 1) := by decide +kernel
theorem dX7_mixOutput_69 : decode cX7_mixOutput 69 = .ok (.imul, 1) := by decide +kernel
theorem dX7_mixOutput_70 : decode cX7_mixOutput 70 = .ok (.if_icmp .ge 25, 3) := by decide +kernel
theorem dX7_mixOutput_73 : decode cX7_mixOutput 73 = .ok (.aload_n 0, 1) := by decide +kernel
theorem dX7_mixOutput_74 : decode cX7_mixOutput 74 = .ok (.aload_n 0, 1) := by decide +kernel
theorem dX7_mixOutput_75 : decode cX7_mixOutput 75 = .ok (.iload_n 1, 1) := by decide +kernel
theorem dX7_mixOutput_76 : decode cX7_mixOutput 76 = .ok (.iload_n 2, 1) := by decide +kernel
theorem dX7_mixOutput_77 : decode cX7_mixOutput 77 = .ok (.iconst 4, 1) := by decide +kernel
theorem dX7_mixOutput_78 : decode cX7_mixOutput 78 = .ok (.idiv, 1) := by decide +kernel
theorem dX7_mixOutput_79 : decode cX7_mixOutput 79 = .ok (.iload_n 2, 1) := by decide +kernel
theorem dX7_mixOutput_80 : decode cX7_mixOutput 80 = .ok (.iconst 4, 1) := by decide +kernel
theorem dX7_mixOutput_81 : decode cX7_mixOutput 81 = .ok (.irem, 1) := by decide +kernel
theorem dX7_mixOutput_82 : decode cX7_mixOutput 82 = .ok (.invokevirtual 172, 3) := by decide +kernel
theorem dX7_mixOutput_85 : decode cX7_mixOutput 85 = .ok (.i2l, 1) := by decide +kernel
theorem dX7_mixOutput_86 : decode cX7_mixOutput 86 = .ok (.invokevirtual 209, 3) := by decide +kernel
theorem dX7_mixOutput_89 : decode cX7_mixOutput 89 = .ok (.iinc 2 1, 3) := by decide +kernel
theorem dX7_mixOutput_92 : decode cX7_mixOutput 92 = .ok (.goto (-31), 3) := by decide +kernel
theorem dX7_mixOutput_95 : decode cX7_mixOutput 95 = .ok (.aload_n 0, 1) := by decide +kernel
theorem dX7_mixOutput_96 : decode cX7_mixOutput 96 = .ok (.aload_n 0, 1) := by decide +kernel
theorem dX7_mixOutput_97 : decode cX7_mixOutput 97 = .ok (.iload_n 1, 1) := by decide +kernel
theorem dX7_mixOutput_98 : decode cX7_mixOutput 98 = .ok (.invokevirtual 187, 3) := by decide +kernel
theorem dX7_mixOutput_101 : decode cX7_mixOutput 101 = .ok (.i2l, 1) := by decide +kernel
theorem dX7_mixOutput_102 : decode cX7_mixOutput 102 = .ok (.invokevirtual 209, 3) := by decide +kernel
theorem dX7_mixOutput_105 : decode cX7_mixOutput 105 = .ok (.aload_n 0, 1) := by decide +kernel
theorem dX7_mixOutput_106 : decode cX7_mixOutput 106 = .ok (.aload_n 0, 1) := by decide +kernel
theorem dX7_mixOutput_107 : decode cX7_mixOutput 107 = .ok (.iload_n 1, 1) := by decide +kernel
theorem dX7_mixOutput_108 : decode cX7_mixOutput 108 = .ok (.iconst 0, 1) := by decide +kernel
theorem dX7_mixOutput_109 : decode cX7_mixOutput 109 = .ok (.invokevirtual 193, 3) := by decide +kernel
theorem dX7_mixOutput_112 : decode cX7_mixOutput 112 = .ok (.i2l, 1) := by decide +kernel
theorem dX7_mixOutput_113 : decode cX7_mixOutput 113 = .ok (.invokevirtual 209, 3) := by decide +kernel
theorem dX7_mixOutput_116 : decode cX7_mixOutput 116 = .ok (.aload_n 0, 1) := by decide +kernel
theorem dX7_mixOutput_117 : decode cX7_mixOutput 117 = .ok (.aload_n 0, 1) := by decide +kernel
theorem dX7_mixOutput_118 : decode cX7_mixOutput 118 = .ok (.iload_n 1, 1) := by decide +kernel
theorem dX7_mixOutput_119 : decode cX7_mixOutput 119 = .ok (.iconst 0, 1) := by decide +kernel
theorem dX7_mixOutput_120 : decode cX7_mixOutput 120 = .ok (.invokevirtual 196, 3) := by decide +kernel
theorem dX7_mixOutput_123 : decode cX7_mixOutput 123 = .ok (.i2l, 1) := by decide +kernel
theorem dX7_mixOutput_124 : decode cX7_mixOutput 124 = .ok (.invokevirtual 209, 3) := by decide +kernel
theorem dX7_mixOutput_127 : decode cX7_mixOutput 127 = .ok (.return_, 1) := by decide +kernel
set_option maxRecDepth 20000 in
theorem ggX7_digest_X7_layAll : GoodIn wsX7_digest wsX7_layAll := goodIn_r _ [11, 12, 13, 14, 10, 15, 16, 17, 18, 19, 20, 21, 22, 23, 24, 25, 26, 27, 28, 29, 30, 31, 32, 33, 4, 34, 35, 36, 37, 38, 39, 40, 41, 42, 43, 44, 45, 46, 47, 48, 49, 50, 51, 52, 53, 54, 55, 56, 57, 58, 59, 60, 61, 62, 63, 170, 171, 172, 173, 174, 175, 176, 177, 178, 179, 180, 181, 182, 183, 184, 185] (by decide +kernel) (by decide +kernel)
set_option maxRecDepth 20000 in
theorem gX7_digest_X7_layAll : GoodIn wsX7_digest (wsV RX7 138 RX7 yX7_layAll wsX7_layAll) := goodIn_app (goodIn_of _ (by decide +kernel)) ggX7_digest_X7_layAll
set_option maxRecDepth 20000 in
theorem ggX7_digest_X7_counted : GoodIn wsX7_digest wsX7_counted := goodIn_r _ [67, 4, 68, 69, 70, 71, 10, 72, 73, 74, 75, 76, 30, 31, 32, 33, 34, 35, 36, 37, 38, 39, 40, 41, 77, 78, 79, 80, 42, 43, 44, 45, 81, 82, 83, 84, 85, 86, 87, 88, 16, 17, 61, 62, 63, 89, 90, 91, 92, 170, 171, 172, 173, 174, 175, 176, 177, 178, 179, 180, 181, 182, 183, 184, 185] (by decide +kernel) (by decide +kernel)
set_option maxRecDepth 20000 in
theorem gX7_digest_X7_counted : GoodIn wsX7_digest (wsV RX7 181 RX7 yX7_counted wsX7_counted) := goodIn_app (goodIn_of _ (by decide +kernel)) ggX7_digest_X7_counted
set_option maxRecDepth 20000 in
theorem ggX7_digest_X7_mix : GoodIn wsX7_digest wsX7_mix := goodIn_r _ [96, 97, 3, 170, 171, 172, 173, 174, 175, 176, 177, 178, 179, 180, 181, 182, 183, 184, 185] (by decide +kernel) (by decide +kernel)
set_option maxRecDepth 20000 in
theorem gX7_digest_X7_mix : GoodIn wsX7_digest (wsV RX7 209 RX7 yX7_mix wsX7_mix) := goodIn_app (goodIn_of _ (by decide +kernel)) ggX7_digest_X7_mix
set_option maxRecDepth 20000 in
theorem ggX7_digest_X7_mixOutput : GoodIn wsX7_digest wsX7_mixOutput := goodIn_r _ [101, 16, 30, 31, 32, 10, 33, 4, 102, 103, 104, 105, 38, 39, 40, 41, 34, 35, 36, 37, 106, 107, 108, 109, 17, 93, 94, 95, 96, 97, 3, 110, 111, 112, 113, 24, 114, 115, 116, 117, 73, 74, 75, 76, 20, 21, 22, 23, 25, 26, 27, 28, 29, 18, 42, 43, 44, 45, 46, 47, 48, 49, 50, 51, 52, 53, 118, 119, 120, 121, 61, 62, 63, 122, 123, 124, 125, 58, 59, 60, 81, 82, 83, 84, 85, 86, 87, 88, 126, 127, 128, 129, 130, 131, 132, 133, 134, 135, 136, 137, 170, 171, 172, 173, 174, 175, 176, 177, 178, 179, 180, 181, 182, 183, 184, 185] (by decide +kernel) (by decide +kernel)
set_option maxRecDepth 20000 in
theorem gX7_digest_X7_mixOutput : GoodIn wsX7_digest (wsV RX7 215 RX7 yX7_mixOutput wsX7_mixOutput) := goodIn_app (goodIn_of _ (by decide +kernel)) ggX7_digest_X7_mixOutput
set_option maxRecDepth 20000 in
theorem ggX7_digest_X7_forgottenThen : GoodIn wsX7_digest wsX7_forgottenThen := goodIn_r _ [141, 4, 142, 143, 144, 10, 145, 146, 147, 148, 149, 69, 70, 71, 72, 73, 74, 75, 76, 30, 31, 32, 33, 34, 35, 36, 37, 38, 39, 40, 41, 7, 8, 9, 11, 12, 13, 14, 15, 16, 17, 18, 19, 20, 21, 22, 23, 24, 25, 26, 27, 28, 29, 42, 43, 44, 45, 46, 47, 48, 49, 50, 51, 52, 53, 54, 55, 56, 57, 58, 59, 60, 61, 62, 63, 77, 78, 79, 80, 81, 82, 83, 84, 85, 86, 87, 88, 170, 171, 172, 173, 174, 175, 176, 177, 178, 179, 180, 181, 182, 183, 184, 185] (by decide +kernel) (by decide +kernel)
set_option maxRecDepth 20000 in
theorem gX7_digest_X7_forgottenThen : GoodIn wsX7_digest (wsV RX7 184 RX7 yX7_forgottenThen wsX7_forgottenThen) := goodIn_app (goodIn_of _ (by decide +kernel)) ggX7_digest_X7_forgottenThen
set_option maxRecDepth 20000 in
theorem ggX7_digest_X7_harmlessNow : GoodIn wsX7_digest wsX7_harmlessNow := goodIn_r _ [153, 4, 30, 31, 32, 10, 33, 61, 62, 63, 69, 70, 71, 72, 73, 74, 75, 76, 34, 35, 36, 37, 38, 39, 40, 41, 170, 171, 172, 173, 174, 175, 176, 177, 178, 179, 180, 181, 182, 183, 184, 185] (by decide +kernel) (by decide +kernel)
set_option maxRecDepth 20000 in
theorem gX7_digest_X7_harmlessNow : GoodIn wsX7_digest (wsV RX7 190 RX7 yX7_harmlessNow wsX7_harmlessNow) := goodIn_app (goodIn_of _ (by decide +kernel)) ggX7_digest_X7_harmlessNow
set_option maxRecDepth 20000 in
theorem ggX7_digest_X7_share : GoodIn wsX7_digest wsX7_share := goodIn_r _ [157, 30, 31, 32, 10, 33, 4, 38, 39, 40, 41, 34, 35, 36, 37, 170, 171, 172, 173, 174, 175, 176, 177, 178, 179, 180, 181, 182, 183, 184, 185] (by decide +kernel) (by decide +kernel)
set_option maxRecDepth 20000 in
theorem gX7_digest_X7_share : GoodIn wsX7_digest (wsV RX7 199 RX7 yX7_share wsX7_share) := goodIn_app (goodIn_of _ (by decide +kernel)) ggX7_digest_X7_share
set_option maxRecDepth 20000 in
theorem ggX7_digest_Jxe99ae_doubleToLongBits_ccdee : GoodIn wsX7_digest wsJxe99ae_doubleToLongBits_ccdee := goodIn_r _ [161, 162, 163, 164, 165, 166, 167, 168, 160, 169] (by decide +kernel) (by decide +kernel)
set_option maxRecDepth 20000 in
theorem gX7_digest_Jxe99ae_doubleToLongBits_ccdee : GoodIn wsX7_digest (va_wsS RX7 218 yJxe99ae_doubleToLongBits_ccdee wsJxe99ae_doubleToLongBits_ccdee) := goodIn_app (goodIn_of _ (by decide +kernel)) ggX7_digest_Jxe99ae_doubleToLongBits_ccdee
theorem dX7_digest_0 : decode cX7_digest 0 = .ok (.aload_n 0, 1) := by decide +kernel
theorem dX7_digest_1 : decode cX7_digest 1 = .ok (.iconst 0, 1) := by decide +kernel
theorem dX7_digest_2 : decode cX7_digest 2 = .ok (.putfield 38, 3) := by decide +kernel
theorem dX7_digest_5 : decode cX7_digest 5 = .ok (.aload_n 0, 1) := by decide +kernel
theorem dX7_digest_6 : decode cX7_digest 6 = .ok (.invokevirtual 138, 3) := by decide +kernel
theorem dX7_digest_9 : decode cX7_digest 9 = .ok (.aload_n 0, 1) := by decide +kernel
theorem dX7_digest_10 : decode cX7_digest 10 = .ok (.ldc2_w 213, 3) := by decide +kernel
theorem dX7_digest_13 : decode cX7_digest 13 = .ok (.putfield 205, 3) := by decide +kernel
theorem dX7_digest_16 : decode cX7_digest 16 = .ok (.iconst 0, 1) := by decide +kernel
theorem dX7_digest_17 : decode cX7_digest 17 = .ok (.istore_n 1, 1) := by decide +kernel
theorem dX7_digest_18 : decode cX7_digest 18 = .ok (.iload_n 1, 1) := by decide +kernel
theorem dX7_digest_19 : decode cX7_digest 19 = .ok (.bipush 11, 2) := by decide +kernel
theorem dX7_digest_21 : decode cX7_digest 21 = .ok (.if_icmp .ge 19, 3) := by decide +kernel
theorem dX7_digest_24 : decode cX7_digest 24 = .ok (.aload_n 0, 1) := by decide +kernel
theorem dX7_digest_25 : decode cX7_digest 25 = .ok (.aload_n 0, 1) := by decide +kernel
theorem dX7_digest_26 : decode cX7_digest 26 = .ok (.iload_n 1, 1) := by decide +kernel
theorem dX7_digest_27 : decode cX7_digest 27 = .ok (.invokevirtual 181, 3) := by decide +kernel
theorem dX7_digest_30 : decode cX7_digest 30 = .ok (.i2l, 1) := by decide +kernel
theorem dX7_digest_31 : decode cX7_digest 31 = .ok (.invokevirtual 209, 3) := by decide +kernel
theorem dX7_digest_34 : decode cX7_digest 34 = .ok (.iinc 1 1, 3) := by decide +kernel
theorem dX7_digest_37 : decode cX7_digest 37 = .ok (.goto (-19), 3) := by decide +kernel
theorem dX7_digest_40 : decode cX7_digest 40 = .ok (.iconst 0, 1) := by decide +kernel
theorem dX7_digest_41 : decode cX7_digest 41 = .ok (.istore_n 1, 1) := by decide +kernel
theorem dX7_digest_42 : decode cX7_digest 42 = .ok (.iload_n 1, 1) := by decide +kernel
theorem dX7_digest_43 : decode cX7_digest 43 = .ok (.iconst 4, 1) := by decide +kernel
theorem dX7_digest_44 : decode cX7_digest 44 = .ok (.if_icmp .ge 14, 3) := by decide +kernel
theorem dX7_digest_47 : decode cX7_digest 47 = .ok (.aload_n 0, 1) := by decide +kernel
theorem dX7_digest_48 : decode cX7_digest 48 = .ok (.iload_n 1, 1) := by decide +kernel
theorem dX7_digest_49 : decode cX7_digest 49 = .ok (.invokevirtual 215, 3) := by decide +kernel
theorem dX7_digest_52 : decode cX7_digest 52 = .ok (.iinc 1 1, 3) := by decide +kernel
theorem dX7_digest_55 : decode cX7_digest 55 = .ok (.goto (-13), 3) := by decide +kernel
theorem dX7_digest_58 : decode cX7_digest 58 = .ok (.iconst 0, 1) := by decide +kernel
theorem dX7_digest_59 : decode cX7_digest 59 = .ok (.istore_n 1, 1) := by decide +kernel
theorem dX7_digest_60 : decode cX7_digest 60 = .ok (.iload_n 1, 1) := by decide +kernel
theorem dX7_digest_61 : decode cX7_digest 61 = .ok (.iconst 2, 1) := by decide +kernel
theorem dX7_digest_62 : decode cX7_digest 62 = .ok (.aload_n 0, 1) := by decide +kernel
theorem dX7_digest_63 : decode cX7_digest 63 = .ok (.getfield 7, 3) := by decide +kernel
theorem dX7_digest_66 : decode cX7_digest 66 = .ok (.iconst 0, 1) := by decide +kernel
theorem dX7_digest_67 : decode cX7_digest 67 = .ok (.iaload, 1) := by decide +kernel
theorem dX7_digest_68 : decode cX7_digest 68 = .ok (.imul, 1) := by decide +kernel
theorem dX7_digest_69 : decode cX7_digest 69 = .ok (.if_icmp .ge 24, 3) := by decide +kernel
theorem dX7_digest_72 : decode cX7_digest 72 = .ok (.aload_n 0, 1) := by decide +kernel
theorem dX7_digest_73 : decode cX7_digest 73 = .ok (.aload_n 0, 1) := by decide +kernel
theorem dX7_digest_74 : decode cX7_digest 74 = .ok (.iload_n 1, 1) := by decide +kernel
theorem dX7_digest_75 : decode cX7_digest 75 = .ok (.iconst 2, 1) := by decide +kernel
theorem dX7_digest_76 : decode cX7_digest 76 = .ok (.idiv, 1) := by decide +kernel
theorem dX7_digest_77 : decode cX7_digest 77 = .ok (.iload_n 1, 1) := by decide +kernel
theorem dX7_digest_78 : decode cX7_digest 78 = .ok (.iconst 2, 1) := by decide +kernel
theorem dX7_digest_79 : decode cX7_digest 79 = .ok (.irem, 1) := by decide +kernel
theorem dX7_digest_80 : decode cX7_digest 80 = .ok (.invokevirtual 184, 3) := by decide +kernel
theorem dX7_digest_83 : decode cX7_digest 83 = .ok (.i2l, 1) := by decide +kernel
theorem dX7_digest_84 : decode cX7_digest 84 = .ok (.invokevirtual 209, 3) := by decide +kernel
theorem dX7_digest_87 : decode cX7_digest 87 = .ok (.iinc 1 1, 3) := by decide +kernel
theorem dX7_digest_90 : decode cX7_digest 90 = .ok (.goto (-30), 3) := by decide +kernel
theorem dX7_digest_93 : decode cX7_digest 93 = .ok (.aload_n 0, 1) := by decide +kernel
theorem dX7_digest_94 : decode cX7_digest 94 = .ok (.aload_n 0, 1) := by decide +kernel
theorem dX7_digest_95 : decode cX7_digest 95 = .ok (.invokevirtual 190, 3) := by decide +kernel
theorem dX7_digest_98 : decode cX7_digest 98 = .ok (.i2l, 1) := by decide +kernel
theorem dX7_digest_99 : decode cX7_digest 99 = .ok (.invokevirtual 209, 3) := by decide +kernel
theorem dX7_digest_102 : decode cX7_digest 102 = .ok (.aload_n 0, 1) := by decide +kernel
theorem dX7_digest_103 : decode cX7_digest 103 = .ok (.aload_n 0, 1) := by decide +kernel
theorem dX7_digest_104 : decode cX7_digest 104 = .ok (.invokevirtual 199, 3) := by decide +kernel
theorem dX7_digest_107 : decode cX7_digest 107 = .ok (.invokestatic 218, 3) := by decide +kernel
theorem dX7_digest_110 : decode cX7_digest 110 = .ok (.invokevirtual 209, 3) := by decide +kernel
theorem dX7_digest_113 : decode cX7_digest 113 = .ok (.aload_n 0, 1) := by decide +kernel
theorem dX7_digest_114 : decode cX7_digest 114 = .ok (.aload_n 0, 1) := by decide +kernel
theorem dX7_digest_115 : decode cX7_digest 115 = .ok (.getfield 144, 3) := by decide +kernel
theorem dX7_digest_118 : decode cX7_digest 118 = .ok (.i2l, 1) := by decide +kernel
theorem dX7_digest_119 : decode cX7_digest 119 = .ok (.invokevirtual 209, 3) := by decide +kernel
theorem dX7_digest_122 : decode cX7_digest 122 = .ok (.iconst 0, 1) := by decide +kernel
theorem dX7_digest_123 : decode cX7_digest 123 = .ok (.istore_n 1, 1) := by decide +kernel
theorem dX7_digest_124 : decode cX7_digest 124 = .ok (.iload_n 1, 1) := by decide +kernel
theorem dX7_digest_125 : decode cX7_digest 125 = .ok (.aload_n 0, 1) := by decide +kernel
theorem dX7_digest_126 : decode cX7_digest 126 = .ok (.getfield 144, 3) := by decide +kernel
theorem dX7_digest_129 : decode cX7_digest 129 = .ok (.if_icmp .ge 20, 3) := by decide +kernel
theorem dX7_digest_132 : decode cX7_digest 132 = .ok (.aload_n 0, 1) := by decide +kernel
theorem dX7_digest_133 : decode cX7_digest 133 = .ok (.aload_n 0, 1) := by decide +kernel
theorem dX7_digest_134 : decode cX7_digest 134 = .ok (.getfield 16, 3) := by decide +kernel
theorem dX7_digest_137 : decode cX7_digest 137 = .ok (.iload_n 1, 1) := by decide +kernel
theorem dX7_digest_138 : decode cX7_digest 138 = .ok (.iaload, 1) := by decide +kernel
theorem dX7_digest_139 : decode cX7_digest 139 = .ok (.i2l, 1) := by decide +kernel
theorem dX7_digest_140 : decode cX7_digest 140 = .ok (.invokevirtual 209, 3) := by decide +kernel
theorem dX7_digest_143 : decode cX7_digest 143 = .ok (.iinc 1 1, 3) := by decide +kernel
theorem dX7_digest_146 : decode cX7_digest 146 = .ok (.goto (-22), 3) := by decide +kernel
theorem dX7_digest_149 : decode cX7_digest 149 = .ok (.aload_n 0, 1) := by decide +kernel
theorem dX7_digest_150 : decode cX7_digest 150 = .ok (.getfield 205, 3) := by decide +kernel
theorem dX7_digest_153 : decode cX7_digest 153 = .ok (.lreturn, 1) := by decide +kernel
