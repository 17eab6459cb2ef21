theorem dL_prime_61 : decode cL_prime 61 = .ok (.iinc 4 1, 3) := by decide +kernel
theorem dL_prime_64 : decode cL_prime 64 = .ok (.goto (-48), 3) := by decide +kernel
theorem dL_prime_67 : decode cL_prime 67 = .ok (.iconst 1, 1) := by decide +kernel
theorem dL_prime_68 : decode cL_prime 68 = .ok (.ireturn, 1) := by decide +kernel
theorem dL_primes_0 : decode cL_primes 0 = .ok (.aload_n 0, 1) := by decide +kernel
theorem dL_primes_1 : decode cL_primes 1 = .ok (.aload_n 1, 1) := by decide +kernel
theorem dL_primes_2 : decode cL_primes 2 = .ok (.iload_n 2, 1) := by decide +kernel
theorem dL_primes_3 : decode cL_primes 3 = .ok (.iconst 0, 1) := by decide +kernel
theorem dL_primes_4 : decode cL_primes 4 = .ok (.invokestatic 18, 3) := by decide +kernel
theorem dL_primes_7 : decode cL_primes 7 = .ok (.istore_n 3, 1) := by decide +kernel
theorem dL_primes_8 : decode cL_primes 8 = .ok (.iconst 0, 1) := by decide +kernel
theorem dL_primes_9 : decode cL_primes 9 = .ok (.istore 4, 2) := by decide +kernel
theorem dL_primes_11 : decode cL_primes 11 = .ok (.iconst 0, 1) := by decide +kernel
theorem dL_primes_12 : decode cL_primes 12 = .ok (.istore 5, 2) := by decide +kernel
theorem dL_primes_14 : decode cL_primes 14 = .ok (.iload 5, 2) := by decide +kernel
theorem dL_primes_16 : decode cL_primes 16 = .ok (.bipush 16, 2) := by decide +kernel
theorem dL_primes_18 : decode cL_primes 18 = .ok (.if_icmp .ge 61, 3) := by decide +kernel
theorem dL_primes_21 : decode cL_primes 21 = .ok (.iconst 0, 1) := by decide +kernel
theorem dL_primes_22 : decode cL_primes 22 = .ok (.istore 6, 2) := by decide +kernel
theorem dL_primes_24 : decode cL_primes 24 = .ok (.iload 6, 2) := by decide +kernel
theorem dL_primes_26 : decode cL_primes 26 = .ok (.bipush 16, 2) := by decide +kernel
theorem dL_primes_28 : decode cL_primes 28 = .ok (.if_icmp .ge 45, 3) := by decide +kernel
theorem dL_primes_31 : decode cL_primes 31 = .ok (.iload 5, 2) := by decide +kernel
theorem dL_primes_33 : decode cL_primes 33 = .ok (.aload_n 0, 1) := by decide +kernel
theorem dL_primes_34 : decode cL_primes 34 = .ok (.iconst 1, 1) := by decide +kernel
theorem dL_primes_35 : decode cL_primes 35 = .ok (.iaload, 1) := by decide +kernel
theorem dL_primes_36 : decode cL_primes 36 = .ok (.iconst (-1), 1) := by decide +kernel
theorem dL_primes_37 : decode cL_primes 37 = .ok (.ixor, 1) := by decide +kernel
theorem dL_primes_38 : decode cL_primes 38 = .ok (.iand, 1) := by decide +kernel
theorem dL_primes_39 : decode cL_primes 39 = .ok (.ifCond .ne 28, 3) := by decide +kernel
theorem dL_primes_42 : decode cL_primes 42 = .ok (.iload 6, 2) := by decide +kernel
theorem dL_primes_44 : decode cL_primes 44 = .ok (.iload 5, 2) := by decide +kernel
theorem dL_primes_46 : decode cL_primes 46 = .ok (.iconst (-1), 1) := by decide +kernel
theorem dL_primes_47 : decode cL_primes 47 = .ok (.ixor, 1) := by decide +kernel
theorem dL_primes_48 : decode cL_primes 48 = .ok (.iand, 1) := by decide +kernel
theorem dL_primes_49 : decode cL_primes 49 = .ok (.ifCond .ne 18, 3) := by decide +kernel
theorem dL_primes_52 : decode cL_primes 52 = .ok (.aload_n 0, 1) := by decide +kernel
theorem dL_primes_53 : decode cL_primes 53 = .ok (.iload_n 3, 1) := by decide +kernel
theorem dL_primes_54 : decode cL_primes 54 = .ok (.iload 5, 2) := by decide +kernel
theorem dL_primes_56 : decode cL_primes 56 = .ok (.iload 6, 2) := by decide +kernel
theorem dL_primes_58 : decode cL_primes 58 = .ok (.invokestatic 22, 3) := by decide +kernel
theorem dL_primes_61 : decode cL_primes 61 = .ok (.ifCond .eq 6, 3) := by decide +kernel
theorem dL_primes_64 : decode cL_primes 64 = .ok (.iinc 4 1, 3) := by decide +kernel
theorem dL_primes_67 : decode cL_primes 67 = .ok (.iinc 6 1, 3) := by decide +kernel
theorem dL_primes_70 : decode cL_primes 70 = .ok (.goto (-46), 3) := by decide +kernel
theorem dL_primes_73 : decode cL_primes 73 = .ok (.iinc 5 1, 3) := by decide +kernel
theorem dL_primes_76 : decode cL_primes 76 = .ok (.goto (-62), 3) := by decide +kernel
theorem dL_primes_79 : decode cL_primes 79 = .ok (.iload 4, 2) := by decide +kernel
theorem dL_primes_81 : decode cL_primes 81 = .ok (.ireturn, 1) := by decide +kernel
theorem dL_cover_0 : decode cL_cover 0 = .ok (.aload_n 0, 1) := by decide +kernel
theorem dL_cover_1 : decode cL_cover 1 = .ok (.aload_n 1, 1) := by decide +kernel
theorem dL_cover_2 : decode cL_cover 2 = .ok (.iload 4, 2) := by decide +kernel
theorem dL_cover_4 : decode cL_cover 4 = .ok (.iconst 0, 1) := by decide +kernel
theorem dL_cover_5 : decode cL_cover 5 = .ok (.invokestatic 18, 3) := by decide +kernel
theorem dL_cover_8 : decode cL_cover 8 = .ok (.istore 5, 2) := by decide +kernel
theorem dL_cover_10 : decode cL_cover 10 = .ok (.aload_n 0, 1) := by decide +kernel
theorem dL_cover_11 : decode cL_cover 11 = .ok (.aload_n 1, 1) := by decide +kernel
theorem dL_cover_12 : decode cL_cover 12 = .ok (.iload 4, 2) := by decide +kernel
theorem dL_cover_14 : decode cL_cover 14 = .ok (.iconst 1, 1) := by decide +kernel
theorem dL_cover_15 : decode cL_cover 15 = .ok (.invokestatic 18, 3) := by decide +kernel
theorem dL_cover_18 : decode cL_cover 18 = .ok (.istore 6, 2) := by decide +kernel
theorem dL_cover_20 : decode cL_cover 20 = .ok (.aload_n 3, 1) := by decide +kernel
theorem dL_cover_21 : decode cL_cover 21 = .ok (.iload 4, 2) := by decide +kernel
theorem dL_cover_23 : decode cL_cover 23 = .ok (.iconst 0, 1) := by decide +kernel
theorem dL_cover_24 : decode cL_cover 24 = .ok (.iastore, 1) := by decide +kernel
theorem dL_cover_25 : decode cL_cover 25 = .ok (.iload 6, 2) := by decide +kernel
theorem dL_cover_27 : decode cL_cover 27 = .ok (.ifCond .eq 184, 3) := by decide +kernel
theorem dL_cover_30 : decode cL_cover 30 = .ok (.iconst (-1), 1) := by decide +kernel
theorem dL_cover_31 : decode cL_cover 31 = .ok (.istore 7, 2) := by decide +kernel
theorem dL_cover_33 : decode cL_cover 33 = .ok (.iconst 0, 1) := by decide +kernel
theorem dL_cover_34 : decode cL_cover 34 = .ok (.istore 8, 2) := by decide +kernel
theorem dL_cover_36 : decode cL_cover 36 = .ok (.bipush 15, 2) := by decide +kernel
theorem dL_cover_38 : decode cL_cover 38 = .ok (.istore 9, 2) := by decide +kernel
theorem dL_cover_40 : decode cL_cover 40 = .ok (.iload 9, 2) := by decide +kernel
theorem dL_cover_42 : decode cL_cover 42 = .ok (.ifCond .lt 123, 3) := by decide +kernel
theorem dL_cover_45 : decode cL_cover 45 = .ok (.bipush 15, 2) := by decide +kernel
theorem dL_cover_47 : decode cL_cover 47 = .ok (.istore 10, 2) := by decide +kernel
theorem dL_cover_49 : decode cL_cover 49 = .ok (.iload 10, 2) := by decide +kernel
theorem dL_cover_51 : decode cL_cover 51 = .ok (.ifCond .lt 108, 3) := by decide +kernel
theorem dL_cover_54 : decode cL_cover 54 = .ok (.iload 9, 2) := by decide +kernel
theorem dL_cover_56 : decode cL_cover 56 = .ok (.aload_n 0, 1) := by decide +kernel
theorem dL_cover_57 : decode cL_cover 57 = .ok (.iconst 1, 1) := by decide +kernel
theorem dL_cover_58 : decode cL_cover 58 = .ok (.iaload, 1) := by decide +kernel
theorem dL_cover_59 : decode cL_cover 59 = .ok (.iconst (-1), 1) := by decide +kernel
theorem dL_cover_60 : decode cL_cover 60 = .ok (.ixor, 1) := by decide +kernel
theorem dL_cover_61 : decode cL_cover 61 = .ok (.iand, 1) := by decide +kernel
theorem dL_cover_62 : decode cL_cover 62 = .ok (.ifCond .ne 91, 3) := by decide +kernel
theorem dL_cover_65 : decode cL_cover 65 = .ok (.iload 10, 2) := by decide +kernel
theorem dL_cover_67 : decode cL_cover 67 = .ok (.iload 9, 2) := by decide +kernel
theorem dL_cover_69 : decode cL_cover 69 = .ok (.iconst (-1), 1) := by decide +kernel
theorem dL_cover_70 : decode cL_cover 70 = .ok (.ixor, 1) := by decide +kernel
theorem dL_cover_71 : decode cL_cover 71 = .ok (.iand, 1) := by decide +kernel
theorem dL_cover_72 : decode cL_cover 72 = .ok (.ifCond .ne 81, 3) := by decide +kernel
theorem dL_cover_75 : decode cL_cover 75 = .ok (.aload_n 0, 1) := by decide +kernel
theorem dL_cover_76 : decode cL_cover 76 = .ok (.iload 5, 2) := by decide +kernel
theorem dL_cover_78 : decode cL_cover 78 = .ok (.iload 9, 2) := by decide +kernel
theorem dL_cover_80 : decode cL_cover 80 = .ok (.iload 10, 2) := by decide +kernel
theorem dL_cover_82 : decode cL_cover 82 = .ok (.invokestatic 22, 3) := by decide +kernel
theorem dL_cover_85 : decode cL_cover 85 = .ok (.ifCond .eq 68, 3) := by decide +kernel
theorem dL_cover_88 : decode cL_cover 88 = .ok (.aload_n 0, 1) := by decide +kernel
theorem dL_cover_89 : decode cL_cover 89 = .ok (.iload 9, 2) := by decide +kernel
theorem dL_cover_91 : decode cL_cover 91 = .ok (.iload 10, 2) := by decide +kernel
theorem dL_cover_93 : decode cL_cover 93 = .ok (.invokestatic 14, 3) := by decide +kernel
theorem dL_cover_96 : decode cL_cover 96 = .ok (.iload 6, 2) := by decide +kernel
theorem dL_cover_98 : decode cL_cover 98 = .ok (.iand, 1) := by decide +kernel
theorem dL_cover_99 : decode cL_cover 99 = .ok (.invokestatic 26, 3) := by decide +kernel
theorem dL_cover_102 : decode cL_cover 102 = .ok (.istore 11, 2) := by decide +kernel
theorem dL_cover_104 : decode cL_cover 104 = .ok (.iload 11, 2) := by decide +kernel
theorem dL_cover_106 : decode cL_cover 106 = .ok (.iload 8, 2) := by decide +kernel
theorem dL_cover_108 : decode cL_cover 108 = .ok (.if_icmp .gt 31, 3) := by decide +kernel
theorem dL_cover_111 : decode cL_cover 111 = .ok (.iload 11, 2) := by decide +kernel
theorem dL_cover_113 : decode cL_cover 113 = .ok (.iload 8, 2) := by decide +kernel
theorem dL_cover_115 : decode cL_cover 115 = .ok (.if_icmp .ne 38, 3) := by decide +kernel
theorem dL_cover_118 : decode cL_cover 118 = .ok (.iload 11, 2) := by decide +kernel
theorem dL_cover_120 : decode cL_cover 120 = .ok (.ifCond .le 33, 3) := by decide +kernel
theorem dL_cover_123 : decode cL_cover 123 = .ok (.iload 9, 2) := by decide +kernel
theorem dL_cover_125 : decode cL_cover 125 = .ok (.invokestatic 26, 3) := by decide +kernel
theorem dL_cover_128 : decode cL_cover 128 = .ok (.iload 7, 2) := by decide +kernel
theorem dL_cover_130 : decode cL_cover 130 = .ok (.bipush 64, 2) := by decide +kernel
theorem dL_cover_132 : decode cL_cover 132 = .ok (.idiv, 1) := by decide +kernel
theorem dL_cover_133 : decode cL_cover 133 = .ok (.invokestatic 26, 3) := by decide +kernel
theorem dL_cover_136 : decode cL_cover 136 = .ok (.if_icmp .gt 17, 3) := by decide +kernel
theorem dL_cover_139 : decode cL_cover 139 = .ok (.bipush 64, 2) := by decide +kernel
theorem dL_cover_141 : decode cL_cover 141 = .ok (.iload 9, 2) := by decide +kernel
theorem dL_cover_143 : decode cL_cover 143 = .ok (.imul, 1) := by decide +kernel
theorem dL_cover_144 : decode cL_cover 144 = .ok (.iload 10, 2) := by decide +kernel
theorem dL_cover_146 : decode cL_cover 146 = .ok (.iadd, 1) := by decide +kernel
theorem dL_cover_147 : decode cL_cover 147 = .ok (.istore 7, 2) := by decide +kernel
theorem dL_cover_149 : decode cL_cover 149 = .ok (.iload 11, 2) := by decide +kernel
theorem dL_cover_151 : decode cL_cover 151 = .ok (.istore 8, 2) := by decide +kernel
theorem dL_cover_153 : decode cL_cover 153 = .ok (.iinc 10 (-1), 3) := by decide +kernel
theorem dL_cover_156 : decode cL_cover 156 = .ok (.goto (-107), 3) := by decide +kernel
theorem dL_cover_159 : decode cL_cover 159 = .ok (.iinc 9 (-1), 3) := by decide +kernel
theorem dL_cover_162 : decode cL_cover 162 = .ok (.goto (-122), 3) := by decide +kernel
theorem dL_cover_165 : decode cL_cover 165 = .ok (.aload_n 2, 1) := by decide +kernel
theorem dL_cover_166 : decode cL_cover 166 = .ok (.bipush 16, 2) := by decide +kernel
theorem dL_cover_168 : decode cL_cover 168 = .ok (.iload 4, 2) := by decide +kernel
theorem dL_cover_170 : decode cL_cover 170 = .ok (.imul, 1) := by decide +kernel
theorem dL_cover_171 : decode cL_cover 171 = .ok (.aload_n 3, 1) := by decide +kernel
theorem dL_cover_172 : decode cL_cover 172 = .ok (.iload 4, 2) := by decide +kernel
theorem dL_cover_174 : decode cL_cover 174 = .ok (.iaload, 1) := by decide +kernel
theorem dL_cover_175 : decode cL_cover 175 = .ok (.iadd, 1) := by decide +kernel
theorem dL_cover_176 : decode cL_cover 176 = .ok (.iload 7, 2) := by decide +kernel
theorem dL_cover_178 : decode cL_cover 178 = .ok (.iastore, 1) := by decide +kernel
theorem dL_cover_179 : decode cL_cover 179 = .ok (.aload_n 3, 1) := by decide +kernel
theorem dL_cover_180 : decode cL_cover 180 = .ok (.iload 4, 2) := by decide +kernel
theorem dL_cover_182 : decode cL_cover 182 = .ok (.dup2, 1) := by decide +kernel
theorem dL_cover_183 : decode cL_cover 183 = .ok (.iaload, 1) := by decide +kernel
theorem dL_cover_184 : decode cL_cover 184 = .ok (.iconst 1, 1) := by decide +kernel
theorem dL_cover_185 : decode cL_cover 185 = .ok (.iadd, 1) := by decide +kernel
theorem dL_cover_186 : decode cL_cover 186 = .ok (.iastore, 1) := by decide +kernel
theorem dL_cover_187 : decode cL_cover 187 = .ok (.iload 6, 2) := by decide +kernel
theorem dL_cover_189 : decode cL_cover 189 = .ok (.aload_n 0, 1) := by decide +kernel
theorem dL_cover_190 : decode cL_cover 190 = .ok (.iload 7, 2) := by decide +kernel
theorem dL_cover_192 : decode cL_cover 192 = .ok (.bipush 64, 2) := by decide +kernel
theorem dL_cover_194 : decode cL_cover 194 = .ok (.idiv, 1) := by decide +kernel
theorem dL_cover_195 : decode cL_cover 195 = .ok (.iload 7, 2) := by decide +kernel
theorem dL_cover_197 : decode cL_cover 197 = .ok (.bipush 64, 2) := by decide +kernel
theorem dL_cover_199 : decode cL_cover 199 = .ok (.irem, 1) := by decide +kernel
theorem dL_cover_200 : decode cL_cover 200 = .ok (.invokestatic 14, 3) := by decide +kernel
theorem dL_cover_203 : decode cL_cover 203 = .ok (.iconst (-1), 1) := by decide +kernel
theorem dL_cover_204 : decode cL_cover 204 = .ok (.ixor, 1) := by decide +kernel
theorem dL_cover_205 : decode cL_cover 205 = .ok (.iand, 1) := by decide +kernel
theorem dL_cover_206 : decode cL_cover 206 = .ok (.istore 6, 2) := by decide +kernel
theorem dL_cover_208 : decode cL_cover 208 = .ok (.goto (-183), 3) := by decide +kernel
theorem dL_cover_211 : decode cL_cover 211 = .ok (.return_, 1) := by decide +kernel
theorem dL_answer_0 : decode cL_answer 0 = .ok (.iconst 0, 1) := by decide +kernel
theorem dL_answer_1 : decode cL_answer 1 = .ok (.istore 4, 2) := by decide +kernel
theorem dL_answer_3 : decode cL_answer 3 = .ok (.iload 4, 2) := by decide +kernel
theorem dL_answer_5 : decode cL_answer 5 = .ok (.aload_n 1, 1) := by decide +kernel
theorem dL_answer_6 : decode cL_answer 6 = .ok (.iload_n 2, 1) := by decide +kernel
theorem dL_answer_7 : decode cL_answer 7 = .ok (.iaload, 1) := by decide +kernel
theorem dL_answer_8 : decode cL_answer 8 = .ok (.if_icmp .ge 40, 3) := by decide +kernel
theorem dL_answer_11 : decode cL_answer 11 = .ok (.iload_n 3, 1) := by decide +kernel
theorem dL_answer_12 : decode cL_answer 12 = .ok (.aload_n 0, 1) := by decide +kernel
theorem dL_answer_13 : decode cL_answer 13 = .ok (.bipush 16, 2) := by decide +kernel
theorem dL_answer_15 : decode cL_answer 15 = .ok (.iload_n 2, 1) := by decide +kernel
theorem dL_answer_16 : decode cL_answer 16 = .ok (.imul, 1) := by decide +kernel
theorem dL_answer_17 : decode cL_answer 17 = .ok (.iload 4, 2) := by decide +kernel
theorem dL_answer_19 : decode cL_answer 19 = .ok (.iadd, 1) := by decide +kernel
theorem dL_answer_20 : decode cL_answer 20 = .ok (.iaload, 1) := by decide +kernel
theorem dL_answer_21 : decode cL_answer 21 = .ok (.bipush 64, 2) := by decide +kernel
theorem dL_answer_23 : decode cL_answer 23 = .ok (.idiv, 1) := by decide +kernel
theorem dL_answer_24 : decode cL_answer 24 = .ok (.iand, 1) := by decide +kernel
theorem dL_answer_25 : decode cL_answer 25 = .ok (.aload_n 0, 1) := by decide +kernel
theorem dL_answer_26 : decode cL_answer 26 = .ok (.bipush 16, 2) := by decide +kernel
theorem dL_answer_28 : decode cL_answer 28 = .ok (.iload_n 2, 1) := by decide +kernel
theorem dL_answer_29 : decode cL_answer 29 = .ok (.imul, 1) := by decide +kernel
theorem dL_answer_30 : decode cL_answer 30 = .ok (.iload 4, 2) := by decide +kernel
theorem dL_answer_32 : decode cL_answer 32 = .ok (.iadd, 1) := by decide +kernel
theorem dL_answer_33 : decode cL_answer 33 = .ok (.iaload, 1) := by decide +kernel
theorem dL_answer_34 : decode cL_answer 34 = .ok (.bipush 64, 2) := by decide +kernel
theorem dL_answer_36 : decode cL_answer 36 = .ok (.irem, 1) := by decide +kernel
theorem dL_answer_37 : decode cL_answer 37 = .ok (.if_icmp .ne 5, 3) := by decide +kernel
theorem dL_answer_40 : decode cL_answer 40 = .ok (.iconst 1, 1) := by decide +kernel
theorem dL_answer_41 : decode cL_answer 41 = .ok (.ireturn, 1) := by decide +kernel
theorem dL_answer_42 : decode cL_answer 42 = .ok (.iinc 4 1, 3) := by decide +kernel
theorem dL_answer_45 : decode cL_answer 45 = .ok (.goto (-42), 3) := by decide +kernel
theorem dL_answer_48 : decode cL_answer 48 = .ok (.iconst 0, 1) := by decide +kernel
theorem dL_answer_49 : decode cL_answer 49 = .ok (.ireturn, 1) := by decide +kernel
theorem dL_changes_0 : decode cL_changes 0 = .ok (.iload_n 1, 1) := by decide +kernel
theorem dL_changes_1 : decode cL_changes 1 = .ok (.bipush 10, 2) := by decide +kernel
theorem dL_changes_3 : decode cL_changes 3 = .ok (.invokestatic 30, 3) := by decide +kernel
theorem dL_changes_6 : decode cL_changes 6 = .ok (.istore 5, 2) := by decide +kernel
theorem dL_changes_8 : decode cL_changes 8 = .ok (.iload_n 2, 1) := by decide +kernel
theorem dL_changes_9 : decode cL_changes 9 = .ok (.iconst 4, 1) := by decide +kernel
theorem dL_changes_10 : decode cL_changes 10 = .ok (.invokestatic 30, 3) := by decide +kernel
theorem dL_changes_13 : decode cL_changes 13 = .ok (.istore 6, 2) := by decide +kernel
theorem dL_changes_15 : decode cL_changes 15 = .ok (.iload_n 2, 1) := by decide +kernel
theorem dL_changes_16 : decode cL_changes 16 = .ok (.iconst 2, 1) := by decide +kernel
theorem dL_changes_17 : decode cL_changes 17 = .ok (.ishr, 1) := by decide +kernel
theorem dL_changes_18 : decode cL_changes 18 = .ok (.iconst 4, 1) := by decide +kernel
theorem dL_changes_19 : decode cL_changes 19 = .ok (.invokestatic 30, 3) := by decide +kernel
theorem dL_changes_22 : decode cL_changes 22 = .ok (.istore 7, 2) := by decide +kernel
theorem dL_changes_24 : decode cL_changes 24 = .ok (.iconst 1, 1) := by decide +kernel
theorem dL_changes_25 : decode cL_changes 25 = .ok (.aload_n 3, 1) := by decide +kernel
theorem dL_changes_26 : decode cL_changes 26 = .ok (.iconst 0, 1) := by decide +kernel
theorem dL_changes_27 : decode cL_changes 27 = .ok (.iaload, 1) := by decide +kernel
theorem dL_changes_28 : decode cL_changes 28 = .ok (.ishl, 1) := by decide +kernel
theorem dL_changes_29 : decode cL_changes 29 = .ok (.istore 8, 2) := by decide +kernel
