theorem dL_forgets_56 : decode cL_forgets 56 = .ok (.ifCond .eq 102, 3) := by decide +kernel
theorem dL_forgets_59 : decode cL_forgets 59 = .ok (.iconst (-1), 1) := by decide +kernel
theorem dL_forgets_60 : decode cL_forgets 60 = .ok (.istore 8, 2) := by decide +kernel
theorem dL_forgets_62 : decode cL_forgets 62 = .ok (.iconst 0, 1) := by decide +kernel
theorem dL_forgets_63 : decode cL_forgets 63 = .ok (.istore 9, 2) := by decide +kernel
theorem dL_forgets_65 : decode cL_forgets 65 = .ok (.aload_n 3, 1) := by decide +kernel
theorem dL_forgets_66 : decode cL_forgets 66 = .ok (.iconst 0, 1) := by decide +kernel
theorem dL_forgets_67 : decode cL_forgets 67 = .ok (.iaload, 1) := by decide +kernel
theorem dL_forgets_68 : decode cL_forgets 68 = .ok (.iconst 1, 1) := by decide +kernel
theorem dL_forgets_69 : decode cL_forgets 69 = .ok (.isub, 1) := by decide +kernel
theorem dL_forgets_70 : decode cL_forgets 70 = .ok (.istore 10, 2) := by decide +kernel
theorem dL_forgets_72 : decode cL_forgets 72 = .ok (.iload 10, 2) := by decide +kernel
theorem dL_forgets_74 : decode cL_forgets 74 = .ok (.ifCond .lt 59, 3) := by decide +kernel
theorem dL_forgets_77 : decode cL_forgets 77 = .ok (.aload_n 3, 1) := by decide +kernel
theorem dL_forgets_78 : decode cL_forgets 78 = .ok (.iconst 1, 1) := by decide +kernel
theorem dL_forgets_79 : decode cL_forgets 79 = .ok (.iaload, 1) := by decide +kernel
theorem dL_forgets_80 : decode cL_forgets 80 = .ok (.iload 10, 2) := by decide +kernel
theorem dL_forgets_82 : decode cL_forgets 82 = .ok (.ishr, 1) := by decide +kernel
theorem dL_forgets_83 : decode cL_forgets 83 = .ok (.iconst 1, 1) := by decide +kernel
theorem dL_forgets_84 : decode cL_forgets 84 = .ok (.iand, 1) := by decide +kernel
theorem dL_forgets_85 : decode cL_forgets 85 = .ok (.iconst 1, 1) := by decide +kernel
theorem dL_forgets_86 : decode cL_forgets 86 = .ok (.if_icmp .ne 41, 3) := by decide +kernel
theorem dL_forgets_89 : decode cL_forgets 89 = .ok (.aload_n 3, 1) := by decide +kernel
theorem dL_forgets_90 : decode cL_forgets 90 = .ok (.aload 4, 2) := by decide +kernel
theorem dL_forgets_92 : decode cL_forgets 92 = .ok (.aload_n 3, 1) := by decide +kernel
theorem dL_forgets_93 : decode cL_forgets 93 = .ok (.iconst 1, 1) := by decide +kernel
theorem dL_forgets_94 : decode cL_forgets 94 = .ok (.iaload, 1) := by decide +kernel
theorem dL_forgets_95 : decode cL_forgets 95 = .ok (.iconst 1, 1) := by decide +kernel
theorem dL_forgets_96 : decode cL_forgets 96 = .ok (.iload 10, 2) := by decide +kernel
theorem dL_forgets_98 : decode cL_forgets 98 = .ok (.ishl, 1) := by decide +kernel
theorem dL_forgets_99 : decode cL_forgets 99 = .ok (.iconst (-1), 1) := by decide +kernel
theorem dL_forgets_100 : decode cL_forgets 100 = .ok (.ixor, 1) := by decide +kernel
theorem dL_forgets_101 : decode cL_forgets 101 = .ok (.iand, 1) := by decide +kernel
theorem dL_forgets_102 : decode cL_forgets 102 = .ok (.invokestatic 46, 3) := by decide +kernel
theorem dL_forgets_105 : decode cL_forgets 105 = .ok (.istore 11, 2) := by decide +kernel
theorem dL_forgets_107 : decode cL_forgets 107 = .ok (.iload 8, 2) := by decide +kernel
theorem dL_forgets_109 : decode cL_forgets 109 = .ok (.ifCond .lt 10, 3) := by decide +kernel
theorem dL_forgets_112 : decode cL_forgets 112 = .ok (.iload 11, 2) := by decide +kernel
theorem dL_forgets_114 : decode cL_forgets 114 = .ok (.iload 9, 2) := by decide +kernel
theorem dL_forgets_116 : decode cL_forgets 116 = .ok (.if_icmp .gt 11, 3) := by decide +kernel
theorem dL_forgets_119 : decode cL_forgets 119 = .ok (.iload 10, 2) := by decide +kernel
theorem dL_forgets_121 : decode cL_forgets 121 = .ok (.istore 8, 2) := by decide +kernel
theorem dL_forgets_123 : decode cL_forgets 123 = .ok (.iload 11, 2) := by decide +kernel
theorem dL_forgets_125 : decode cL_forgets 125 = .ok (.istore 9, 2) := by decide +kernel
theorem dL_forgets_127 : decode cL_forgets 127 = .ok (.iinc 10 (-1), 3) := by decide +kernel
theorem dL_forgets_130 : decode cL_forgets 130 = .ok (.goto (-58), 3) := by decide +kernel
theorem dL_forgets_133 : decode cL_forgets 133 = .ok (.aload_n 3, 1) := by decide +kernel
theorem dL_forgets_134 : decode cL_forgets 134 = .ok (.iconst 1, 1) := by decide +kernel
theorem dL_forgets_135 : decode cL_forgets 135 = .ok (.dup2, 1) := by decide +kernel
theorem dL_forgets_136 : decode cL_forgets 136 = .ok (.iaload, 1) := by decide +kernel
theorem dL_forgets_137 : decode cL_forgets 137 = .ok (.iconst 1, 1) := by decide +kernel
theorem dL_forgets_138 : decode cL_forgets 138 = .ok (.iload 8, 2) := by decide +kernel
theorem dL_forgets_140 : decode cL_forgets 140 = .ok (.ishl, 1) := by decide +kernel
theorem dL_forgets_141 : decode cL_forgets 141 = .ok (.iconst (-1), 1) := by decide +kernel
theorem dL_forgets_142 : decode cL_forgets 142 = .ok (.ixor, 1) := by decide +kernel
theorem dL_forgets_143 : decode cL_forgets 143 = .ok (.iand, 1) := by decide +kernel
theorem dL_forgets_144 : decode cL_forgets 144 = .ok (.iastore, 1) := by decide +kernel
theorem dL_forgets_145 : decode cL_forgets 145 = .ok (.aload_n 3, 1) := by decide +kernel
theorem dL_forgets_146 : decode cL_forgets 146 = .ok (.iconst 3, 1) := by decide +kernel
theorem dL_forgets_147 : decode cL_forgets 147 = .ok (.dup2, 1) := by decide +kernel
theorem dL_forgets_148 : decode cL_forgets 148 = .ok (.iaload, 1) := by decide +kernel
theorem dL_forgets_149 : decode cL_forgets 149 = .ok (.iconst 1, 1) := by decide +kernel
theorem dL_forgets_150 : decode cL_forgets 150 = .ok (.iadd, 1) := by decide +kernel
theorem dL_forgets_151 : decode cL_forgets 151 = .ok (.iastore, 1) := by decide +kernel
theorem dL_forgets_152 : decode cL_forgets 152 = .ok (.iinc 7 1, 3) := by decide +kernel
theorem dL_forgets_155 : decode cL_forgets 155 = .ok (.goto (-109), 3) := by decide +kernel
theorem dL_forgets_158 : decode cL_forgets 158 = .ok (.aload_n 0, 1) := by decide +kernel
theorem dL_forgets_159 : decode cL_forgets 159 = .ok (.iload 6, 2) := by decide +kernel
theorem dL_forgets_161 : decode cL_forgets 161 = .ok (.invokevirtual 50, 3) := by decide +kernel
theorem dL_forgets_164 : decode cL_forgets 164 = .ok (.aload_n 3, 1) := by decide +kernel
theorem dL_forgets_165 : decode cL_forgets 165 = .ok (.iconst 1, 1) := by decide +kernel
theorem dL_forgets_166 : decode cL_forgets 166 = .ok (.iaload, 1) := by decide +kernel
theorem dL_forgets_167 : decode cL_forgets 167 = .ok (.invokestatic 26, 3) := by decide +kernel
theorem dL_forgets_170 : decode cL_forgets 170 = .ok (.if_icmp .ne 7, 3) := by decide +kernel
theorem dL_forgets_173 : decode cL_forgets 173 = .ok (.iconst 1, 1) := by decide +kernel
theorem dL_forgets_174 : decode cL_forgets 174 = .ok (.goto 4, 3) := by decide +kernel
theorem dL_forgets_177 : decode cL_forgets 177 = .ok (.iconst 0, 1) := by decide +kernel
theorem dL_forgets_178 : decode cL_forgets 178 = .ok (.ireturn, 1) := by decide +kernel
theorem dL_forgets_179 : decode cL_forgets 179 = .ok (.aload_n 3, 1) := by decide +kernel
theorem dL_forgets_180 : decode cL_forgets 180 = .ok (.iconst 1, 1) := by decide +kernel
theorem dL_forgets_181 : decode cL_forgets 181 = .ok (.iaload, 1) := by decide +kernel
theorem dL_forgets_182 : decode cL_forgets 182 = .ok (.iload 5, 2) := by decide +kernel
theorem dL_forgets_184 : decode cL_forgets 184 = .ok (.ishr, 1) := by decide +kernel
theorem dL_forgets_185 : decode cL_forgets 185 = .ok (.iconst 1, 1) := by decide +kernel
theorem dL_forgets_186 : decode cL_forgets 186 = .ok (.iand, 1) := by decide +kernel
theorem dL_forgets_187 : decode cL_forgets 187 = .ok (.iconst 1, 1) := by decide +kernel
theorem dL_forgets_188 : decode cL_forgets 188 = .ok (.if_icmp .ne 7, 3) := by decide +kernel
theorem dL_forgets_191 : decode cL_forgets 191 = .ok (.iconst 1, 1) := by decide +kernel
theorem dL_forgets_192 : decode cL_forgets 192 = .ok (.goto 4, 3) := by decide +kernel
theorem dL_forgets_195 : decode cL_forgets 195 = .ok (.iconst 0, 1) := by decide +kernel
theorem dL_forgets_196 : decode cL_forgets 196 = .ok (.istore 6, 2) := by decide +kernel
theorem dL_forgets_198 : decode cL_forgets 198 = .ok (.aload_n 3, 1) := by decide +kernel
theorem dL_forgets_199 : decode cL_forgets 199 = .ok (.iconst 1, 1) := by decide +kernel
theorem dL_forgets_200 : decode cL_forgets 200 = .ok (.dup2, 1) := by decide +kernel
theorem dL_forgets_201 : decode cL_forgets 201 = .ok (.iaload, 1) := by decide +kernel
theorem dL_forgets_202 : decode cL_forgets 202 = .ok (.iconst 1, 1) := by decide +kernel
theorem dL_forgets_203 : decode cL_forgets 203 = .ok (.iload 5, 2) := by decide +kernel
theorem dL_forgets_205 : decode cL_forgets 205 = .ok (.ishl, 1) := by decide +kernel
theorem dL_forgets_206 : decode cL_forgets 206 = .ok (.ixor, 1) := by decide +kernel
theorem dL_forgets_207 : decode cL_forgets 207 = .ok (.iastore, 1) := by decide +kernel
theorem dL_forgets_208 : decode cL_forgets 208 = .ok (.iload 6, 2) := by decide +kernel
theorem dL_forgets_210 : decode cL_forgets 210 = .ok (.ifCond .eq 12, 3) := by decide +kernel
theorem dL_forgets_213 : decode cL_forgets 213 = .ok (.aload_n 0, 1) := by decide +kernel
theorem dL_forgets_214 : decode cL_forgets 214 = .ok (.iload 5, 2) := by decide +kernel
theorem dL_forgets_216 : decode cL_forgets 216 = .ok (.invokevirtual 53, 3) := by decide +kernel
theorem dL_forgets_219 : decode cL_forgets 219 = .ok (.goto 9, 3) := by decide +kernel
theorem dL_forgets_222 : decode cL_forgets 222 = .ok (.aload_n 0, 1) := by decide +kernel
theorem dL_forgets_223 : decode cL_forgets 223 = .ok (.iload 5, 2) := by decide +kernel
theorem dL_forgets_225 : decode cL_forgets 225 = .ok (.invokevirtual 56, 3) := by decide +kernel
theorem dL_forgets_228 : decode cL_forgets 228 = .ok (.aload_n 3, 1) := by decide +kernel
theorem dL_forgets_229 : decode cL_forgets 229 = .ok (.aload 4, 2) := by decide +kernel
theorem dL_forgets_231 : decode cL_forgets 231 = .ok (.aload_n 3, 1) := by decide +kernel
theorem dL_forgets_232 : decode cL_forgets 232 = .ok (.iconst 1, 1) := by decide +kernel
theorem dL_forgets_233 : decode cL_forgets 233 = .ok (.iaload, 1) := by decide +kernel
theorem dL_forgets_234 : decode cL_forgets 234 = .ok (.invokestatic 46, 3) := by decide +kernel
theorem dL_forgets_237 : decode cL_forgets 237 = .ok (.if_icmp .ne 7, 3) := by decide +kernel
theorem dL_forgets_240 : decode cL_forgets 240 = .ok (.iconst 1, 1) := by decide +kernel
theorem dL_forgets_241 : decode cL_forgets 241 = .ok (.goto 4, 3) := by decide +kernel
theorem dL_forgets_244 : decode cL_forgets 244 = .ok (.iconst 0, 1) := by decide +kernel
theorem dL_forgets_245 : decode cL_forgets 245 = .ok (.ireturn, 1) := by decide +kernel
theorem dL_asks_0 : decode cL_asks 0 = .ok (.iload_n 1, 1) := by decide +kernel
theorem dL_asks_1 : decode cL_asks 1 = .ok (.iconst 1, 1) := by decide +kernel
theorem dL_asks_2 : decode cL_asks 2 = .ok (.aload_n 2, 1) := by decide +kernel
theorem dL_asks_3 : decode cL_asks 3 = .ok (.iconst 0, 1) := by decide +kernel
theorem dL_asks_4 : decode cL_asks 4 = .ok (.iaload, 1) := by decide +kernel
theorem dL_asks_5 : decode cL_asks 5 = .ok (.ishl, 1) := by decide +kernel
theorem dL_asks_6 : decode cL_asks 6 = .ok (.invokestatic 30, 3) := by decide +kernel
theorem dL_asks_9 : decode cL_asks 9 = .ok (.istore 8, 2) := by decide +kernel
theorem dL_asks_11 : decode cL_asks 11 = .ok (.iconst 0, 1) := by decide +kernel
theorem dL_asks_12 : decode cL_asks 12 = .ok (.istore 9, 2) := by decide +kernel
theorem dL_asks_14 : decode cL_asks 14 = .ok (.aload_n 2, 1) := by decide +kernel
theorem dL_asks_15 : decode cL_asks 15 = .ok (.iconst 2, 1) := by decide +kernel
theorem dL_asks_16 : decode cL_asks 16 = .ok (.dup2, 1) := by decide +kernel
theorem dL_asks_17 : decode cL_asks 17 = .ok (.iaload, 1) := by decide +kernel
theorem dL_asks_18 : decode cL_asks 18 = .ok (.iconst 1, 1) := by decide +kernel
theorem dL_asks_19 : decode cL_asks 19 = .ok (.iadd, 1) := by decide +kernel
theorem dL_asks_20 : decode cL_asks 20 = .ok (.iastore, 1) := by decide +kernel
theorem dL_asks_21 : decode cL_asks 21 = .ok (.aload_n 2, 1) := by decide +kernel
theorem dL_asks_22 : decode cL_asks 22 = .ok (.iconst 4, 1) := by decide +kernel
theorem dL_asks_23 : decode cL_asks 23 = .ok (.iaload, 1) := by decide +kernel
theorem dL_asks_24 : decode cL_asks 24 = .ok (.bipush 6, 2) := by decide +kernel
theorem dL_asks_26 : decode cL_asks 26 = .ok (.if_icmp .ge 10, 3) := by decide +kernel
theorem dL_asks_29 : decode cL_asks 29 = .ok (.aload_n 2, 1) := by decide +kernel
theorem dL_asks_30 : decode cL_asks 30 = .ok (.iconst 4, 1) := by decide +kernel
theorem dL_asks_31 : decode cL_asks 31 = .ok (.dup2, 1) := by decide +kernel
theorem dL_asks_32 : decode cL_asks 32 = .ok (.iaload, 1) := by decide +kernel
theorem dL_asks_33 : decode cL_asks 33 = .ok (.iconst 1, 1) := by decide +kernel
theorem dL_asks_34 : decode cL_asks 34 = .ok (.iadd, 1) := by decide +kernel
theorem dL_asks_35 : decode cL_asks 35 = .ok (.iastore, 1) := by decide +kernel
theorem dL_asks_36 : decode cL_asks 36 = .ok (.iconst 0, 1) := by decide +kernel
theorem dL_asks_37 : decode cL_asks 37 = .ok (.istore 10, 2) := by decide +kernel
theorem dL_asks_39 : decode cL_asks 39 = .ok (.iload 10, 2) := by decide +kernel
theorem dL_asks_41 : decode cL_asks 41 = .ok (.iconst 4, 1) := by decide +kernel
theorem dL_asks_42 : decode cL_asks 42 = .ok (.if_icmp .ge 83, 3) := by decide +kernel
theorem dL_asks_45 : decode cL_asks 45 = .ok (.aload 6, 2) := by decide +kernel
theorem dL_asks_47 : decode cL_asks 47 = .ok (.aload 7, 2) := by decide +kernel
theorem dL_asks_49 : decode cL_asks 49 = .ok (.iload 10, 2) := by decide +kernel
theorem dL_asks_51 : decode cL_asks 51 = .ok (.iload 8, 2) := by decide +kernel
theorem dL_asks_53 : decode cL_asks 53 = .ok (.invokestatic 59, 3) := by decide +kernel
theorem dL_asks_56 : decode cL_asks 56 = .ok (.istore 11, 2) := by decide +kernel
theorem dL_asks_58 : decode cL_asks 58 = .ok (.iload 9, 2) := by decide +kernel
theorem dL_asks_60 : decode cL_asks 60 = .ok (.iload 11, 2) := by decide +kernel
theorem dL_asks_62 : decode cL_asks 62 = .ok (.iload 10, 2) := by decide +kernel
theorem dL_asks_64 : decode cL_asks 64 = .ok (.ishl, 1) := by decide +kernel
theorem dL_asks_65 : decode cL_asks 65 = .ok (.ior, 1) := by decide +kernel
theorem dL_asks_66 : decode cL_asks 66 = .ok (.istore 9, 2) := by decide +kernel
theorem dL_asks_68 : decode cL_asks 68 = .ok (.aload_n 2, 1) := by decide +kernel
theorem dL_asks_69 : decode cL_asks 69 = .ok (.aload_n 3, 1) := by decide +kernel
theorem dL_asks_70 : decode cL_asks 70 = .ok (.iload 10, 2) := by decide +kernel
theorem dL_asks_72 : decode cL_asks 72 = .ok (.iload 8, 2) := by decide +kernel
theorem dL_asks_74 : decode cL_asks 74 = .ok (.aload_n 2, 1) := by decide +kernel
theorem dL_asks_75 : decode cL_asks 75 = .ok (.iconst 1, 1) := by decide +kernel
theorem dL_asks_76 : decode cL_asks 76 = .ok (.iaload, 1) := by decide +kernel
theorem dL_asks_77 : decode cL_asks 77 = .ok (.invokestatic 8, 3) := by decide +kernel
theorem dL_asks_80 : decode cL_asks 80 = .ok (.iconst 3, 1) := by decide +kernel
theorem dL_asks_81 : decode cL_asks 81 = .ok (.if_icmp .ne 12, 3) := by decide +kernel
theorem dL_asks_84 : decode cL_asks 84 = .ok (.aload 4, 2) := by decide +kernel
theorem dL_asks_86 : decode cL_asks 86 = .ok (.iload 10, 2) := by decide +kernel
theorem dL_asks_88 : decode cL_asks 88 = .ok (.dup2, 1) := by decide +kernel
theorem dL_asks_89 : decode cL_asks 89 = .ok (.iaload, 1) := by decide +kernel
theorem dL_asks_90 : decode cL_asks 90 = .ok (.iconst 1, 1) := by decide +kernel
theorem dL_asks_91 : decode cL_asks 91 = .ok (.iadd, 1) := by decide +kernel
theorem dL_asks_92 : decode cL_asks 92 = .ok (.iastore, 1) := by decide +kernel
theorem dL_asks_93 : decode cL_asks 93 = .ok (.aload_n 3, 1) := by decide +kernel
theorem dL_asks_94 : decode cL_asks 94 = .ok (.bipush 16, 2) := by decide +kernel
theorem dL_asks_96 : decode cL_asks 96 = .ok (.iload 10, 2) := by decide +kernel
theorem dL_asks_98 : decode cL_asks 98 = .ok (.imul, 1) := by decide +kernel
theorem dL_asks_99 : decode cL_asks 99 = .ok (.iload 8, 2) := by decide +kernel
theorem dL_asks_101 : decode cL_asks 101 = .ok (.iadd, 1) := by decide +kernel
theorem dL_asks_102 : decode cL_asks 102 = .ok (.iaload, 1) := by decide +kernel
theorem dL_asks_103 : decode cL_asks 103 = .ok (.iload 11, 2) := by decide +kernel
theorem dL_asks_105 : decode cL_asks 105 = .ok (.iadd, 1) := by decide +kernel
theorem dL_asks_106 : decode cL_asks 106 = .ok (.iconst 1, 1) := by decide +kernel
theorem dL_asks_107 : decode cL_asks 107 = .ok (.if_icmp .ne 12, 3) := by decide +kernel
theorem dL_asks_110 : decode cL_asks 110 = .ok (.aload 5, 2) := by decide +kernel
theorem dL_asks_112 : decode cL_asks 112 = .ok (.iload 10, 2) := by decide +kernel
theorem dL_asks_114 : decode cL_asks 114 = .ok (.dup2, 1) := by decide +kernel
theorem dL_asks_115 : decode cL_asks 115 = .ok (.iaload, 1) := by decide +kernel
theorem dL_asks_116 : decode cL_asks 116 = .ok (.iconst 1, 1) := by decide +kernel
theorem dL_asks_117 : decode cL_asks 117 = .ok (.iadd, 1) := by decide +kernel
theorem dL_asks_118 : decode cL_asks 118 = .ok (.iastore, 1) := by decide +kernel
theorem dL_asks_119 : decode cL_asks 119 = .ok (.iinc 10 1, 3) := by decide +kernel
theorem dL_asks_122 : decode cL_asks 122 = .ok (.goto (-83), 3) := by decide +kernel
theorem dL_asks_125 : decode cL_asks 125 = .ok (.aload_n 0, 1) := by decide +kernel
theorem dL_asks_126 : decode cL_asks 126 = .ok (.iload 8, 2) := by decide +kernel
theorem dL_asks_128 : decode cL_asks 128 = .ok (.invokevirtual 62, 3) := by decide +kernel
theorem dL_asks_131 : decode cL_asks 131 = .ok (.iload 9, 2) := by decide +kernel
theorem dL_asks_133 : decode cL_asks 133 = .ok (.if_icmp .ne 7, 3) := by decide +kernel
theorem dL_asks_136 : decode cL_asks 136 = .ok (.iconst 1, 1) := by decide +kernel
theorem dL_asks_137 : decode cL_asks 137 = .ok (.goto 4, 3) := by decide +kernel
theorem dL_asks_140 : decode cL_asks 140 = .ok (.iconst 0, 1) := by decide +kernel
theorem dL_asks_141 : decode cL_asks 141 = .ok (.ireturn, 1) := by decide +kernel
theorem dL_agree_0 : decode cL_agree 0 = .ok (.iconst 0, 1) := by decide +kernel
theorem dL_agree_1 : decode cL_agree 1 = .ok (.istore 8, 2) := by decide +kernel
theorem dL_agree_3 : decode cL_agree 3 = .ok (.iload 8, 2) := by decide +kernel
theorem dL_agree_5 : decode cL_agree 5 = .ok (.iconst 4, 1) := by decide +kernel
theorem dL_agree_6 : decode cL_agree 6 = .ok (.if_icmp .ge 282, 3) := by decide +kernel
theorem dL_agree_9 : decode cL_agree 9 = .ok (.aload_n 0, 1) := by decide +kernel
theorem dL_agree_10 : decode cL_agree 10 = .ok (.iload 8, 2) := by decide +kernel
theorem dL_agree_12 : decode cL_agree 12 = .ok (.iconst 2, 1) := by decide +kernel
