theorem dL_changes_31 : decode cL_changes 31 = .ok (.aload_n 3, 1) := by decide +kernel
theorem dL_changes_32 : decode cL_changes 32 = .ok (.iconst 4, 1) := by decide +kernel
theorem dL_changes_33 : decode cL_changes 33 = .ok (.iaload, 1) := by decide +kernel
theorem dL_changes_34 : decode cL_changes 34 = .ok (.bipush 6, 2) := by decide +kernel
theorem dL_changes_36 : decode cL_changes 36 = .ok (.if_icmp .ge 10, 3) := by decide +kernel
theorem dL_changes_39 : decode cL_changes 39 = .ok (.aload_n 3, 1) := by decide +kernel
theorem dL_changes_40 : decode cL_changes 40 = .ok (.iconst 4, 1) := by decide +kernel
theorem dL_changes_41 : decode cL_changes 41 = .ok (.dup2, 1) := by decide +kernel
theorem dL_changes_42 : decode cL_changes 42 = .ok (.iaload, 1) := by decide +kernel
theorem dL_changes_43 : decode cL_changes 43 = .ok (.iconst 1, 1) := by decide +kernel
theorem dL_changes_44 : decode cL_changes 44 = .ok (.iadd, 1) := by decide +kernel
theorem dL_changes_45 : decode cL_changes 45 = .ok (.iastore, 1) := by decide +kernel
theorem dL_changes_46 : decode cL_changes 46 = .ok (.iload 5, 2) := by decide +kernel
theorem dL_changes_48 : decode cL_changes 48 = .ok (.bipush 6, 2) := by decide +kernel
theorem dL_changes_50 : decode cL_changes 50 = .ok (.if_icmp .ge 75, 3) := by decide +kernel
theorem dL_changes_53 : decode cL_changes 53 = .ok (.iload_n 2, 1) := by decide +kernel
theorem dL_changes_54 : decode cL_changes 54 = .ok (.iconst 4, 1) := by decide +kernel
theorem dL_changes_55 : decode cL_changes 55 = .ok (.ishr, 1) := by decide +kernel
theorem dL_changes_56 : decode cL_changes 56 = .ok (.iload 8, 2) := by decide +kernel
theorem dL_changes_58 : decode cL_changes 58 = .ok (.invokestatic 30, 3) := by decide +kernel
theorem dL_changes_61 : decode cL_changes 61 = .ok (.istore 9, 2) := by decide +kernel
theorem dL_changes_63 : decode cL_changes 63 = .ok (.aload 4, 2) := by decide +kernel
theorem dL_changes_65 : decode cL_changes 65 = .ok (.bipush 16, 2) := by decide +kernel
theorem dL_changes_67 : decode cL_changes 67 = .ok (.iload 6, 2) := by decide +kernel
theorem dL_changes_69 : decode cL_changes 69 = .ok (.imul, 1) := by decide +kernel
theorem dL_changes_70 : decode cL_changes 70 = .ok (.iload 9, 2) := by decide +kernel
theorem dL_changes_72 : decode cL_changes 72 = .ok (.iadd, 1) := by decide +kernel
theorem dL_changes_73 : decode cL_changes 73 = .ok (.iaload, 1) := by decide +kernel
theorem dL_changes_74 : decode cL_changes 74 = .ok (.istore 10, 2) := by decide +kernel
theorem dL_changes_76 : decode cL_changes 76 = .ok (.aload 4, 2) := by decide +kernel
theorem dL_changes_78 : decode cL_changes 78 = .ok (.bipush 16, 2) := by decide +kernel
theorem dL_changes_80 : decode cL_changes 80 = .ok (.iload 6, 2) := by decide +kernel
theorem dL_changes_82 : decode cL_changes 82 = .ok (.imul, 1) := by decide +kernel
theorem dL_changes_83 : decode cL_changes 83 = .ok (.iload 9, 2) := by decide +kernel
theorem dL_changes_85 : decode cL_changes 85 = .ok (.iadd, 1) := by decide +kernel
theorem dL_changes_86 : decode cL_changes 86 = .ok (.iload_n 2, 1) := by decide +kernel
theorem dL_changes_87 : decode cL_changes 87 = .ok (.bipush 9, 2) := by decide +kernel
theorem dL_changes_89 : decode cL_changes 89 = .ok (.ishr, 1) := by decide +kernel
theorem dL_changes_90 : decode cL_changes 90 = .ok (.iconst 3, 1) := by decide +kernel
theorem dL_changes_91 : decode cL_changes 91 = .ok (.invokestatic 30, 3) := by decide +kernel
theorem dL_changes_94 : decode cL_changes 94 = .ok (.iastore, 1) := by decide +kernel
theorem dL_changes_95 : decode cL_changes 95 = .ok (.aload_n 0, 1) := by decide +kernel
theorem dL_changes_96 : decode cL_changes 96 = .ok (.iload 6, 2) := by decide +kernel
theorem dL_changes_98 : decode cL_changes 98 = .ok (.iload 9, 2) := by decide +kernel
theorem dL_changes_100 : decode cL_changes 100 = .ok (.aload 4, 2) := by decide +kernel
theorem dL_changes_102 : decode cL_changes 102 = .ok (.bipush 16, 2) := by decide +kernel
theorem dL_changes_104 : decode cL_changes 104 = .ok (.iload 6, 2) := by decide +kernel
theorem dL_changes_106 : decode cL_changes 106 = .ok (.imul, 1) := by decide +kernel
theorem dL_changes_107 : decode cL_changes 107 = .ok (.iload 9, 2) := by decide +kernel
theorem dL_changes_109 : decode cL_changes 109 = .ok (.iadd, 1) := by decide +kernel
theorem dL_changes_110 : decode cL_changes 110 = .ok (.iaload, 1) := by decide +kernel
theorem dL_changes_111 : decode cL_changes 111 = .ok (.invokevirtual 34, 3) := by decide +kernel
theorem dL_changes_114 : decode cL_changes 114 = .ok (.iload 10, 2) := by decide +kernel
theorem dL_changes_116 : decode cL_changes 116 = .ok (.if_icmp .ne 7, 3) := by decide +kernel
theorem dL_changes_119 : decode cL_changes 119 = .ok (.iconst 1, 1) := by decide +kernel
theorem dL_changes_120 : decode cL_changes 120 = .ok (.goto 4, 3) := by decide +kernel
theorem dL_changes_123 : decode cL_changes 123 = .ok (.iconst 0, 1) := by decide +kernel
theorem dL_changes_124 : decode cL_changes 124 = .ok (.ireturn, 1) := by decide +kernel
theorem dL_changes_125 : decode cL_changes 125 = .ok (.iconst 0, 1) := by decide +kernel
theorem dL_changes_126 : decode cL_changes 126 = .ok (.istore 9, 2) := by decide +kernel
theorem dL_changes_128 : decode cL_changes 128 = .ok (.iload 5, 2) := by decide +kernel
theorem dL_changes_130 : decode cL_changes 130 = .ok (.bipush 8, 2) := by decide +kernel
theorem dL_changes_132 : decode cL_changes 132 = .ok (.if_icmp .lt 10, 3) := by decide +kernel
theorem dL_changes_135 : decode cL_changes 135 = .ok (.iload 6, 2) := by decide +kernel
theorem dL_changes_137 : decode cL_changes 137 = .ok (.iload 7, 2) := by decide +kernel
theorem dL_changes_139 : decode cL_changes 139 = .ok (.if_icmp .ne 93, 3) := by decide +kernel
theorem dL_changes_142 : decode cL_changes 142 = .ok (.iconst 0, 1) := by decide +kernel
theorem dL_changes_143 : decode cL_changes 143 = .ok (.istore 10, 2) := by decide +kernel
theorem dL_changes_145 : decode cL_changes 145 = .ok (.iload 10, 2) := by decide +kernel
theorem dL_changes_147 : decode cL_changes 147 = .ok (.iload 8, 2) := by decide +kernel
theorem dL_changes_149 : decode cL_changes 149 = .ok (.if_icmp .ge 66, 3) := by decide +kernel
theorem dL_changes_152 : decode cL_changes 152 = .ok (.aload 4, 2) := by decide +kernel
theorem dL_changes_154 : decode cL_changes 154 = .ok (.bipush 16, 2) := by decide +kernel
theorem dL_changes_156 : decode cL_changes 156 = .ok (.iload 6, 2) := by decide +kernel
theorem dL_changes_158 : decode cL_changes 158 = .ok (.imul, 1) := by decide +kernel
theorem dL_changes_159 : decode cL_changes 159 = .ok (.iload 10, 2) := by decide +kernel
theorem dL_changes_161 : decode cL_changes 161 = .ok (.iadd, 1) := by decide +kernel
theorem dL_changes_162 : decode cL_changes 162 = .ok (.iaload, 1) := by decide +kernel
theorem dL_changes_163 : decode cL_changes 163 = .ok (.iconst 2, 1) := by decide +kernel
theorem dL_changes_164 : decode cL_changes 164 = .ok (.if_icmp .ge 27, 3) := by decide +kernel
theorem dL_changes_167 : decode cL_changes 167 = .ok (.aload 4, 2) := by decide +kernel
theorem dL_changes_169 : decode cL_changes 169 = .ok (.bipush 16, 2) := by decide +kernel
theorem dL_changes_171 : decode cL_changes 171 = .ok (.iload 6, 2) := by decide +kernel
theorem dL_changes_173 : decode cL_changes 173 = .ok (.imul, 1) := by decide +kernel
theorem dL_changes_174 : decode cL_changes 174 = .ok (.iload 10, 2) := by decide +kernel
theorem dL_changes_176 : decode cL_changes 176 = .ok (.iadd, 1) := by decide +kernel
theorem dL_changes_177 : decode cL_changes 177 = .ok (.iconst 1, 1) := by decide +kernel
theorem dL_changes_178 : decode cL_changes 178 = .ok (.aload 4, 2) := by decide +kernel
theorem dL_changes_180 : decode cL_changes 180 = .ok (.bipush 16, 2) := by decide +kernel
theorem dL_changes_182 : decode cL_changes 182 = .ok (.iload 6, 2) := by decide +kernel
theorem dL_changes_184 : decode cL_changes 184 = .ok (.imul, 1) := by decide +kernel
theorem dL_changes_185 : decode cL_changes 185 = .ok (.iload 10, 2) := by decide +kernel
theorem dL_changes_187 : decode cL_changes 187 = .ok (.iadd, 1) := by decide +kernel
theorem dL_changes_188 : decode cL_changes 188 = .ok (.iaload, 1) := by decide +kernel
theorem dL_changes_189 : decode cL_changes 189 = .ok (.isub, 1) := by decide +kernel
theorem dL_changes_190 : decode cL_changes 190 = .ok (.iastore, 1) := by decide +kernel
theorem dL_changes_191 : decode cL_changes 191 = .ok (.aload 4, 2) := by decide +kernel
theorem dL_changes_193 : decode cL_changes 193 = .ok (.bipush 16, 2) := by decide +kernel
theorem dL_changes_195 : decode cL_changes 195 = .ok (.iload 6, 2) := by decide +kernel
theorem dL_changes_197 : decode cL_changes 197 = .ok (.imul, 1) := by decide +kernel
theorem dL_changes_198 : decode cL_changes 198 = .ok (.iload 10, 2) := by decide +kernel
theorem dL_changes_200 : decode cL_changes 200 = .ok (.iadd, 1) := by decide +kernel
theorem dL_changes_201 : decode cL_changes 201 = .ok (.iaload, 1) := by decide +kernel
theorem dL_changes_202 : decode cL_changes 202 = .ok (.iconst 1, 1) := by decide +kernel
theorem dL_changes_203 : decode cL_changes 203 = .ok (.if_icmp .ne 6, 3) := by decide +kernel
theorem dL_changes_206 : decode cL_changes 206 = .ok (.iinc 9 1, 3) := by decide +kernel
theorem dL_changes_209 : decode cL_changes 209 = .ok (.iinc 10 1, 3) := by decide +kernel
theorem dL_changes_212 : decode cL_changes 212 = .ok (.goto (-67), 3) := by decide +kernel
theorem dL_changes_215 : decode cL_changes 215 = .ok (.aload_n 0, 1) := by decide +kernel
theorem dL_changes_216 : decode cL_changes 216 = .ok (.iload 6, 2) := by decide +kernel
theorem dL_changes_218 : decode cL_changes 218 = .ok (.invokevirtual 40, 3) := by decide +kernel
theorem dL_changes_221 : decode cL_changes 221 = .ok (.iload 9, 2) := by decide +kernel
theorem dL_changes_223 : decode cL_changes 223 = .ok (.if_icmp .ne 7, 3) := by decide +kernel
theorem dL_changes_226 : decode cL_changes 226 = .ok (.iconst 1, 1) := by decide +kernel
theorem dL_changes_227 : decode cL_changes 227 = .ok (.goto 4, 3) := by decide +kernel
theorem dL_changes_230 : decode cL_changes 230 = .ok (.iconst 0, 1) := by decide +kernel
theorem dL_changes_231 : decode cL_changes 231 = .ok (.ireturn, 1) := by decide +kernel
theorem dL_changes_232 : decode cL_changes 232 = .ok (.iconst 0, 1) := by decide +kernel
theorem dL_changes_233 : decode cL_changes 233 = .ok (.istore 10, 2) := by decide +kernel
theorem dL_changes_235 : decode cL_changes 235 = .ok (.iload 10, 2) := by decide +kernel
theorem dL_changes_237 : decode cL_changes 237 = .ok (.iload 8, 2) := by decide +kernel
theorem dL_changes_239 : decode cL_changes 239 = .ok (.if_icmp .ge 93, 3) := by decide +kernel
theorem dL_changes_242 : decode cL_changes 242 = .ok (.aload 4, 2) := by decide +kernel
theorem dL_changes_244 : decode cL_changes 244 = .ok (.bipush 16, 2) := by decide +kernel
theorem dL_changes_246 : decode cL_changes 246 = .ok (.iload 6, 2) := by decide +kernel
theorem dL_changes_248 : decode cL_changes 248 = .ok (.imul, 1) := by decide +kernel
theorem dL_changes_249 : decode cL_changes 249 = .ok (.iload 10, 2) := by decide +kernel
theorem dL_changes_251 : decode cL_changes 251 = .ok (.iadd, 1) := by decide +kernel
theorem dL_changes_252 : decode cL_changes 252 = .ok (.iaload, 1) := by decide +kernel
theorem dL_changes_253 : decode cL_changes 253 = .ok (.istore 11, 2) := by decide +kernel
theorem dL_changes_255 : decode cL_changes 255 = .ok (.aload 4, 2) := by decide +kernel
theorem dL_changes_257 : decode cL_changes 257 = .ok (.bipush 16, 2) := by decide +kernel
theorem dL_changes_259 : decode cL_changes 259 = .ok (.iload 7, 2) := by decide +kernel
theorem dL_changes_261 : decode cL_changes 261 = .ok (.imul, 1) := by decide +kernel
theorem dL_changes_262 : decode cL_changes 262 = .ok (.iload 10, 2) := by decide +kernel
theorem dL_changes_264 : decode cL_changes 264 = .ok (.iadd, 1) := by decide +kernel
theorem dL_changes_265 : decode cL_changes 265 = .ok (.iaload, 1) := by decide +kernel
theorem dL_changes_266 : decode cL_changes 266 = .ok (.istore 12, 2) := by decide +kernel
theorem dL_changes_268 : decode cL_changes 268 = .ok (.aload 4, 2) := by decide +kernel
theorem dL_changes_270 : decode cL_changes 270 = .ok (.bipush 16, 2) := by decide +kernel
theorem dL_changes_272 : decode cL_changes 272 = .ok (.iload 6, 2) := by decide +kernel
theorem dL_changes_274 : decode cL_changes 274 = .ok (.imul, 1) := by decide +kernel
theorem dL_changes_275 : decode cL_changes 275 = .ok (.iload 10, 2) := by decide +kernel
theorem dL_changes_277 : decode cL_changes 277 = .ok (.iadd, 1) := by decide +kernel
theorem dL_changes_278 : decode cL_changes 278 = .ok (.iload 11, 2) := by decide +kernel
theorem dL_changes_280 : decode cL_changes 280 = .ok (.iconst 1, 1) := by decide +kernel
theorem dL_changes_281 : decode cL_changes 281 = .ok (.if_icmp .eq 9, 3) := by decide +kernel
theorem dL_changes_284 : decode cL_changes 284 = .ok (.iload 12, 2) := by decide +kernel
theorem dL_changes_286 : decode cL_changes 286 = .ok (.iconst 1, 1) := by decide +kernel
theorem dL_changes_287 : decode cL_changes 287 = .ok (.if_icmp .ne 7, 3) := by decide +kernel
theorem dL_changes_290 : decode cL_changes 290 = .ok (.iconst 1, 1) := by decide +kernel
theorem dL_changes_291 : decode cL_changes 291 = .ok (.goto 16, 3) := by decide +kernel
theorem dL_changes_294 : decode cL_changes 294 = .ok (.iload 11, 2) := by decide +kernel
theorem dL_changes_296 : decode cL_changes 296 = .ok (.iload 12, 2) := by decide +kernel
theorem dL_changes_298 : decode cL_changes 298 = .ok (.iadd, 1) := by decide +kernel
theorem dL_changes_299 : decode cL_changes 299 = .ok (.ifCond .le 7, 3) := by decide +kernel
theorem dL_changes_302 : decode cL_changes 302 = .ok (.iconst 2, 1) := by decide +kernel
theorem dL_changes_303 : decode cL_changes 303 = .ok (.goto 4, 3) := by decide +kernel
theorem dL_changes_306 : decode cL_changes 306 = .ok (.iconst 0, 1) := by decide +kernel
theorem dL_changes_307 : decode cL_changes 307 = .ok (.iastore, 1) := by decide +kernel
theorem dL_changes_308 : decode cL_changes 308 = .ok (.aload 4, 2) := by decide +kernel
theorem dL_changes_310 : decode cL_changes 310 = .ok (.bipush 16, 2) := by decide +kernel
theorem dL_changes_312 : decode cL_changes 312 = .ok (.iload 6, 2) := by decide +kernel
theorem dL_changes_314 : decode cL_changes 314 = .ok (.imul, 1) := by decide +kernel
theorem dL_changes_315 : decode cL_changes 315 = .ok (.iload 10, 2) := by decide +kernel
theorem dL_changes_317 : decode cL_changes 317 = .ok (.iadd, 1) := by decide +kernel
theorem dL_changes_318 : decode cL_changes 318 = .ok (.iaload, 1) := by decide +kernel
theorem dL_changes_319 : decode cL_changes 319 = .ok (.iconst 1, 1) := by decide +kernel
theorem dL_changes_320 : decode cL_changes 320 = .ok (.if_icmp .ne 6, 3) := by decide +kernel
theorem dL_changes_323 : decode cL_changes 323 = .ok (.iinc 9 1, 3) := by decide +kernel
theorem dL_changes_326 : decode cL_changes 326 = .ok (.iinc 10 1, 3) := by decide +kernel
theorem dL_changes_329 : decode cL_changes 329 = .ok (.goto (-94), 3) := by decide +kernel
theorem dL_changes_332 : decode cL_changes 332 = .ok (.aload_n 0, 1) := by decide +kernel
theorem dL_changes_333 : decode cL_changes 333 = .ok (.iload 6, 2) := by decide +kernel
theorem dL_changes_335 : decode cL_changes 335 = .ok (.iload 7, 2) := by decide +kernel
theorem dL_changes_337 : decode cL_changes 337 = .ok (.invokevirtual 43, 3) := by decide +kernel
theorem dL_changes_340 : decode cL_changes 340 = .ok (.iload 9, 2) := by decide +kernel
theorem dL_changes_342 : decode cL_changes 342 = .ok (.if_icmp .ne 7, 3) := by decide +kernel
theorem dL_changes_345 : decode cL_changes 345 = .ok (.iconst 1, 1) := by decide +kernel
theorem dL_changes_346 : decode cL_changes 346 = .ok (.goto 4, 3) := by decide +kernel
theorem dL_changes_349 : decode cL_changes 349 = .ok (.iconst 0, 1) := by decide +kernel
theorem dL_changes_350 : decode cL_changes 350 = .ok (.ireturn, 1) := by decide +kernel
theorem dL_forgets_0 : decode cL_forgets 0 = .ok (.iload_n 2, 1) := by decide +kernel
theorem dL_forgets_1 : decode cL_forgets 1 = .ok (.aload_n 3, 1) := by decide +kernel
theorem dL_forgets_2 : decode cL_forgets 2 = .ok (.iconst 0, 1) := by decide +kernel
theorem dL_forgets_3 : decode cL_forgets 3 = .ok (.iaload, 1) := by decide +kernel
theorem dL_forgets_4 : decode cL_forgets 4 = .ok (.invokestatic 30, 3) := by decide +kernel
theorem dL_forgets_7 : decode cL_forgets 7 = .ok (.istore 5, 2) := by decide +kernel
theorem dL_forgets_9 : decode cL_forgets 9 = .ok (.aload_n 3, 1) := by decide +kernel
theorem dL_forgets_10 : decode cL_forgets 10 = .ok (.iconst 4, 1) := by decide +kernel
theorem dL_forgets_11 : decode cL_forgets 11 = .ok (.iaload, 1) := by decide +kernel
theorem dL_forgets_12 : decode cL_forgets 12 = .ok (.bipush 6, 2) := by decide +kernel
theorem dL_forgets_14 : decode cL_forgets 14 = .ok (.if_icmp .ge 10, 3) := by decide +kernel
theorem dL_forgets_17 : decode cL_forgets 17 = .ok (.aload_n 3, 1) := by decide +kernel
theorem dL_forgets_18 : decode cL_forgets 18 = .ok (.iconst 4, 1) := by decide +kernel
theorem dL_forgets_19 : decode cL_forgets 19 = .ok (.dup2, 1) := by decide +kernel
theorem dL_forgets_20 : decode cL_forgets 20 = .ok (.iaload, 1) := by decide +kernel
theorem dL_forgets_21 : decode cL_forgets 21 = .ok (.iconst 1, 1) := by decide +kernel
theorem dL_forgets_22 : decode cL_forgets 22 = .ok (.iadd, 1) := by decide +kernel
theorem dL_forgets_23 : decode cL_forgets 23 = .ok (.iastore, 1) := by decide +kernel
theorem dL_forgets_24 : decode cL_forgets 24 = .ok (.iload_n 1, 1) := by decide +kernel
theorem dL_forgets_25 : decode cL_forgets 25 = .ok (.iconst 4, 1) := by decide +kernel
theorem dL_forgets_26 : decode cL_forgets 26 = .ok (.invokestatic 30, 3) := by decide +kernel
theorem dL_forgets_29 : decode cL_forgets 29 = .ok (.ifCond .ne 150, 3) := by decide +kernel
theorem dL_forgets_32 : decode cL_forgets 32 = .ok (.iconst 1, 1) := by decide +kernel
theorem dL_forgets_33 : decode cL_forgets 33 = .ok (.iload_n 2, 1) := by decide +kernel
theorem dL_forgets_34 : decode cL_forgets 34 = .ok (.iconst 3, 1) := by decide +kernel
theorem dL_forgets_35 : decode cL_forgets 35 = .ok (.ishr, 1) := by decide +kernel
theorem dL_forgets_36 : decode cL_forgets 36 = .ok (.iconst 2, 1) := by decide +kernel
theorem dL_forgets_37 : decode cL_forgets 37 = .ok (.invokestatic 30, 3) := by decide +kernel
theorem dL_forgets_40 : decode cL_forgets 40 = .ok (.iadd, 1) := by decide +kernel
theorem dL_forgets_41 : decode cL_forgets 41 = .ok (.istore 6, 2) := by decide +kernel
theorem dL_forgets_43 : decode cL_forgets 43 = .ok (.iconst 0, 1) := by decide +kernel
theorem dL_forgets_44 : decode cL_forgets 44 = .ok (.istore 7, 2) := by decide +kernel
theorem dL_forgets_46 : decode cL_forgets 46 = .ok (.iload 7, 2) := by decide +kernel
theorem dL_forgets_48 : decode cL_forgets 48 = .ok (.iload 6, 2) := by decide +kernel
theorem dL_forgets_50 : decode cL_forgets 50 = .ok (.if_icmp .ge 108, 3) := by decide +kernel
theorem dL_forgets_53 : decode cL_forgets 53 = .ok (.aload_n 3, 1) := by decide +kernel
theorem dL_forgets_54 : decode cL_forgets 54 = .ok (.iconst 1, 1) := by decide +kernel
theorem dL_forgets_55 : decode cL_forgets 55 = .ok (.iaload, 1) := by decide +kernel
