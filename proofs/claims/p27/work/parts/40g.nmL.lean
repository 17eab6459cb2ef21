theorem dL_agree_13 : decode cL_agree 13 = .ok (.invokevirtual 65, 3) := by decide +kernel
theorem dL_agree_16 : decode cL_agree 16 = .ok (.aload_n 1, 1) := by decide +kernel
theorem dL_agree_17 : decode cL_agree 17 = .ok (.aload_n 2, 1) := by decide +kernel
theorem dL_agree_18 : decode cL_agree 18 = .ok (.iload 8, 2) := by decide +kernel
theorem dL_agree_20 : decode cL_agree 20 = .ok (.iconst 1, 1) := by decide +kernel
theorem dL_agree_21 : decode cL_agree 21 = .ok (.invokestatic 18, 3) := by decide +kernel
theorem dL_agree_24 : decode cL_agree 24 = .ok (.invokestatic 26, 3) := by decide +kernel
theorem dL_agree_27 : decode cL_agree 27 = .ok (.if_icmp .ne 92, 3) := by decide +kernel
theorem dL_agree_30 : decode cL_agree 30 = .ok (.aload_n 0, 1) := by decide +kernel
theorem dL_agree_31 : decode cL_agree 31 = .ok (.iload 8, 2) := by decide +kernel
theorem dL_agree_33 : decode cL_agree 33 = .ok (.iconst 3, 1) := by decide +kernel
theorem dL_agree_34 : decode cL_agree 34 = .ok (.invokevirtual 65, 3) := by decide +kernel
theorem dL_agree_37 : decode cL_agree 37 = .ok (.aload_n 1, 1) := by decide +kernel
theorem dL_agree_38 : decode cL_agree 38 = .ok (.aload_n 2, 1) := by decide +kernel
theorem dL_agree_39 : decode cL_agree 39 = .ok (.iload 8, 2) := by decide +kernel
theorem dL_agree_41 : decode cL_agree 41 = .ok (.iconst 2, 1) := by decide +kernel
theorem dL_agree_42 : decode cL_agree 42 = .ok (.invokestatic 18, 3) := by decide +kernel
theorem dL_agree_45 : decode cL_agree 45 = .ok (.invokestatic 26, 3) := by decide +kernel
theorem dL_agree_48 : decode cL_agree 48 = .ok (.if_icmp .ne 71, 3) := by decide +kernel
theorem dL_agree_51 : decode cL_agree 51 = .ok (.aload_n 0, 1) := by decide +kernel
theorem dL_agree_52 : decode cL_agree 52 = .ok (.iload 8, 2) := by decide +kernel
theorem dL_agree_54 : decode cL_agree 54 = .ok (.iconst 4, 1) := by decide +kernel
theorem dL_agree_55 : decode cL_agree 55 = .ok (.invokevirtual 65, 3) := by decide +kernel
theorem dL_agree_58 : decode cL_agree 58 = .ok (.aload_n 1, 1) := by decide +kernel
theorem dL_agree_59 : decode cL_agree 59 = .ok (.aload_n 2, 1) := by decide +kernel
theorem dL_agree_60 : decode cL_agree 60 = .ok (.iload 8, 2) := by decide +kernel
theorem dL_agree_62 : decode cL_agree 62 = .ok (.iconst 3, 1) := by decide +kernel
theorem dL_agree_63 : decode cL_agree 63 = .ok (.invokestatic 18, 3) := by decide +kernel
theorem dL_agree_66 : decode cL_agree 66 = .ok (.invokestatic 26, 3) := by decide +kernel
theorem dL_agree_69 : decode cL_agree 69 = .ok (.if_icmp .ne 50, 3) := by decide +kernel
theorem dL_agree_72 : decode cL_agree 72 = .ok (.aload_n 0, 1) := by decide +kernel
theorem dL_agree_73 : decode cL_agree 73 = .ok (.iload 8, 2) := by decide +kernel
theorem dL_agree_75 : decode cL_agree 75 = .ok (.bipush 6, 2) := by decide +kernel
theorem dL_agree_77 : decode cL_agree 77 = .ok (.invokevirtual 65, 3) := by decide +kernel
theorem dL_agree_80 : decode cL_agree 80 = .ok (.aload 6, 2) := by decide +kernel
theorem dL_agree_82 : decode cL_agree 82 = .ok (.iload 8, 2) := by decide +kernel
theorem dL_agree_84 : decode cL_agree 84 = .ok (.iaload, 1) := by decide +kernel
theorem dL_agree_85 : decode cL_agree 85 = .ok (.if_icmp .ne 34, 3) := by decide +kernel
theorem dL_agree_88 : decode cL_agree 88 = .ok (.aload_n 0, 1) := by decide +kernel
theorem dL_agree_89 : decode cL_agree 89 = .ok (.iload 8, 2) := by decide +kernel
theorem dL_agree_91 : decode cL_agree 91 = .ok (.bipush 8, 2) := by decide +kernel
theorem dL_agree_93 : decode cL_agree 93 = .ok (.invokevirtual 65, 3) := by decide +kernel
theorem dL_agree_96 : decode cL_agree 96 = .ok (.aload_n 3, 1) := by decide +kernel
theorem dL_agree_97 : decode cL_agree 97 = .ok (.iload 8, 2) := by decide +kernel
theorem dL_agree_99 : decode cL_agree 99 = .ok (.iaload, 1) := by decide +kernel
theorem dL_agree_100 : decode cL_agree 100 = .ok (.if_icmp .ne 19, 3) := by decide +kernel
theorem dL_agree_103 : decode cL_agree 103 = .ok (.aload_n 0, 1) := by decide +kernel
theorem dL_agree_104 : decode cL_agree 104 = .ok (.iload 8, 2) := by decide +kernel
theorem dL_agree_106 : decode cL_agree 106 = .ok (.bipush 9, 2) := by decide +kernel
theorem dL_agree_108 : decode cL_agree 108 = .ok (.invokevirtual 65, 3) := by decide +kernel
theorem dL_agree_111 : decode cL_agree 111 = .ok (.aload 4, 2) := by decide +kernel
theorem dL_agree_113 : decode cL_agree 113 = .ok (.iload 8, 2) := by decide +kernel
theorem dL_agree_115 : decode cL_agree 115 = .ok (.iaload, 1) := by decide +kernel
theorem dL_agree_116 : decode cL_agree 116 = .ok (.if_icmp .eq 5, 3) := by decide +kernel
theorem dL_agree_119 : decode cL_agree 119 = .ok (.iconst 0, 1) := by decide +kernel
theorem dL_agree_120 : decode cL_agree 120 = .ok (.ireturn, 1) := by decide +kernel
theorem dL_agree_121 : decode cL_agree 121 = .ok (.iconst 0, 1) := by decide +kernel
theorem dL_agree_122 : decode cL_agree 122 = .ok (.istore 9, 2) := by decide +kernel
theorem dL_agree_124 : decode cL_agree 124 = .ok (.iload 9, 2) := by decide +kernel
theorem dL_agree_126 : decode cL_agree 126 = .ok (.aload 6, 2) := by decide +kernel
theorem dL_agree_128 : decode cL_agree 128 = .ok (.iload 8, 2) := by decide +kernel
theorem dL_agree_130 : decode cL_agree 130 = .ok (.iaload, 1) := by decide +kernel
theorem dL_agree_131 : decode cL_agree 131 = .ok (.if_icmp .ge 63, 3) := by decide +kernel
theorem dL_agree_134 : decode cL_agree 134 = .ok (.aload_n 0, 1) := by decide +kernel
theorem dL_agree_135 : decode cL_agree 135 = .ok (.iload 8, 2) := by decide +kernel
theorem dL_agree_137 : decode cL_agree 137 = .ok (.iload 9, 2) := by decide +kernel
theorem dL_agree_139 : decode cL_agree 139 = .ok (.iconst 0, 1) := by decide +kernel
theorem dL_agree_140 : decode cL_agree 140 = .ok (.invokevirtual 68, 3) := by decide +kernel
theorem dL_agree_143 : decode cL_agree 143 = .ok (.aload 5, 2) := by decide +kernel
theorem dL_agree_145 : decode cL_agree 145 = .ok (.bipush 16, 2) := by decide +kernel
theorem dL_agree_147 : decode cL_agree 147 = .ok (.iload 8, 2) := by decide +kernel
theorem dL_agree_149 : decode cL_agree 149 = .ok (.imul, 1) := by decide +kernel
theorem dL_agree_150 : decode cL_agree 150 = .ok (.iload 9, 2) := by decide +kernel
theorem dL_agree_152 : decode cL_agree 152 = .ok (.iadd, 1) := by decide +kernel
theorem dL_agree_153 : decode cL_agree 153 = .ok (.iaload, 1) := by decide +kernel
theorem dL_agree_154 : decode cL_agree 154 = .ok (.bipush 64, 2) := by decide +kernel
theorem dL_agree_156 : decode cL_agree 156 = .ok (.idiv, 1) := by decide +kernel
theorem dL_agree_157 : decode cL_agree 157 = .ok (.if_icmp .ne 29, 3) := by decide +kernel
theorem dL_agree_160 : decode cL_agree 160 = .ok (.aload_n 0, 1) := by decide +kernel
theorem dL_agree_161 : decode cL_agree 161 = .ok (.iload 8, 2) := by decide +kernel
theorem dL_agree_163 : decode cL_agree 163 = .ok (.iload 9, 2) := by decide +kernel
theorem dL_agree_165 : decode cL_agree 165 = .ok (.iconst 1, 1) := by decide +kernel
theorem dL_agree_166 : decode cL_agree 166 = .ok (.invokevirtual 68, 3) := by decide +kernel
theorem dL_agree_169 : decode cL_agree 169 = .ok (.aload 5, 2) := by decide +kernel
theorem dL_agree_171 : decode cL_agree 171 = .ok (.bipush 16, 2) := by decide +kernel
theorem dL_agree_173 : decode cL_agree 173 = .ok (.iload 8, 2) := by decide +kernel
theorem dL_agree_175 : decode cL_agree 175 = .ok (.imul, 1) := by decide +kernel
theorem dL_agree_176 : decode cL_agree 176 = .ok (.iload 9, 2) := by decide +kernel
theorem dL_agree_178 : decode cL_agree 178 = .ok (.iadd, 1) := by decide +kernel
theorem dL_agree_179 : decode cL_agree 179 = .ok (.iaload, 1) := by decide +kernel
theorem dL_agree_180 : decode cL_agree 180 = .ok (.bipush 64, 2) := by decide +kernel
theorem dL_agree_182 : decode cL_agree 182 = .ok (.irem, 1) := by decide +kernel
theorem dL_agree_183 : decode cL_agree 183 = .ok (.if_icmp .eq 5, 3) := by decide +kernel
theorem dL_agree_186 : decode cL_agree 186 = .ok (.iconst 0, 1) := by decide +kernel
theorem dL_agree_187 : decode cL_agree 187 = .ok (.ireturn, 1) := by decide +kernel
theorem dL_agree_188 : decode cL_agree 188 = .ok (.iinc 9 1, 3) := by decide +kernel
theorem dL_agree_191 : decode cL_agree 191 = .ok (.goto (-67), 3) := by decide +kernel
theorem dL_agree_194 : decode cL_agree 194 = .ok (.iload 7, 2) := by decide +kernel
theorem dL_agree_196 : decode cL_agree 196 = .ok (.iconst 2, 1) := by decide +kernel
theorem dL_agree_197 : decode cL_agree 197 = .ok (.iload 8, 2) := by decide +kernel
theorem dL_agree_199 : decode cL_agree 199 = .ok (.imul, 1) := by decide +kernel
theorem dL_agree_200 : decode cL_agree 200 = .ok (.ishr, 1) := by decide +kernel
theorem dL_agree_201 : decode cL_agree 201 = .ok (.iconst 1, 1) := by decide +kernel
theorem dL_agree_202 : decode cL_agree 202 = .ok (.aload_n 1, 1) := by decide +kernel
theorem dL_agree_203 : decode cL_agree 203 = .ok (.iconst 0, 1) := by decide +kernel
theorem dL_agree_204 : decode cL_agree 204 = .ok (.iaload, 1) := by decide +kernel
theorem dL_agree_205 : decode cL_agree 205 = .ok (.ishl, 1) := by decide +kernel
theorem dL_agree_206 : decode cL_agree 206 = .ok (.invokestatic 30, 3) := by decide +kernel
theorem dL_agree_209 : decode cL_agree 209 = .ok (.istore 9, 2) := by decide +kernel
theorem dL_agree_211 : decode cL_agree 211 = .ok (.aload_n 0, 1) := by decide +kernel
theorem dL_agree_212 : decode cL_agree 212 = .ok (.iload 8, 2) := by decide +kernel
theorem dL_agree_214 : decode cL_agree 214 = .ok (.iload 9, 2) := by decide +kernel
theorem dL_agree_216 : decode cL_agree 216 = .ok (.iconst 0, 1) := by decide +kernel
theorem dL_agree_217 : decode cL_agree 217 = .ok (.invokevirtual 71, 3) := by decide +kernel
theorem dL_agree_220 : decode cL_agree 220 = .ok (.aload_n 2, 1) := by decide +kernel
theorem dL_agree_221 : decode cL_agree 221 = .ok (.bipush 16, 2) := by decide +kernel
theorem dL_agree_223 : decode cL_agree 223 = .ok (.iload 8, 2) := by decide +kernel
theorem dL_agree_225 : decode cL_agree 225 = .ok (.imul, 1) := by decide +kernel
theorem dL_agree_226 : decode cL_agree 226 = .ok (.iload 9, 2) := by decide +kernel
theorem dL_agree_228 : decode cL_agree 228 = .ok (.iadd, 1) := by decide +kernel
theorem dL_agree_229 : decode cL_agree 229 = .ok (.iaload, 1) := by decide +kernel
theorem dL_agree_230 : decode cL_agree 230 = .ok (.if_icmp .ne 50, 3) := by decide +kernel
theorem dL_agree_233 : decode cL_agree 233 = .ok (.aload_n 0, 1) := by decide +kernel
theorem dL_agree_234 : decode cL_agree 234 = .ok (.iload 8, 2) := by decide +kernel
theorem dL_agree_236 : decode cL_agree 236 = .ok (.iload 9, 2) := by decide +kernel
theorem dL_agree_238 : decode cL_agree 238 = .ok (.iconst 1, 1) := by decide +kernel
theorem dL_agree_239 : decode cL_agree 239 = .ok (.invokevirtual 71, 3) := by decide +kernel
theorem dL_agree_242 : decode cL_agree 242 = .ok (.aload_n 1, 1) := by decide +kernel
theorem dL_agree_243 : decode cL_agree 243 = .ok (.aload_n 2, 1) := by decide +kernel
theorem dL_agree_244 : decode cL_agree 244 = .ok (.iload 8, 2) := by decide +kernel
theorem dL_agree_246 : decode cL_agree 246 = .ok (.iload 9, 2) := by decide +kernel
theorem dL_agree_248 : decode cL_agree 248 = .ok (.aload_n 1, 1) := by decide +kernel
theorem dL_agree_249 : decode cL_agree 249 = .ok (.iconst 1, 1) := by decide +kernel
theorem dL_agree_250 : decode cL_agree 250 = .ok (.iaload, 1) := by decide +kernel
theorem dL_agree_251 : decode cL_agree 251 = .ok (.invokestatic 8, 3) := by decide +kernel
theorem dL_agree_254 : decode cL_agree 254 = .ok (.if_icmp .ne 26, 3) := by decide +kernel
theorem dL_agree_257 : decode cL_agree 257 = .ok (.aload_n 0, 1) := by decide +kernel
theorem dL_agree_258 : decode cL_agree 258 = .ok (.iload 8, 2) := by decide +kernel
theorem dL_agree_260 : decode cL_agree 260 = .ok (.iload 9, 2) := by decide +kernel
theorem dL_agree_262 : decode cL_agree 262 = .ok (.iconst 2, 1) := by decide +kernel
theorem dL_agree_263 : decode cL_agree 263 = .ok (.invokevirtual 71, 3) := by decide +kernel
theorem dL_agree_266 : decode cL_agree 266 = .ok (.aload 5, 2) := by decide +kernel
theorem dL_agree_268 : decode cL_agree 268 = .ok (.aload 6, 2) := by decide +kernel
theorem dL_agree_270 : decode cL_agree 270 = .ok (.iload 8, 2) := by decide +kernel
theorem dL_agree_272 : decode cL_agree 272 = .ok (.iload 9, 2) := by decide +kernel
theorem dL_agree_274 : decode cL_agree 274 = .ok (.invokestatic 59, 3) := by decide +kernel
theorem dL_agree_277 : decode cL_agree 277 = .ok (.if_icmp .eq 5, 3) := by decide +kernel
theorem dL_agree_280 : decode cL_agree 280 = .ok (.iconst 0, 1) := by decide +kernel
theorem dL_agree_281 : decode cL_agree 281 = .ok (.ireturn, 1) := by decide +kernel
theorem dL_agree_282 : decode cL_agree 282 = .ok (.iinc 8 1, 3) := by decide +kernel
theorem dL_agree_285 : decode cL_agree 285 = .ok (.goto (-282), 3) := by decide +kernel
theorem dL_agree_288 : decode cL_agree 288 = .ok (.iload 7, 2) := by decide +kernel
theorem dL_agree_290 : decode cL_agree 290 = .ok (.iconst 4, 1) := by decide +kernel
theorem dL_agree_291 : decode cL_agree 291 = .ok (.invokestatic 30, 3) := by decide +kernel
theorem dL_agree_294 : decode cL_agree 294 = .ok (.istore 8, 2) := by decide +kernel
theorem dL_agree_296 : decode cL_agree 296 = .ok (.aload_n 0, 1) := by decide +kernel
theorem dL_agree_297 : decode cL_agree 297 = .ok (.iload 8, 2) := by decide +kernel
theorem dL_agree_299 : decode cL_agree 299 = .ok (.iconst 5, 1) := by decide +kernel
theorem dL_agree_300 : decode cL_agree 300 = .ok (.invokevirtual 65, 3) := by decide +kernel
theorem dL_agree_303 : decode cL_agree 303 = .ok (.aload_n 1, 1) := by decide +kernel
theorem dL_agree_304 : decode cL_agree 304 = .ok (.aload_n 2, 1) := by decide +kernel
theorem dL_agree_305 : decode cL_agree 305 = .ok (.iload 8, 2) := by decide +kernel
theorem dL_agree_307 : decode cL_agree 307 = .ok (.invokestatic 73, 3) := by decide +kernel
theorem dL_agree_310 : decode cL_agree 310 = .ok (.if_icmp .eq 5, 3) := by decide +kernel
theorem dL_agree_313 : decode cL_agree 313 = .ok (.iconst 0, 1) := by decide +kernel
theorem dL_agree_314 : decode cL_agree 314 = .ok (.ireturn, 1) := by decide +kernel
theorem dL_agree_315 : decode cL_agree 315 = .ok (.aload_n 0, 1) := by decide +kernel
theorem dL_agree_316 : decode cL_agree 316 = .ok (.iconst 0, 1) := by decide +kernel
theorem dL_agree_317 : decode cL_agree 317 = .ok (.invokevirtual 76, 3) := by decide +kernel
theorem dL_agree_320 : decode cL_agree 320 = .ok (.aload_n 1, 1) := by decide +kernel
theorem dL_agree_321 : decode cL_agree 321 = .ok (.iconst 0, 1) := by decide +kernel
theorem dL_agree_322 : decode cL_agree 322 = .ok (.iaload, 1) := by decide +kernel
theorem dL_agree_323 : decode cL_agree 323 = .ok (.if_icmp .ne 122, 3) := by decide +kernel
theorem dL_agree_326 : decode cL_agree 326 = .ok (.aload_n 0, 1) := by decide +kernel
theorem dL_agree_327 : decode cL_agree 327 = .ok (.iconst 1, 1) := by decide +kernel
theorem dL_agree_328 : decode cL_agree 328 = .ok (.invokevirtual 76, 3) := by decide +kernel
theorem dL_agree_331 : decode cL_agree 331 = .ok (.aload_n 1, 1) := by decide +kernel
theorem dL_agree_332 : decode cL_agree 332 = .ok (.iconst 1, 1) := by decide +kernel
theorem dL_agree_333 : decode cL_agree 333 = .ok (.iaload, 1) := by decide +kernel
theorem dL_agree_334 : decode cL_agree 334 = .ok (.if_icmp .ne 111, 3) := by decide +kernel
theorem dL_agree_337 : decode cL_agree 337 = .ok (.aload_n 0, 1) := by decide +kernel
theorem dL_agree_338 : decode cL_agree 338 = .ok (.iconst 2, 1) := by decide +kernel
theorem dL_agree_339 : decode cL_agree 339 = .ok (.invokevirtual 76, 3) := by decide +kernel
theorem dL_agree_342 : decode cL_agree 342 = .ok (.aload_n 1, 1) := by decide +kernel
theorem dL_agree_343 : decode cL_agree 343 = .ok (.aload_n 2, 1) := by decide +kernel
theorem dL_agree_344 : decode cL_agree 344 = .ok (.aload_n 1, 1) := by decide +kernel
theorem dL_agree_345 : decode cL_agree 345 = .ok (.iconst 1, 1) := by decide +kernel
theorem dL_agree_346 : decode cL_agree 346 = .ok (.iaload, 1) := by decide +kernel
theorem dL_agree_347 : decode cL_agree 347 = .ok (.invokestatic 46, 3) := by decide +kernel
theorem dL_agree_350 : decode cL_agree 350 = .ok (.if_icmp .ne 95, 3) := by decide +kernel
theorem dL_agree_353 : decode cL_agree 353 = .ok (.aload_n 0, 1) := by decide +kernel
theorem dL_agree_354 : decode cL_agree 354 = .ok (.bipush 6, 2) := by decide +kernel
theorem dL_agree_356 : decode cL_agree 356 = .ok (.invokevirtual 76, 3) := by decide +kernel
theorem dL_agree_359 : decode cL_agree 359 = .ok (.aload_n 1, 1) := by decide +kernel
theorem dL_agree_360 : decode cL_agree 360 = .ok (.iconst 2, 1) := by decide +kernel
theorem dL_agree_361 : decode cL_agree 361 = .ok (.iaload, 1) := by decide +kernel
theorem dL_agree_362 : decode cL_agree 362 = .ok (.if_icmp .ne 83, 3) := by decide +kernel
theorem dL_agree_365 : decode cL_agree 365 = .ok (.aload_n 0, 1) := by decide +kernel
theorem dL_agree_366 : decode cL_agree 366 = .ok (.bipush 7, 2) := by decide +kernel
theorem dL_agree_368 : decode cL_agree 368 = .ok (.invokevirtual 76, 3) := by decide +kernel
theorem dL_agree_371 : decode cL_agree 371 = .ok (.aload_n 3, 1) := by decide +kernel
theorem dL_agree_372 : decode cL_agree 372 = .ok (.iconst 0, 1) := by decide +kernel
theorem dL_agree_373 : decode cL_agree 373 = .ok (.iaload, 1) := by decide +kernel
theorem dL_agree_374 : decode cL_agree 374 = .ok (.aload_n 3, 1) := by decide +kernel
theorem dL_agree_375 : decode cL_agree 375 = .ok (.iconst 1, 1) := by decide +kernel
theorem dL_agree_376 : decode cL_agree 376 = .ok (.iaload, 1) := by decide +kernel
theorem dL_agree_377 : decode cL_agree 377 = .ok (.iadd, 1) := by decide +kernel
theorem dL_agree_378 : decode cL_agree 378 = .ok (.aload_n 3, 1) := by decide +kernel
theorem dL_agree_379 : decode cL_agree 379 = .ok (.iconst 2, 1) := by decide +kernel
theorem dL_agree_380 : decode cL_agree 380 = .ok (.iaload, 1) := by decide +kernel
theorem dL_agree_381 : decode cL_agree 381 = .ok (.iadd, 1) := by decide +kernel
theorem dL_agree_382 : decode cL_agree 382 = .ok (.aload_n 3, 1) := by decide +kernel
theorem dL_agree_383 : decode cL_agree 383 = .ok (.iconst 3, 1) := by decide +kernel
theorem dL_agree_384 : decode cL_agree 384 = .ok (.iaload, 1) := by decide +kernel
theorem dL_agree_385 : decode cL_agree 385 = .ok (.iadd, 1) := by decide +kernel
theorem dL_agree_386 : decode cL_agree 386 = .ok (.if_icmp .ne 59, 3) := by decide +kernel
theorem dL_agree_389 : decode cL_agree 389 = .ok (.aload_n 0, 1) := by decide +kernel
theorem dL_agree_390 : decode cL_agree 390 = .ok (.bipush 8, 2) := by decide +kernel
theorem dL_agree_392 : decode cL_agree 392 = .ok (.invokevirtual 76, 3) := by decide +kernel
theorem dL_agree_395 : decode cL_agree 395 = .ok (.aload 4, 2) := by decide +kernel
