set_option maxRecDepth 20000 in
theorem ggL_agree_L_those : GoodIn wsL_agree wsL_those := goodIn_r _ [170, 171, 172, 169, 173] (by decide +kernel) (by decide +kernel)
set_option maxRecDepth 20000 in
theorem gL_agree_L_those : GoodIn wsL_agree (va_wsS RL 18 yL_those wsL_those) := goodIn_app (goodIn_of _ (by decide +kernel)) ggL_agree_L_those
set_option maxRecDepth 20000 in
theorem ggL_agree_L_ones : GoodIn wsL_agree wsL_ones := goodIn_r _ [176] (by decide +kernel) (by decide +kernel)
set_option maxRecDepth 20000 in
theorem gL_agree_L_ones : GoodIn wsL_agree (va_wsS RL 26 yL_ones wsL_ones) := goodIn_app (goodIn_of _ (by decide +kernel)) ggL_agree_L_ones
set_option maxRecDepth 20000 in
theorem ggL_agree_X6_product : GoodIn wsL_agree wsX6_product := goodIn_ca (goodIn_ca (goodIn_r _ [180, 6, 7, 4, 8, 9, 10, 11, 12, 13, 14, 15, 16, 17, 18, 19, 20, 21, 22, 23, 24, 25, 26, 27, 28, 29, 30, 31, 32, 33, 34, 35, 36, 37, 38, 39, 40, 41, 42, 43, 44, 45, 46, 47, 48, 49, 50, 51, 52, 53, 54, 55, 56, 57, 58, 59, 60, 61, 62, 63, 64, 65, 66, 67, 68, 69, 70, 71, 72, 73, 74, 75, 76, 77, 78, 79, 80, 81, 82, 83, 84, 85, 86, 87, 88, 89, 90, 91, 92, 93, 94, 95, 96, 97, 98, 99, 100, 101, 102, 103, 104, 105, 106, 107, 108, 109, 110, 111, 112, 113, 114, 115, 116, 117, 118, 119, 120, 121, 122, 123, 124, 181, 182, 183, 184, 159, 160, 161, 162, 185, 246, 247, 248, 249, 250, 251, 252, 253, 254, 255, 256, 257, 258, 259, 260, 261, 262, 263, 264, 265, 266, 267, 268, 269, 270, 271, 272, 273, 274, 275, 276] (by decide +kernel) (by decide +kernel)) (goodIn_sub (fun _ h => List.mem_cons_of_mem _ (List.mem_append_left _ (List.mem_append_right _ h))) (by decide +kernel))) (goodIn_sub (fun _ h => List.mem_cons_of_mem _ (List.mem_append_right _ h)) (by decide +kernel))
set_option maxRecDepth 20000 in
theorem gL_agree_X6_product : GoodIn wsL_agree (wsV RL 68 RX6 yX6_product wsX6_product) := goodIn_app (goodIn_of _ (by decide +kernel)) ggL_agree_X6_product
set_option maxRecDepth 20000 in
theorem ggL_agree_L_at : GoodIn wsL_agree wsL_at := goodIn_r _ [188] (by decide +kernel) (by decide +kernel)
set_option maxRecDepth 20000 in
theorem gL_agree_L_at : GoodIn wsL_agree (va_wsS RL 30 yL_at wsL_at) := goodIn_app (goodIn_of _ (by decide +kernel)) ggL_agree_L_at
set_option maxRecDepth 20000 in
theorem ggL_agree_X6_at : GoodIn wsL_agree wsX6_at := goodIn_ca (goodIn_ca (goodIn_r _ [192, 6, 7, 4, 8, 9, 10, 11, 12, 13, 193, 194, 195, 196, 25, 131, 132, 133, 46, 134, 135, 14, 15, 16, 17, 18, 19, 20, 21, 22, 23, 24, 26, 27, 28, 29, 30, 31, 32, 33, 34, 35, 36, 37, 38, 39, 40, 41, 42, 43, 44, 45, 47, 48, 49, 50, 51, 52, 53, 54, 55, 56, 57, 58, 59, 60, 61, 62, 63, 64, 65, 66, 67, 68, 69, 70, 71, 72, 73, 74, 75, 76, 77, 78, 79, 80, 81, 82, 83, 84, 85, 86, 87, 88, 89, 90, 91, 92, 93, 94, 95, 96, 97, 98, 99, 100, 101, 102, 103, 104, 105, 106, 107, 108, 109, 110, 111, 112, 113, 114, 115, 116, 117, 118, 119, 120, 121, 122, 123, 124, 197, 198, 199, 200, 201, 202, 203, 204, 205, 206, 207, 208, 209, 210, 211, 212, 213, 214, 215, 216, 217, 218, 246, 247, 248, 249, 250, 251, 252, 253, 254, 255, 256, 257, 258, 259, 260, 261, 262, 263, 264, 265, 266, 267, 268, 269, 270, 271, 272, 273, 274, 275, 276] (by decide +kernel) (by decide +kernel)) (goodIn_sub (fun _ h => List.mem_cons_of_mem _ (List.mem_append_left _ (List.mem_append_right _ h))) (by decide +kernel))) (goodIn_sub (fun _ h => List.mem_cons_of_mem _ (List.mem_append_right _ h)) (by decide +kernel))
set_option maxRecDepth 20000 in
theorem gL_agree_X6_at : GoodIn wsL_agree (wsV RL 71 RX6 yX6_at wsX6_at) := goodIn_app (goodIn_of _ (by decide +kernel)) ggL_agree_X6_at
set_option maxRecDepth 20000 in
theorem ggL_agree_L_decided : GoodIn wsL_agree wsL_decided := goodIn_r _ [173] (by decide +kernel) (by decide +kernel)
set_option maxRecDepth 20000 in
theorem gL_agree_L_decided : GoodIn wsL_agree (va_wsS RL 8 yL_decided wsL_decided) := goodIn_app (goodIn_of _ (by decide +kernel)) ggL_agree_L_decided
set_option maxRecDepth 20000 in
theorem ggL_agree_L_answer : GoodIn wsL_agree wsL_answer := goodIn_r _ [221] (by decide +kernel) (by decide +kernel)
set_option maxRecDepth 20000 in
theorem gL_agree_L_answer : GoodIn wsL_agree (va_wsS RL 59 yL_answer wsL_answer) := goodIn_app (goodIn_of _ (by decide +kernel)) ggL_agree_L_answer
set_option maxRecDepth 20000 in
theorem ggL_agree_L_primes : GoodIn wsL_agree wsL_primes := goodIn_r _ [224, 167, 168, 169, 170, 171, 172, 173, 225, 226, 227, 228, 229, 230] (by decide +kernel) (by decide +kernel)
set_option maxRecDepth 20000 in
theorem gL_agree_L_primes : GoodIn wsL_agree (va_wsS RL 73 yL_primes wsL_primes) := goodIn_app (goodIn_of _ (by decide +kernel)) ggL_agree_L_primes
