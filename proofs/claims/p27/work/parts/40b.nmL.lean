set_option maxRecDepth 20000 in
theorem ggL_undecided_L_decided : GoodIn wsL_undecided wsL_decided := goodIn_r _ [4] (by decide +kernel) (by decide +kernel)
set_option maxRecDepth 20000 in
theorem gL_undecided_L_decided : GoodIn wsL_undecided (va_wsS RL 8 yL_decided wsL_decided) := goodIn_app (goodIn_of _ (by decide +kernel)) ggL_undecided_L_decided
set_option maxRecDepth 20000 in
theorem ggL_those_L_decided : GoodIn wsL_those wsL_decided := goodIn_r _ [4] (by decide +kernel) (by decide +kernel)
set_option maxRecDepth 20000 in
theorem gL_those_L_decided : GoodIn wsL_those (va_wsS RL 8 yL_decided wsL_decided) := goodIn_app (goodIn_of _ (by decide +kernel)) ggL_those_L_decided
set_option maxRecDepth 20000 in
theorem ggL_prime_L_rows : GoodIn wsL_prime wsL_rows := goodIn_r _ [4] (by decide +kernel) (by decide +kernel)
set_option maxRecDepth 20000 in
theorem gL_prime_L_rows : GoodIn wsL_prime (va_wsS RL 14 yL_rows wsL_rows) := goodIn_app (goodIn_of _ (by decide +kernel)) ggL_prime_L_rows
set_option maxRecDepth 20000 in
theorem ggL_primes_L_those : GoodIn wsL_primes wsL_those := goodIn_r _ [4, 5, 6, 3, 7] (by decide +kernel) (by decide +kernel)
set_option maxRecDepth 20000 in
theorem gL_primes_L_those : GoodIn wsL_primes (va_wsS RL 18 yL_those wsL_those) := goodIn_app (goodIn_of _ (by decide +kernel)) ggL_primes_L_those
set_option maxRecDepth 20000 in
theorem ggL_primes_L_prime : GoodIn wsL_primes wsL_prime := goodIn_r _ [10, 11, 12, 3, 13] (by decide +kernel) (by decide +kernel)
set_option maxRecDepth 20000 in
theorem gL_primes_L_prime : GoodIn wsL_primes (va_wsS RL 22 yL_prime wsL_prime) := goodIn_app (goodIn_of _ (by decide +kernel)) ggL_primes_L_prime
set_option maxRecDepth 20000 in
theorem ggL_cover_L_those : GoodIn wsL_cover wsL_those := goodIn_r _ [4, 5, 6, 3, 7] (by decide +kernel) (by decide +kernel)
set_option maxRecDepth 20000 in
theorem gL_cover_L_those : GoodIn wsL_cover (va_wsS RL 18 yL_those wsL_those) := goodIn_app (goodIn_of _ (by decide +kernel)) ggL_cover_L_those
set_option maxRecDepth 20000 in
theorem ggL_cover_L_prime : GoodIn wsL_cover wsL_prime := goodIn_r _ [10, 11, 12, 3, 13] (by decide +kernel) (by decide +kernel)
set_option maxRecDepth 20000 in
theorem gL_cover_L_prime : GoodIn wsL_cover (va_wsS RL 22 yL_prime wsL_prime) := goodIn_app (goodIn_of _ (by decide +kernel)) ggL_cover_L_prime
set_option maxRecDepth 20000 in
theorem ggL_cover_L_rows : GoodIn wsL_cover wsL_rows := goodIn_r _ [13] (by decide +kernel) (by decide +kernel)
set_option maxRecDepth 20000 in
theorem gL_cover_L_rows : GoodIn wsL_cover (va_wsS RL 14 yL_rows wsL_rows) := goodIn_app (goodIn_of _ (by decide +kernel)) ggL_cover_L_rows
set_option maxRecDepth 20000 in
theorem ggL_cover_L_ones : GoodIn wsL_cover wsL_ones := goodIn_r _ [16] (by decide +kernel) (by decide +kernel)
set_option maxRecDepth 20000 in
theorem gL_cover_L_ones : GoodIn wsL_cover (va_wsS RL 26 yL_ones wsL_ones) := goodIn_app (goodIn_of _ (by decide +kernel)) ggL_cover_L_ones
set_option maxRecDepth 20000 in
theorem ggL_changes_L_at : GoodIn wsL_changes wsL_at := goodIn_r _ [4] (by decide +kernel) (by decide +kernel)
set_option maxRecDepth 20000 in
theorem gL_changes_L_at : GoodIn wsL_changes (va_wsS RL 30 yL_at wsL_at) := goodIn_app (goodIn_of _ (by decide +kernel)) ggL_changes_L_at
set_option maxRecDepth 20000 in
theorem ggL_changes_X6_set : GoodIn wsL_changes wsX6_set := goodIn_ca (goodIn_ca (goodIn_r _ [9, 10, 11, 12, 8, 13, 14, 15, 16, 17, 18, 19, 20, 21, 22, 23, 24, 25, 26, 27, 28, 29, 30, 31, 32, 33, 34, 35, 36, 37, 38, 39, 40, 41, 42, 43, 44, 45, 46, 47, 48, 49, 50, 51, 52, 53, 54, 55, 56, 57, 58, 59, 60, 61, 62, 63, 64, 65, 66, 67, 68, 69, 70, 71, 72, 73, 74, 75, 76, 77, 78, 79, 80, 81, 82, 83, 84, 85, 86, 87, 112, 113, 114, 115, 116, 117, 118, 119, 120, 121, 122, 123, 124, 125, 126, 127, 128] (by decide +kernel) (by decide +kernel)) (goodIn_sub (fun _ h => List.mem_cons_of_mem _ (List.mem_append_left _ (List.mem_append_right _ h))) (by decide +kernel))) (goodIn_sub (fun _ h => List.mem_cons_of_mem _ (List.mem_append_right _ h)) (by decide +kernel))
set_option maxRecDepth 20000 in
theorem gL_changes_X6_set : GoodIn wsL_changes (wsV RL 34 RX6 yX6_set wsX6_set) := goodIn_app (goodIn_of _ (by decide +kernel)) ggL_changes_X6_set
set_option maxRecDepth 20000 in
theorem ggL_changes_X6_invert : GoodIn wsL_changes wsX6_invert := goodIn_ca (goodIn_r _ [91, 10, 11, 12, 8, 13, 14, 15, 16, 17, 18, 48, 49, 50, 51, 52, 53, 54, 55, 56, 57, 58, 59, 60, 61, 62, 26, 63, 64, 65, 66, 67, 68, 69, 70, 71, 72, 47, 42, 73, 74, 75, 76, 77, 78, 79, 28, 80, 81, 82, 92, 93, 94, 95, 96, 39, 40, 41, 97, 98, 99, 100, 101, 102, 103, 112, 113, 114, 115, 116, 117, 118, 127, 128, 119, 120, 121, 122, 123, 124, 125, 126] (by decide +kernel) (by decide +kernel)) (goodIn_sub (fun _ h => List.mem_cons_of_mem _ (List.mem_append_left _ (List.mem_append_right _ h))) (by decide +kernel))
set_option maxRecDepth 20000 in
theorem gL_changes_X6_invert : GoodIn wsL_changes (wsV RL 40 RX6 yX6_invert wsX6_invert) := goodIn_app (goodIn_of _ (by decide +kernel)) ggL_changes_X6_invert
set_option maxRecDepth 20000 in
theorem ggL_changes_X6_join : GoodIn wsL_changes wsX6_join := goodIn_ca (goodIn_ca (goodIn_r _ [107, 32, 33, 10, 11, 12, 8, 13, 14, 15, 16, 17, 18, 48, 49, 50, 51, 52, 53, 54, 55, 56, 57, 58, 59, 60, 61, 62, 26, 63, 64, 65, 66, 67, 68, 69, 70, 71, 72, 47, 42, 73, 74, 75, 76, 77, 78, 79, 28, 80, 81, 82, 108, 109, 110, 111, 38, 39, 40, 41, 43, 44, 45, 46, 96, 97, 98, 99, 100, 101, 102, 103, 112, 113, 114, 115, 116, 117, 118, 127, 128, 119, 120, 121, 122, 123, 124, 125, 126] (by decide +kernel) (by decide +kernel)) (goodIn_sub (fun _ h => List.mem_cons_of_mem _ (List.mem_append_right _ h)) (by decide +kernel))) (goodIn_sub (fun _ h => List.mem_cons_of_mem _ (List.mem_append_left _ (List.mem_append_right _ h))) (by decide +kernel))
set_option maxRecDepth 20000 in
theorem gL_changes_X6_join : GoodIn wsL_changes (wsV RL 43 RX6 yX6_join wsX6_join) := goodIn_app (goodIn_of _ (by decide +kernel)) ggL_changes_X6_join
set_option maxRecDepth 20000 in
theorem ggL_forgets_L_at : GoodIn wsL_forgets wsL_at := goodIn_r _ [4] (by decide +kernel) (by decide +kernel)
set_option maxRecDepth 20000 in
theorem gL_forgets_L_at : GoodIn wsL_forgets (va_wsS RL 30 yL_at wsL_at) := goodIn_app (goodIn_of _ (by decide +kernel)) ggL_forgets_L_at
set_option maxRecDepth 20000 in
theorem ggL_forgets_L_undecided : GoodIn wsL_forgets wsL_undecided := goodIn_r _ [7, 8, 9, 3, 10] (by decide +kernel) (by decide +kernel)
set_option maxRecDepth 20000 in
theorem gL_forgets_L_undecided : GoodIn wsL_forgets (va_wsS RL 46 yL_undecided wsL_undecided) := goodIn_app (goodIn_of _ (by decide +kernel)) ggL_forgets_L_undecided
set_option maxRecDepth 20000 in
theorem ggL_forgets_X6_pass : GoodIn wsL_forgets wsX6_pass := goodIn_ca (goodIn_r _ [15, 16, 17, 18, 14, 19, 20, 21, 22, 23, 24, 25, 26, 27, 28, 29, 30, 31, 32, 33, 34, 35, 36, 37, 38, 39, 40, 41, 42, 43, 44, 45, 46, 47, 48, 49, 50, 51, 52, 53, 54, 55, 56, 57, 58, 59, 60, 61, 62, 63, 64, 65, 66, 67, 68, 69, 70, 71, 72, 73, 74, 75, 76, 77, 78, 79, 80, 81, 82, 83, 84, 85, 86, 87, 88, 89, 90, 91, 92, 93, 94, 95, 96, 97, 98, 99, 122, 123, 124, 125, 126, 127, 128, 129, 130, 131, 132, 133, 134, 135, 136, 137, 138] (by decide +kernel) (by decide +kernel)) (goodIn_sub (fun _ h => List.mem_cons_of_mem _ (List.mem_append_left _ (List.mem_append_left _ (List.mem_append_right _ h)))) (by decide +kernel))
set_option maxRecDepth 20000 in
theorem gL_forgets_X6_pass : GoodIn wsL_forgets (wsV RL 50 RX6 yX6_pass wsX6_pass) := goodIn_app (goodIn_of _ (by decide +kernel)) ggL_forgets_X6_pass
set_option maxRecDepth 20000 in
theorem ggL_forgets_L_ones : GoodIn wsL_forgets wsL_ones := goodIn_r _ [102] (by decide +kernel) (by decide +kernel)
set_option maxRecDepth 20000 in
theorem gL_forgets_L_ones : GoodIn wsL_forgets (va_wsS RL 26 yL_ones wsL_ones) := goodIn_app (goodIn_of _ (by decide +kernel)) ggL_forgets_L_ones
set_option maxRecDepth 20000 in
theorem ggL_forgets_X6_forget : GoodIn wsL_forgets wsX6_forget := goodIn_ca (goodIn_ca (goodIn_r _ [106, 107, 108, 16, 109, 110, 111, 14, 112, 113, 114, 115, 66, 67, 37, 68, 58, 22, 23, 24, 25, 26, 27, 28, 29, 30, 31, 32, 33, 34, 35, 36, 38, 39, 40, 41, 42, 43, 44, 45, 46, 47, 48, 49, 50, 51, 52, 53, 54, 55, 56, 57, 59, 60, 116, 70, 71, 72, 73, 74, 75, 76, 117, 78, 79, 80, 81, 82, 83, 84, 85, 86, 87, 88, 89, 90, 91, 92, 122, 123, 124, 125, 126, 127, 128, 129, 130, 131, 132, 133, 134, 135, 136, 137, 138] (by decide +kernel) (by decide +kernel)) (goodIn_sub (fun _ h => List.mem_cons_of_mem _ (List.mem_append_left _ (List.mem_append_right _ h))) (by decide +kernel))) (goodIn_sub (fun _ h => List.mem_cons_of_mem _ (List.mem_append_right _ h)) (by decide +kernel))
set_option maxRecDepth 20000 in
theorem gL_forgets_X6_forget : GoodIn wsL_forgets (wsV RL 53 RX6 yX6_forget wsX6_forget) := goodIn_app (goodIn_of _ (by decide +kernel)) ggL_forgets_X6_forget
set_option maxRecDepth 20000 in
theorem ggL_forgets_X6_remember : GoodIn wsL_forgets wsX6_remember := goodIn_ca (goodIn_ca (goodIn_r _ [121, 107, 108, 16, 109, 110, 111, 14, 112, 113, 114, 115, 66, 67, 37, 68, 58, 22, 23, 24, 25, 26, 27, 28, 29, 30, 31, 32, 33, 34, 35, 36, 38, 39, 40, 41, 42, 43, 44, 45, 46, 47, 48, 49, 50, 51, 52, 53, 54, 55, 56, 57, 59, 60, 116, 70, 71, 72, 73, 74, 75, 76, 117, 78, 79, 80, 81, 82, 83, 84, 85, 86, 87, 88, 89, 90, 91, 92, 122, 123, 124, 125, 126, 127, 128, 129, 130, 131, 132, 133, 134, 135, 136, 137, 138] (by decide +kernel) (by decide +kernel)) (goodIn_sub (fun _ h => List.mem_cons_of_mem _ (List.mem_append_left _ (List.mem_append_right _ h))) (by decide +kernel))) (goodIn_sub (fun _ h => List.mem_cons_of_mem _ (List.mem_append_right _ h)) (by decide +kernel))
set_option maxRecDepth 20000 in
theorem gL_forgets_X6_remember : GoodIn wsL_forgets (wsV RL 56 RX6 yX6_remember wsX6_remember) := goodIn_app (goodIn_of _ (by decide +kernel)) ggL_forgets_X6_remember
set_option maxRecDepth 20000 in
theorem ggL_asks_L_at : GoodIn wsL_asks wsL_at := goodIn_r _ [4] (by decide +kernel) (by decide +kernel)
set_option maxRecDepth 20000 in
theorem gL_asks_L_at : GoodIn wsL_asks (va_wsS RL 30 yL_at wsL_at) := goodIn_app (goodIn_of _ (by decide +kernel)) ggL_asks_L_at
set_option maxRecDepth 20000 in
theorem ggL_asks_L_answer : GoodIn wsL_asks wsL_answer := goodIn_r _ [7] (by decide +kernel) (by decide +kernel)
set_option maxRecDepth 20000 in
theorem gL_asks_L_answer : GoodIn wsL_asks (va_wsS RL 59 yL_answer wsL_answer) := goodIn_app (goodIn_of _ (by decide +kernel)) ggL_asks_L_answer
set_option maxRecDepth 20000 in
theorem ggL_asks_L_decided : GoodIn wsL_asks wsL_decided := goodIn_r _ [10] (by decide +kernel) (by decide +kernel)
set_option maxRecDepth 20000 in
theorem gL_asks_L_decided : GoodIn wsL_asks (va_wsS RL 8 yL_decided wsL_decided) := goodIn_app (goodIn_of _ (by decide +kernel)) ggL_asks_L_decided
set_option maxRecDepth 20000 in
theorem ggL_asks_X6_ask : GoodIn wsL_asks wsX6_ask := goodIn_ca (goodIn_r _ [15, 16, 17, 18, 19, 20, 14, 21, 22, 23, 24, 25, 26, 27, 28, 29, 30, 31, 32, 33, 34, 35, 36, 37, 38, 39, 40, 41, 42, 43, 44, 45, 46, 47, 48, 49, 50, 51, 52, 53, 54, 55, 56, 57, 58, 59, 60, 61, 62, 63, 64, 65, 66, 67, 68, 69, 70, 71, 72, 73, 74, 75, 76, 77, 78, 79, 80, 81, 82, 83, 84, 85, 86, 87, 88, 89, 90, 91, 92, 93, 94, 95, 96, 97, 98, 99, 100, 101, 102, 103, 104, 105, 106, 107, 108, 109, 110, 111, 112, 113, 114, 115, 116, 117, 118, 119, 120, 121, 122, 123, 124, 125, 126, 127, 128, 129, 130, 131, 132, 133, 134, 135, 136, 137, 138, 139, 140, 141, 142, 143, 144, 145, 146, 147, 148, 149, 150, 151, 152, 153, 154, 155, 156, 157, 158, 159, 160, 161, 162, 163, 164, 165, 166, 167, 168, 169, 170, 171, 172, 173, 174, 175, 176, 177, 178, 179, 180, 181, 182, 183, 184, 185, 186, 187, 188, 189, 190, 191, 192, 193, 194, 195, 196, 197, 198, 199, 200, 201, 202, 203, 204, 205, 206, 207, 208, 209, 210, 211, 212, 213, 214, 215] (by decide +kernel) (by decide +kernel)) (goodIn_sub (fun _ h => List.mem_cons_of_mem _ (List.mem_append_right _ h)) (by decide +kernel))
set_option maxRecDepth 20000 in
theorem gL_asks_X6_ask : GoodIn wsL_asks (wsV RL 62 RX6 yX6_ask wsX6_ask) := goodIn_app (goodIn_of _ (by decide +kernel)) ggL_asks_X6_ask
set_option maxRecDepth 20000 in
theorem ggL_agree_X6_output : GoodIn wsL_agree wsX6_output := goodIn_ca (goodIn_ca (goodIn_r _ [5, 6, 7, 4, 8, 9, 10, 11, 12, 13, 14, 15, 16, 17, 18, 19, 20, 21, 22, 23, 24, 25, 26, 27, 28, 29, 30, 31, 32, 33, 34, 35, 36, 37, 38, 39, 40, 41, 42, 43, 44, 45, 46, 47, 48, 49, 50, 51, 52, 53, 54, 55, 56, 57, 58, 59, 60, 61, 62, 63, 64, 65, 66, 67, 68, 69, 70, 71, 72, 73, 74, 75, 76, 77, 78, 79, 80, 81, 82, 83, 84, 85, 86, 87, 88, 89, 90, 91, 92, 93, 94, 95, 96, 97, 98, 99, 100, 101, 102, 103, 104, 105, 106, 107, 108, 109, 110, 111, 112, 113, 114, 115, 116, 117, 118, 119, 120, 121, 122, 123, 124, 125, 126, 127, 128, 129, 130, 131, 132, 133, 134, 135, 136, 137, 138, 139, 140, 141, 142, 143, 144, 145, 146, 147, 148, 149, 150, 151, 152, 153, 154, 155, 156, 157, 158, 159, 160, 161, 162, 163, 164, 165, 166, 246, 247, 248, 249, 250, 251, 252, 253, 254, 255, 256, 257, 258, 259, 260, 261, 262, 263, 264, 265, 266, 267, 268, 269, 270, 271, 272, 273, 274, 275, 276] (by decide +kernel) (by decide +kernel)) (goodIn_sub (fun _ h => List.mem_cons_of_mem _ (List.mem_append_left _ (List.mem_append_right _ h))) (by decide +kernel))) (goodIn_sub (fun _ h => List.mem_cons_of_mem _ (List.mem_append_right _ h)) (by decide +kernel))
set_option maxRecDepth 20000 in
theorem gL_agree_X6_output : GoodIn wsL_agree (wsV RL 65 RX6 yX6_output wsX6_output) := goodIn_app (goodIn_of _ (by decide +kernel)) ggL_agree_X6_output
set_option maxRecDepth 20000 in
theorem ggL_agree_L_those : GoodIn wsL_agree wsL_those := goodIn_r _ [170, 171, 172, 169, 173] (by decide +kernel) (by decide +kernel)
set_option maxRecDepth 20000 in
theorem gL_agree_L_those : GoodIn wsL_agree (va_wsS RL 18 yL_those wsL_those) := goodIn_app (goodIn_of _ (by decide +kernel)) ggL_agree_L_those
set_option maxRecDepth 20000 in
theorem ggL_agree_L_ones : GoodIn wsL_agree wsL_ones := goodIn_r _ [176] (by decide +kernel) (by decide +kernel)
set_option maxRecDepth 20000 in
theorem gL_agree_L_ones : GoodIn wsL_agree (va_wsS RL 26 yL_ones wsL_ones) := goodIn_app (goodIn_of _ (by decide +kernel)) ggL_agree_L_ones
set_option maxRecDepth 20000 in
theorem ggL_agree_X6_product : GoodIn wsL_agree wsX6_product := goodIn_ca (goodIn_ca (goodIn_r _ [180, 6, 7, 4, 8, 9, 10, 11, 12, 13, 14, 15, 16, 17, 18, 19, 20, 21, 22, 23, 24, 25, 26, 27, 28, 29, 30, 31, 32, 33, 34, 35, 36, 37, 38, 39, 40, 41, 42, 43, 44, 45, 46, 47, 48, 49, 50, 51, 52, 53, 54, 55, 56, 57, 58, 59, 60, 61, 62, 63, 64, 65, 66, 67, 68, 69, 70, 71, 72, 73, 74, 75, 76, 77, 78, 79, 80, 81, 82, 83, 84, 85, 86, 87, 88, 89, 90, 91, 92, 93, 94, 95, 96, 97, 98, 99, 100, 101, 102, 103, 104, 105, 106, 107, 108, 109, 110, 111, 112, 113, 114, 115, 116, 117, 118, 119, 120, 121, 122, 123, 124, 181, 182, 183, 184, 159, 160, 161, 162, 185, 246, 247, 248, 249, 250, 251, 252, 253, 254, 255, 256, 257, 258, 259, 260, 261, 262, 263, 264, 265, 266, 267, 268, 269, 270, 271, 272, 273, 274, 275, 276] (by decide +kernel) (by decide +kernel)) (goodIn_sub (fun _ h => List.mem_cons_of_mem _ (List.mem_append_left _ (List.mem_append_right _ h))) (by decide +kernel))) (goodIn_sub (fun _ h => List.mem_cons_of_mem _ (List.mem_append_right _ h)) (by decide +kernel))
set_option maxRecDepth 20000 in
theorem gL_agree_X6_product : GoodIn wsL_agree (wsV RL 68 RX6 yX6_product wsX6_product) := goodIn_app (goodIn_of _ (by decide +kernel)) ggL_agree_X6_product
set_option maxRecDepth 20000 in
theorem ggL_agree_L_at : GoodIn wsL_agree wsL_at := goodIn_r _ [188] (by decide +kernel) (by decide +kernel)
set_option maxRecDepth 20000 in
theorem gL_agree_L_at : GoodIn wsL_agree (va_wsS RL 30 yL_at wsL_at) := goodIn_app (goodIn_of _ (by decide +kernel)) ggL_agree_L_at
set_option maxRecDepth 20000 in
theorem ggL_agree_X6_at : GoodIn wsL_agree wsX6_at := goodIn_ca (goodIn_ca (goodIn_r _ [192, 6, 7, 4, 8, 9, 10, 11, 12, 13, 193, 194, 195, 196, 25, 131, 132, 133, 46, 134, 135, 14, 15, 16, 17, 18, 19, 20, 21, 22, 23, 24, 26, 27, 28, 29, 30, 31, 32, 33, 34, 35, 36, 37, 38, 39, 40, 41, 42, 43, 44, 45, 47, 48, 49, 50, 51, 52, 53, 54, 55, 56, 57, 58, 59, 60, 61, 62, 63, 64, 65, 66, 67, 68, 69, 70, 71, 72, 73, 74, 75, 76, 77, 78, 79, 80, 81, 82, 83, 84, 85, 86, 87, 88, 89, 90, 91, 92, 93, 94, 95, 96, 97, 98, 99, 100, 101, 102, 103, 104, 105, 106, 107, 108, 109, 110, 111, 112, 113, 114, 115, 116, 117, 118, 119, 120, 121, 122, 123, 124, 197, 198, 199, 200, 201, 202, 203, 204, 205, 206, 207, 208, 209, 210, 211, 212, 213, 214, 215, 216, 217, 218, 246, 247, 248, 249, 250, 251, 252, 253, 254, 255, 256, 257, 258, 259, 260, 261, 262, 263, 264, 265, 266, 267, 268, 269, 270, 271, 272, 273, 274, 275, 276] (by decide +kernel) (by decide +kernel)) (goodIn_sub (fun _ h => List.mem_cons_of_mem _ (List.mem_append_left _ (List.mem_append_right _ h))) (by decide +kernel))) (goodIn_sub (fun _ h => List.mem_cons_of_mem _ (List.mem_append_right _ h)) (by decide +kernel))
set_option maxRecDepth 20000 in
theorem gL_agree_X6_at : GoodIn wsL_agree (wsV RL 71 RX6 yX6_at wsX6_at) := goodIn_app (goodIn_of _ (by decide +kernel)) ggL_agree_X6_at
set_option maxRecDepth 20000 in
theorem ggL_agree_L_decided : GoodIn wsL_agree wsL_decided := goodIn_r _ [173] (by decide +kernel) (by decide +kernel)
set_option maxRecDepth 20000 in
theorem gL_agree_L_decided : GoodIn wsL_agree (va_wsS RL 8 yL_decided wsL_decided) := goodIn_app (goodIn_of _ (by decide +kernel)) ggL_agree_L_decided
set_option maxRecDepth 20000 in
theorem ggL_agree_L_answer : GoodIn wsL_agree wsL_answer := goodIn_r _ [221] (by decide +kernel) (by decide +kernel)
set_option maxRecDepth 20000 in
theorem gL_agree_L_answer : GoodIn wsL_agree (va_wsS RL 59 yL_answer wsL_answer) := goodIn_app (goodIn_of _ (by decide +kernel)) ggL_agree_L_answer
set_option maxRecDepth 20000 in
theorem ggL_agree_L_primes : GoodIn wsL_agree wsL_primes := goodIn_r _ [224, 167, 168, 169, 170, 171, 172, 173, 225, 226, 227, 228, 229, 230] (by decide +kernel) (by decide +kernel)
set_option maxRecDepth 20000 in
theorem gL_agree_L_primes : GoodIn wsL_agree (va_wsS RL 73 yL_primes wsL_primes) := goodIn_app (goodIn_of _ (by decide +kernel)) ggL_agree_L_primes
set_option maxRecDepth 20000 in
theorem ggL_agree_X6_count : GoodIn wsL_agree wsX6_count := goodIn_ca (goodIn_r _ [234, 14, 15, 4, 16, 17, 18, 19, 20, 21, 22, 23, 24, 25, 26, 27, 28, 29, 30, 31, 32, 33, 34, 35, 36, 37, 38, 39, 40, 41, 42, 43, 44, 45, 46, 47, 48, 12, 13, 49, 50, 51, 52, 53, 54, 55, 56, 57, 58, 59, 60, 61, 62, 63, 64, 65, 66, 67, 68, 69, 70, 71, 72, 73, 74, 75, 76, 77, 78, 79, 80, 81, 82, 83, 84, 85, 86, 87, 88, 89, 90, 91, 92, 93, 94, 95, 96, 97, 98, 99, 100, 101, 102, 103, 104, 105, 106, 107, 108, 109, 110, 111, 112, 113, 114, 115, 116, 117, 118, 119, 120, 121, 122, 123, 124, 235, 236, 237, 238, 239, 240, 241, 242, 246, 247, 248, 249, 250, 251, 252, 253, 254, 255, 256, 257, 258, 259, 260, 261, 262, 263, 264, 265, 266, 267, 268, 269, 270, 271, 272, 273, 274, 275, 276, 277, 278] (by decide +kernel) (by decide +kernel)) (goodIn_sub (fun _ h => List.mem_cons_of_mem _ (List.mem_append_right _ h)) (by decide +kernel))
set_option maxRecDepth 20000 in
theorem gL_agree_X6_count : GoodIn wsL_agree (wsV RL 76 RX6 yX6_count wsX6_count) := goodIn_app (goodIn_of _ (by decide +kernel)) ggL_agree_X6_count
set_option maxRecDepth 20000 in
theorem ggL_agree_L_undecided : GoodIn wsL_agree wsL_undecided := goodIn_r _ [245, 171, 172, 169, 173] (by decide +kernel) (by decide +kernel)
set_option maxRecDepth 20000 in
theorem gL_agree_L_undecided : GoodIn wsL_agree (va_wsS RL 46 yL_undecided wsL_undecided) := goodIn_app (goodIn_of _ (by decide +kernel)) ggL_agree_L_undecided
set_option maxRecDepth 20000 in
theorem ggL_law_X6_init : GoodIn wsL_law wsX6_init := goodIn_r _ [6, 7, 8, 9, 10, 11, 12, 13, 14, 15, 16, 17, 18, 19, 20, 21, 22, 23, 24, 25, 26, 27, 28, 29, 30, 31, 32, 33, 34, 35, 36, 37, 3, 38, 39, 40, 41, 42, 43, 44, 45, 46, 47, 48, 49, 50, 51, 52, 53, 54, 55, 56, 57, 58, 59, 60, 61, 62, 63, 64, 65, 66, 67, 68, 69, 70, 71, 72, 73, 74, 75, 76, 77, 78, 414, 415, 416, 417, 418, 419, 420, 421, 407, 408, 409, 410, 411, 412, 413, 422, 423, 424, 425, 426, 427, 428, 429, 430, 431, 432, 433, 434, 435, 436, 437, 438, 439, 440, 441] (by decide +kernel) (by decide +kernel)
set_option maxRecDepth 20000 in
theorem gL_law_X6_init : GoodIn wsL_law (wsX6_init) := ggL_law_X6_init
set_option maxRecDepth 20000 in
theorem ggL_law_L_cell : GoodIn wsL_law wsL_cell := goodIn_r _ [82, 83] (by decide +kernel) (by decide +kernel)
set_option maxRecDepth 20000 in
theorem gL_law_L_cell : GoodIn wsL_law (va_wsS RL 80 yL_cell wsL_cell) := goodIn_app (goodIn_of _ (by decide +kernel)) ggL_law_L_cell
set_option maxRecDepth 20000 in
theorem ggL_law_L_at : GoodIn wsL_law wsL_at := goodIn_r _ [86] (by decide +kernel) (by decide +kernel)
set_option maxRecDepth 20000 in
theorem gL_law_L_at : GoodIn wsL_law (va_wsS RL 30 yL_at wsL_at) := goodIn_app (goodIn_of _ (by decide +kernel)) ggL_law_L_at
set_option maxRecDepth 20000 in
theorem ggL_law_X6_begin : GoodIn wsL_law wsX6_begin := goodIn_ca (goodIn_r _ [90, 13, 91, 92, 2, 93, 94, 95, 96, 97, 98, 99, 17, 31, 100, 101, 102, 16, 103, 104, 44, 43, 11, 12, 105, 106, 107, 108, 32, 33, 34, 8, 9, 35, 36, 37, 3, 38, 39, 109, 110, 111, 112, 69, 70, 113, 114, 65, 66, 67, 68, 71, 72, 73, 74, 75, 76, 77, 78, 407, 408, 409, 410, 411, 412, 413, 414, 415, 416, 417, 418, 419, 420, 421, 422, 423] (by decide +kernel) (by decide +kernel)) (goodIn_sub (fun _ h => List.mem_append_left _ (List.mem_append_left _ (List.mem_append_right _ h))) (by decide +kernel))
set_option maxRecDepth 20000 in
theorem gL_law_X6_begin : GoodIn wsL_law (wsV RL 84 RX6 yX6_begin wsX6_begin) := goodIn_app (goodIn_of _ (by decide +kernel)) ggL_law_X6_begin
set_option maxRecDepth 20000 in
theorem ggL_law_L_cover : GoodIn wsL_law wsL_cover := goodIn_r _ [117, 118, 119, 81, 120, 121, 122, 123, 124, 125, 126, 127, 128, 129, 130, 131, 132] (by decide +kernel) (by decide +kernel)
set_option maxRecDepth 20000 in
theorem gL_law_L_cover : GoodIn wsL_law (va_wsS RL 87 yL_cover wsL_cover) := goodIn_app (goodIn_of _ (by decide +kernel)) ggL_law_L_cover
set_option maxRecDepth 20000 in
theorem ggL_law_L_changes : GoodIn wsL_law wsL_changes := goodIn_ca (goodIn_ca (goodIn_r _ [135, 84, 85, 81, 86, 136, 137, 138, 2, 139, 13, 140, 141, 142, 143, 144, 145, 146, 147, 148, 149, 150, 151, 152, 153, 154, 12, 155, 69, 91, 92, 93, 94, 95, 156, 157, 158, 159, 160, 161, 162, 163, 37, 164, 165, 166, 167, 36, 96, 97, 98, 99, 17, 31, 100, 101, 102, 16, 103, 104, 44, 43, 11, 105, 106, 107, 108, 32, 33, 34, 8, 9, 35, 3, 38, 39, 109, 110, 111, 112, 70, 113, 114, 168, 169, 170, 171, 172, 173, 174, 175, 176, 177, 178, 179, 180, 181, 182, 183, 184, 185, 186, 187, 188, 189, 190, 191, 192, 193, 194, 195, 196, 407, 408, 409, 410, 411, 412, 413, 414, 415, 416, 417, 418, 419, 420, 421, 422, 423] (by decide +kernel) (by decide +kernel)) (goodIn_sub (fun _ h => List.mem_append_left _ (List.mem_append_right _ h)) (by decide +kernel))) (goodIn_sub (fun _ h => List.mem_append_left _ (List.mem_append_left _ (List.mem_append_right _ h))) (by decide +kernel))
set_option maxRecDepth 20000 in
theorem gL_law_L_changes : GoodIn wsL_law (va_wsS RL 91 yL_changes wsL_changes) := goodIn_app (goodIn_of _ (by decide +kernel)) ggL_law_L_changes
set_option maxRecDepth 20000 in
theorem ggL_law_L_forgets : GoodIn wsL_law wsL_forgets := goodIn_ca (goodIn_ca (goodIn_ca (goodIn_r _ [199, 84, 85, 81, 86, 200, 201, 202, 121, 122, 123, 203, 204, 205, 2, 206, 13, 91, 92, 93, 94, 95, 96, 97, 98, 99, 17, 31, 100, 101, 102, 16, 103, 104, 44, 43, 11, 12, 105, 106, 107, 108, 32, 33, 34, 8, 9, 35, 36, 37, 3, 38, 39, 109, 110, 111, 112, 69, 70, 113, 114, 207, 208, 209, 210, 211, 212, 213, 214, 215, 216, 217, 218, 71, 72, 73, 74, 219, 220, 221, 222, 223, 224, 225, 226, 78, 227, 183, 184, 185, 186, 187, 188, 228, 229, 230, 231, 232, 233, 234, 130, 131, 132, 235, 236, 237, 238, 239, 240, 241, 242, 243, 244, 143, 144, 245, 246, 247, 248, 249, 250, 251, 407, 408, 409, 410, 411, 412, 413, 414, 415, 416, 417, 418, 419, 420, 421, 422, 423] (by decide +kernel) (by decide +kernel)) (goodIn_sub (fun _ h => List.mem_append_left _ (List.mem_append_left _ (List.mem_append_right _ h))) (by decide +kernel))) (goodIn_sub (fun _ h => List.mem_append_right _ h) (by decide +kernel))) (goodIn_sub (fun _ h => List.mem_append_left _ (List.mem_append_right _ h)) (by decide +kernel))
set_option maxRecDepth 20000 in
theorem gL_law_L_forgets : GoodIn wsL_law (va_wsS RL 95 yL_forgets wsL_forgets) := goodIn_app (goodIn_of _ (by decide +kernel)) ggL_law_L_forgets
set_option maxRecDepth 20000 in
theorem ggL_law_L_asks : GoodIn wsL_law wsL_asks := goodIn_ca (goodIn_r _ [254, 84, 85, 81, 86, 255, 256, 257, 121, 122, 123, 258, 259, 260, 2, 261, 17, 13, 148, 149, 150, 151, 143, 144, 152, 153, 154, 12, 155, 69, 262, 263, 264, 265, 31, 29, 25, 266, 267, 268, 28, 269, 270, 271, 58, 272, 59, 60, 62, 273, 72, 73, 74, 274, 165, 166, 167, 36, 146, 147, 275, 224, 225, 226, 78, 276, 161, 162, 163, 37, 277, 183, 184, 185, 186, 187, 188, 278, 279, 280, 24, 281, 282, 283, 284, 285, 286, 52, 287, 288, 289, 290, 291, 292, 293, 294, 295, 296, 53, 54, 297, 298, 299, 300, 301, 302, 303, 304, 305, 64, 61, 63, 306, 307, 308, 309, 310, 311, 229, 230, 231, 232, 233, 234, 312, 313, 314, 315, 316, 317, 318, 319, 320, 321, 322, 323, 100, 101, 102, 16, 103, 104, 44, 43, 11, 105, 106, 107, 108, 32, 33, 34, 8, 9, 35, 3, 38, 39, 109, 110, 111, 112, 70, 113, 114, 324, 325, 326, 327, 328, 329, 330, 331, 156, 157, 158, 159, 160, 164, 332, 333, 334, 335, 407, 408, 409, 410, 411, 412, 413, 414, 415, 416, 417, 418, 419, 420, 421, 430, 431, 432, 433, 434, 435, 436, 437, 438, 439, 440, 441, 426, 427, 428, 429, 422, 423] (by decide +kernel) (by decide +kernel)) (goodIn_sub (fun _ h => List.mem_append_left _ (List.mem_append_right _ h)) (by decide +kernel))
set_option maxRecDepth 20000 in
theorem gL_law_L_asks : GoodIn wsL_law (va_wsS RL 98 yL_asks wsL_asks) := goodIn_app (goodIn_of _ (by decide +kernel)) ggL_law_L_asks
set_option maxRecDepth 20000 in
theorem ggL_law_L_agree : GoodIn wsL_law wsL_agree := goodIn_ca (goodIn_ca (goodIn_r _ [338, 339, 340, 341, 2, 342, 140, 141, 142, 143, 144, 145, 146, 147, 91, 92, 93, 94, 95, 262, 263, 264, 265, 31, 29, 13, 25, 266, 267, 268, 28, 269, 270, 271, 58, 272, 59, 60, 62, 273, 72, 73, 74, 274, 165, 166, 12, 167, 36, 275, 224, 225, 226, 78, 276, 161, 162, 163, 37, 277, 183, 184, 185, 186, 187, 188, 278, 279, 280, 24, 281, 282, 283, 284, 285, 286, 52, 287, 288, 289, 290, 291, 292, 293, 294, 295, 296, 53, 54, 297, 298, 299, 300, 301, 302, 303, 304, 305, 64, 61, 63, 306, 307, 308, 309, 310, 311, 229, 230, 231, 232, 233, 234, 312, 313, 314, 315, 316, 317, 318, 319, 320, 321, 322, 323, 343, 344, 345, 346, 181, 182, 152, 153, 154, 155, 69, 347, 348, 349, 350, 351, 38, 352, 353, 354, 355, 39, 356, 357, 358, 359, 360, 361, 362, 363, 364, 365, 366, 367, 368, 369, 370, 371, 372, 373, 374, 375, 118, 119, 81, 120, 121, 122, 123, 130, 131, 132, 376, 377, 378, 379, 380, 381, 382, 383, 384, 84, 85, 86, 385, 386, 387, 388, 148, 149, 150, 151, 389, 390, 391, 392, 156, 157, 158, 159, 160, 164, 332, 333, 334, 335, 324, 325, 326, 327, 328, 329, 330, 331, 255, 256, 257, 393, 394, 395, 124, 125, 126, 127, 128, 129, 396, 397, 398, 399, 400, 401, 402, 403, 17, 404, 405, 406, 200, 201, 202, 407, 408, 409, 410, 411, 412, 413, 414, 415, 416, 417, 418, 419, 420, 421, 430, 431, 432, 433, 434, 435, 436, 437, 438, 439, 440, 441, 426, 427, 428, 429, 422, 423] (by decide +kernel) (by decide +kernel)) (goodIn_sub (fun _ h => List.mem_append_left _ (List.mem_append_right _ h)) (by decide +kernel))) (goodIn_sub (fun _ h => List.mem_append_left _ (List.mem_append_left _ (List.mem_append_right _ h))) (by decide +kernel))
set_option maxRecDepth 20000 in
theorem gL_law_L_agree : GoodIn wsL_law (va_wsS RL 102 yL_agree wsL_agree) := goodIn_app (goodIn_of _ (by decide +kernel)) ggL_law_L_agree
