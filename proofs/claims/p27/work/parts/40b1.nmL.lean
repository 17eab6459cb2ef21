set_option maxRecDepth 20000 in
theorem ggL_cover_L_ones : GoodIn wsL_cover wsL_ones := goodIn_r _ [16] (by decide +kernel) (by decide +kernel)
set_option maxRecDepth 20000 in
theorem gL_cover_L_ones : GoodIn wsL_cover (va_wsS RL 26 yL_ones wsL_ones) := goodIn_app (goodIn_of _ (by decide +kernel)) ggL_cover_L_ones
set_option maxRecDepth 20000 in
theorem ggL_changes_L_at : GoodIn wsL_changes wsL_at := goodIn_r _ [4] (by decide +kernel) (by decide +kernel)
set_option maxRecDepth 20000 in
theorem gL_changes_L_at : GoodIn wsL_changes (va_wsS RL 30 yL_at wsL_at) := goodIn_app (goodIn_of _ (by decide +kernel)) ggL_changes_L_at
set_option maxRecDepth 20000 in
theorem ggL_changes_X6_set : GoodIn wsL_changes wsX6_set := goodIn_ca (goodIn_ca (goodIn_r _ [9, 10, 11, 12, 8, 13, 14, 15, 16, 17, 18, 19, 20, 21, 22, 23, 24, 25, 26, 27, 28, 29, 30, 31, 32, 33, 34, 35, 36, 37, 38, 39, 40, 41, 42, 43, 44, 45, 46, 47, 48, 49, 50, 51, 52, 53, 54, 55, 56, 57, 58, 59, 60, 61, 62, 63, 64, 65, 66, 67, 68, 69, 70, 71, 72, 73, 74, 75, 76, 77, 78, 79, 80, 81, 82, 83, 84, 85, 86, 87, 112, 113, 114, 115, 116, 117, 118, 119, 120, 121, 122, 123, 124, 125, 126, 127, 128] (by decide +kernel) (by decide +kernel)) (goodIn_sub (fun _ h => List.mem_cons_of_mem _ (List.mem_append_left _ (List.mem_append_right _ h))) (by decide +kernel))) (goodIn_sub (fun _ h => List.mem_cons_of_mem _ (List.mem_append_right _ h)) (by decide +kernel))
set_option maxRecDepth 20000 in
theorem gL_changes_X6_set : GoodIn wsL_changes (wsV RL 34 RX6 yX6_set wsX6_set) := goodIn_app (goodIn_of _ (by decide +kernel)) ggL_changes_X6_set
set_option maxRecDepth 20000 in
theorem ggL_changes_X6_invert : GoodIn wsL_changes wsX6_invert := goodIn_ca (goodIn_r _ [91, 10, 11, 12, 8, 13, 14, 15, 16, 17, 18, 48, 49, 50, 51, 52, 53, 54, 55, 56, 57, 58, 59, 60, 61, 62, 26, 63, 64, 65, 66, 67, 68, 69, 70, 71, 72, 47, 42, 73, 74, 75, 76, 77, 78, 79, 28, 80, 81, 82, 92, 93, 94, 95, 96, 39, 40, 41, 97, 98, 99, 100, 101, 102, 103, 112, 113, 114, 115, 116, 117, 118, 127, 128, 119, 120, 121, 122, 123, 124, 125, 126] (by decide +kernel) (by decide +kernel)) (goodIn_sub (fun _ h => List.mem_cons_of_mem _ (List.mem_append_left _ (List.mem_append_right _ h))) (by decide +kernel))
set_option maxRecDepth 20000 in
theorem gL_changes_X6_invert : GoodIn wsL_changes (wsV RL 40 RX6 yX6_invert wsX6_invert) := goodIn_app (goodIn_of _ (by decide +kernel)) ggL_changes_X6_invert
set_option maxRecDepth 20000 in
theorem ggL_changes_X6_join : GoodIn wsL_changes wsX6_join := goodIn_ca (goodIn_ca (goodIn_r _ [107, 32, 33, 10, 11, 12, 8, 13, 14, 15, 16, 17, 18, 48, 49, 50, 51, 52, 53, 54, 55, 56, 57, 58, 59, 60, 61, 62, 26, 63, 64, 65, 66, 67, 68, 69, 70, 71, 72, 47, 42, 73, 74, 75, 76, 77, 78, 79, 28, 80, 81, 82, 108, 109, 110, 111, 38, 39, 40, 41, 43, 44, 45, 46, 96, 97, 98, 99, 100, 101, 102, 103, 112, 113, 114, 115, 116, 117, 118, 127, 128, 119, 120, 121, 122, 123, 124, 125, 126] (by decide +kernel) (by decide +kernel)) (goodIn_sub (fun _ h => List.mem_cons_of_mem _ (List.mem_append_right _ h)) (by decide +kernel))) (goodIn_sub (fun _ h => List.mem_cons_of_mem _ (List.mem_append_left _ (List.mem_append_right _ h))) (by decide +kernel))
set_option maxRecDepth 20000 in
theorem gL_changes_X6_join : GoodIn wsL_changes (wsV RL 43 RX6 yX6_join wsX6_join) := goodIn_app (goodIn_of _ (by decide +kernel)) ggL_changes_X6_join
set_option maxRecDepth 20000 in
theorem ggL_forgets_L_at : GoodIn wsL_forgets wsL_at := goodIn_r _ [4] (by decide +kernel) (by decide +kernel)
set_option maxRecDepth 20000 in
theorem gL_forgets_L_at : GoodIn wsL_forgets (va_wsS RL 30 yL_at wsL_at) := goodIn_app (goodIn_of _ (by decide +kernel)) ggL_forgets_L_at
set_option maxRecDepth 20000 in
theorem ggL_forgets_L_undecided : GoodIn wsL_forgets wsL_undecided := goodIn_r _ [7, 8, 9, 3, 10] (by decide +kernel) (by decide +kernel)
set_option maxRecDepth 20000 in
theorem gL_forgets_L_undecided : GoodIn wsL_forgets (va_wsS RL 46 yL_undecided wsL_undecided) := goodIn_app (goodIn_of _ (by decide +kernel)) ggL_forgets_L_undecided
set_option maxRecDepth 20000 in
theorem ggL_forgets_X6_pass : GoodIn wsL_forgets wsX6_pass := goodIn_ca (goodIn_r _ [15, 16, 17, 18, 14, 19, 20, 21, 22, 23, 24, 25, 26, 27, 28, 29, 30, 31, 32, 33, 34, 35, 36, 37, 38, 39, 40, 41, 42, 43, 44, 45, 46, 47, 48, 49, 50, 51, 52, 53, 54, 55, 56, 57, 58, 59, 60, 61, 62, 63, 64, 65, 66, 67, 68, 69, 70, 71, 72, 73, 74, 75, 76, 77, 78, 79, 80, 81, 82, 83, 84, 85, 86, 87, 88, 89, 90, 91, 92, 93, 94, 95, 96, 97, 98, 99, 122, 123, 124, 125, 126, 127, 128, 129, 130, 131, 132, 133, 134, 135, 136, 137, 138] (by decide +kernel) (by decide +kernel)) (goodIn_sub (fun _ h => List.mem_cons_of_mem _ (List.mem_append_left _ (List.mem_append_left _ (List.mem_append_right _ h)))) (by decide +kernel))
set_option maxRecDepth 20000 in
theorem gL_forgets_X6_pass : GoodIn wsL_forgets (wsV RL 50 RX6 yX6_pass wsX6_pass) := goodIn_app (goodIn_of _ (by decide +kernel)) ggL_forgets_X6_pass
