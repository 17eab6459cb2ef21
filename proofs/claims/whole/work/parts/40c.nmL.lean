set_option maxRecDepth 20000 in
theorem ggL_law_X6_init : GoodIn wsL_law wsX6_init := goodIn_r _ [9, 10, 11, 12, 13, 14, 15, 16, 17, 18, 19, 20, 21, 22, 23, 24, 25, 26, 27, 28, 29, 30, 31, 32, 33, 34, 35, 36, 37, 6, 38, 39, 40, 41, 42, 43, 44, 45, 46, 47, 48, 49, 50, 51, 52, 53, 54, 55, 56, 57, 58, 59, 60, 61, 62, 63, 64, 65, 66, 67, 68, 69, 70, 71, 72, 73, 74, 75, 76, 77, 78, 79, 80, 81, 905, 906, 907, 908, 909, 910, 911, 912, 882, 883, 884, 885, 886, 887, 888, 913, 914, 915, 916, 917, 918, 919, 920, 921, 922, 923, 924, 925, 926, 927, 928, 929, 930, 931, 932] (by decide +kernel) (by decide +kernel)
set_option maxRecDepth 20000 in
theorem gL_law_X6_init : GoodIn wsL_law (wsX6_init) := ggL_law_X6_init
set_option maxRecDepth 20000 in
theorem ggL_law_X7_init : GoodIn wsL_law wsX7_init := goodIn_r _ [84, 85, 11, 12, 40, 86, 87, 88, 6, 89, 90, 91, 92, 93, 94, 889, 890, 891, 892, 893, 894, 895, 896, 897, 898, 899, 900, 901, 902, 903, 904] (by decide +kernel) (by decide +kernel)
set_option maxRecDepth 20000 in
theorem gL_law_X7_init : GoodIn wsL_law (wsX7_init) := ggL_law_X7_init
set_option maxRecDepth 20000 in
theorem ggL_law_L_begin : GoodIn wsL_law wsL_begin := goodIn_ca (goodIn_r _ [98, 99, 100, 101, 102, 2, 103, 16, 104, 105, 106, 107, 108, 109, 110, 111, 112, 20, 34, 113, 114, 115, 19, 116, 117, 47, 46, 14, 15, 118, 119, 120, 121, 35, 36, 37, 11, 12, 6, 38, 39, 40, 41, 42, 122, 123, 124, 125, 72, 73, 126, 127, 68, 69, 70, 71, 74, 75, 76, 77, 78, 79, 80, 81, 882, 883, 884, 885, 886, 887, 888, 905, 906, 907, 908, 909, 910, 911, 912, 913, 914] (by decide +kernel) (by decide +kernel)) (goodIn_sub (fun _ h => List.mem_append_left _ (List.mem_append_left _ (List.mem_append_right _ h))) (by decide +kernel))
set_option maxRecDepth 20000 in
theorem gL_law_L_begin : GoodIn wsL_law (va_wsS RL 80 yL_begin wsL_begin) := goodIn_app (goodIn_of _ (by decide +kernel)) ggL_law_L_begin
set_option maxRecDepth 20000 in
theorem ggL_law_X7_begin : GoodIn wsL_law wsX7_begin := goodIn_r _ [131, 132, 86, 133, 134, 5, 135, 136, 137, 138, 139, 140, 87, 889, 890, 891, 892, 893, 894, 895, 896, 897, 898, 899, 900, 901, 902, 903, 904] (by decide +kernel) (by decide +kernel)
set_option maxRecDepth 20000 in
theorem gL_law_X7_begin : GoodIn wsL_law (wsV RL 85 RX7 yX7_begin wsX7_begin) := goodIn_app (goodIn_of _ (by decide +kernel)) ggL_law_X7_begin
set_option maxRecDepth 20000 in
theorem ggL_law_X7_thrown : GoodIn wsL_law wsX7_thrown := goodIn_r _ [144, 132, 889, 890, 891, 892, 893, 894, 895, 896, 897, 898, 899, 900, 901, 902, 903, 904] (by decide +kernel) (by decide +kernel)
set_option maxRecDepth 20000 in
theorem gL_law_X7_thrown : GoodIn wsL_law (wsV RL 86 RX7 yX7_thrown wsX7_thrown) := goodIn_app (goodIn_of _ (by decide +kernel)) ggL_law_X7_thrown
set_option maxRecDepth 20000 in
theorem ggL_law_L_set : GoodIn wsL_law wsL_set := goodIn_ca (goodIn_ca (goodIn_r _ [147, 148, 99, 149, 150, 151, 2, 152, 16, 153, 154, 155, 156, 157, 158, 159, 160, 161, 162, 163, 164, 165, 166, 167, 15, 168, 72, 104, 105, 106, 107, 108, 169, 170, 171, 172, 173, 174, 175, 176, 39, 177, 178, 179, 180, 38, 109, 110, 111, 112, 20, 34, 113, 114, 115, 19, 116, 117, 47, 46, 14, 118, 119, 120, 121, 35, 36, 37, 11, 12, 6, 40, 41, 42, 122, 123, 124, 125, 73, 126, 127, 181, 182, 183, 184, 185, 882, 883, 884, 885, 886, 887, 888, 905, 906, 907, 908, 909, 910, 911, 912, 913, 914] (by decide +kernel) (by decide +kernel)) (goodIn_sub (fun _ h => List.mem_append_left _ (List.mem_append_right _ h)) (by decide +kernel))) (goodIn_sub (fun _ h => List.mem_append_left _ (List.mem_append_left _ (List.mem_append_right _ h))) (by decide +kernel))
set_option maxRecDepth 20000 in
theorem gL_law_L_set : GoodIn wsL_law (va_wsS RL 89 yL_set wsL_set) := goodIn_app (goodIn_of _ (by decide +kernel)) ggL_law_L_set
set_option maxRecDepth 20000 in
theorem ggL_law_X7_set : GoodIn wsL_law wsX7_set := goodIn_r _ [189, 132, 190, 191, 5, 192, 133, 134, 135, 193, 194, 195, 196, 197, 198, 199, 200, 86, 136, 137, 138, 139, 140, 87, 201, 202, 203, 204, 205, 206, 207, 208, 889, 890, 891, 892, 893, 894, 895, 896, 897, 898, 899, 900, 901, 902, 903, 904] (by decide +kernel) (by decide +kernel)
set_option maxRecDepth 20000 in
theorem gL_law_X7_set : GoodIn wsL_law (wsV RL 92 RX7 yX7_set wsX7_set) := goodIn_app (goodIn_of _ (by decide +kernel)) ggL_law_X7_set
set_option maxRecDepth 20000 in
theorem ggL_law_L_invert : GoodIn wsL_law wsL_invert := goodIn_ca (goodIn_r _ [211, 148, 212, 213, 214, 2, 215, 16, 153, 154, 155, 156, 157, 158, 159, 160, 109, 110, 111, 112, 20, 34, 113, 114, 115, 19, 116, 117, 47, 46, 14, 15, 118, 119, 120, 121, 35, 36, 37, 11, 12, 6, 38, 39, 40, 41, 42, 122, 123, 124, 125, 72, 73, 126, 127, 216, 217, 218, 219, 220, 174, 175, 176, 221, 222, 223, 224, 225, 226, 227, 882, 883, 884, 885, 886, 887, 888, 913, 914, 905, 906, 907, 908, 909, 910, 911, 912] (by decide +kernel) (by decide +kernel)) (goodIn_sub (fun _ h => List.mem_append_left _ (List.mem_append_right _ h)) (by decide +kernel))
set_option maxRecDepth 20000 in
theorem gL_law_L_invert : GoodIn wsL_law (va_wsS RL 93 yL_invert wsL_invert) := goodIn_app (goodIn_of _ (by decide +kernel)) ggL_law_L_invert
set_option maxRecDepth 20000 in
theorem ggL_law_X7_invert : GoodIn wsL_law wsX7_invert := goodIn_r _ [231, 132, 190, 191, 5, 192, 133, 134, 135, 136, 137, 138, 139, 140, 87, 86, 197, 198, 199, 200, 201, 202, 203, 204, 205, 206, 207, 208, 232, 233, 234, 235, 889, 890, 891, 892, 893, 894, 895, 896, 897, 898, 899, 900, 901, 902, 903, 904] (by decide +kernel) (by decide +kernel)
set_option maxRecDepth 20000 in
theorem gL_law_X7_invert : GoodIn wsL_law (wsV RL 95 RX7 yX7_invert wsX7_invert) := goodIn_app (goodIn_of _ (by decide +kernel)) ggL_law_X7_invert
set_option maxRecDepth 20000 in
theorem ggL_law_L_join : GoodIn wsL_law wsL_join := goodIn_ca (goodIn_ca (goodIn_r _ [238, 148, 99, 239, 240, 241, 2, 242, 107, 108, 16, 153, 154, 155, 156, 157, 158, 159, 160, 109, 110, 111, 112, 20, 34, 113, 114, 115, 19, 116, 117, 47, 46, 14, 15, 118, 119, 120, 121, 35, 36, 37, 11, 12, 6, 38, 39, 40, 41, 42, 122, 123, 124, 125, 72, 73, 126, 127, 243, 244, 245, 246, 173, 174, 175, 176, 177, 178, 179, 180, 220, 221, 222, 223, 224, 225, 226, 227, 882, 883, 884, 885, 886, 887, 888, 913, 914, 905, 906, 907, 908, 909, 910, 911, 912] (by decide +kernel) (by decide +kernel)) (goodIn_sub (fun _ h => List.mem_append_left _ (List.mem_append_left _ (List.mem_append_right _ h))) (by decide +kernel))) (goodIn_sub (fun _ h => List.mem_append_left _ (List.mem_append_right _ h)) (by decide +kernel))
set_option maxRecDepth 20000 in
theorem gL_law_L_join : GoodIn wsL_law (va_wsS RL 96 yL_join wsL_join) := goodIn_app (goodIn_of _ (by decide +kernel)) ggL_law_L_join
set_option maxRecDepth 20000 in
theorem ggL_law_X7_join : GoodIn wsL_law wsX7_join := goodIn_r _ [250, 132, 190, 191, 5, 192, 133, 134, 135, 136, 137, 138, 139, 140, 87, 86, 197, 198, 199, 200, 201, 202, 203, 204, 205, 206, 207, 208, 232, 233, 234, 235, 889, 890, 891, 892, 893, 894, 895, 896, 897, 898, 899, 900, 901, 902, 903, 904] (by decide +kernel) (by decide +kernel)
set_option maxRecDepth 20000 in
theorem gL_law_X7_join : GoodIn wsL_law (wsV RL 99 RX7 yX7_join wsX7_join) := goodIn_app (goodIn_of _ (by decide +kernel)) ggL_law_X7_join
set_option maxRecDepth 20000 in
theorem ggL_law_L_forget : GoodIn wsL_law wsL_forget := goodIn_ca (goodIn_ca (goodIn_r _ [253, 148, 254, 255, 256, 257, 2, 258, 259, 260, 16, 261, 262, 263, 264, 156, 157, 265, 266, 267, 15, 268, 73, 109, 110, 111, 112, 20, 34, 113, 114, 115, 19, 116, 117, 47, 46, 14, 118, 119, 120, 121, 35, 36, 37, 11, 12, 6, 38, 39, 40, 41, 42, 122, 123, 124, 125, 72, 126, 127, 269, 270, 271, 272, 74, 75, 76, 77, 273, 274, 275, 276, 277, 278, 279, 280, 81, 281, 222, 223, 224, 225, 226, 227, 882, 883, 884, 885, 886, 887, 888, 905, 906, 907, 908, 909, 910, 911, 912, 913, 914] (by decide +kernel) (by decide +kernel)) (goodIn_sub (fun _ h => List.mem_append_right _ h) (by decide +kernel))) (goodIn_sub (fun _ h => List.mem_append_left _ (List.mem_append_right _ h)) (by decide +kernel))
set_option maxRecDepth 20000 in
theorem gL_law_L_forget : GoodIn wsL_law (va_wsS RL 100 yL_forget wsL_forget) := goodIn_app (goodIn_of _ (by decide +kernel)) ggL_law_L_forget
set_option maxRecDepth 20000 in
theorem ggL_law_X7_forget : GoodIn wsL_law wsX7_forget := goodIn_r _ [285, 132, 86, 286, 287, 288, 5, 289, 133, 134, 135, 290, 291, 292, 293, 136, 137, 138, 139, 140, 87, 294, 295, 296, 297, 298, 299, 300, 301, 197, 198, 199, 200, 302, 303, 304, 305, 201, 202, 203, 204, 889, 890, 891, 892, 893, 894, 895, 896, 897, 898, 899, 900, 901, 902, 903, 904] (by decide +kernel) (by decide +kernel)
set_option maxRecDepth 20000 in
theorem gL_law_X7_forget : GoodIn wsL_law (wsV RL 102 RX7 yX7_forget wsX7_forget) := goodIn_app (goodIn_of _ (by decide +kernel)) ggL_law_X7_forget
set_option maxRecDepth 20000 in
theorem ggL_law_L_remember : GoodIn wsL_law wsL_remember := goodIn_ca (goodIn_ca (goodIn_r _ [308, 148, 254, 309, 310, 311, 2, 312, 259, 260, 16, 261, 262, 263, 264, 156, 157, 265, 266, 267, 15, 268, 73, 109, 110, 111, 112, 20, 34, 113, 114, 115, 19, 116, 117, 47, 46, 14, 118, 119, 120, 121, 35, 36, 37, 11, 12, 6, 38, 39, 40, 41, 42, 122, 123, 124, 125, 72, 126, 127, 269, 270, 271, 272, 74, 75, 76, 77, 273, 274, 275, 276, 277, 278, 279, 280, 81, 281, 222, 223, 224, 225, 226, 227, 882, 883, 884, 885, 886, 887, 888, 905, 906, 907, 908, 909, 910, 911, 912, 913, 914] (by decide +kernel) (by decide +kernel)) (goodIn_sub (fun _ h => List.mem_append_right _ h) (by decide +kernel))) (goodIn_sub (fun _ h => List.mem_append_left _ (List.mem_append_right _ h)) (by decide +kernel))
set_option maxRecDepth 20000 in
theorem gL_law_L_remember : GoodIn wsL_law (va_wsS RL 103 yL_remember wsL_remember) := goodIn_app (goodIn_of _ (by decide +kernel)) ggL_law_L_remember
set_option maxRecDepth 20000 in
theorem ggL_law_X7_remember : GoodIn wsL_law wsX7_remember := goodIn_r _ [316, 132, 86, 286, 287, 288, 5, 289, 133, 134, 135, 290, 291, 292, 293, 136, 137, 138, 139, 140, 87, 294, 295, 296, 297, 298, 299, 300, 301, 197, 198, 199, 200, 302, 303, 304, 305, 201, 202, 203, 204, 889, 890, 891, 892, 893, 894, 895, 896, 897, 898, 899, 900, 901, 902, 903, 904] (by decide +kernel) (by decide +kernel)
set_option maxRecDepth 20000 in
theorem gL_law_X7_remember : GoodIn wsL_law (wsV RL 105 RX7 yX7_remember wsX7_remember) := goodIn_app (goodIn_of _ (by decide +kernel)) ggL_law_X7_remember
set_option maxRecDepth 20000 in
theorem ggL_law_L_pass : GoodIn wsL_law wsL_pass := goodIn_ca (goodIn_r _ [319, 99, 320, 321, 322, 2, 323, 16, 104, 105, 106, 107, 108, 109, 110, 111, 112, 20, 34, 113, 114, 115, 19, 116, 117, 47, 46, 14, 15, 118, 119, 120, 121, 35, 36, 37, 11, 12, 6, 38, 39, 40, 41, 42, 122, 123, 124, 125, 72, 73, 126, 127, 324, 325, 326, 327, 328, 266, 267, 268, 329, 270, 271, 272, 74, 75, 76, 77, 330, 274, 275, 276, 277, 278, 279, 280, 81, 281, 222, 223, 224, 225, 226, 227, 331, 332, 333, 334, 335, 336, 337, 882, 883, 884, 885, 886, 887, 888, 905, 906, 907, 908, 909, 910, 911, 912, 913, 914] (by decide +kernel) (by decide +kernel)) (goodIn_sub (fun _ h => List.mem_append_left _ (List.mem_append_left _ (List.mem_append_right _ h))) (by decide +kernel))
set_option maxRecDepth 20000 in
theorem gL_law_L_pass : GoodIn wsL_law (va_wsS RL 106 yL_pass wsL_pass) := goodIn_app (goodIn_of _ (by decide +kernel)) ggL_law_L_pass
set_option maxRecDepth 20000 in
theorem ggL_law_X7_pass : GoodIn wsL_law wsX7_pass := goodIn_r _ [341, 132, 86, 133, 134, 5, 135, 136, 137, 138, 139, 140, 87, 342, 343, 344, 345, 290, 291, 292, 293, 346, 347, 348, 349, 294, 295, 296, 297, 298, 299, 300, 301, 197, 198, 199, 200, 302, 303, 304, 305, 201, 202, 203, 204, 350, 351, 352, 889, 890, 891, 892, 893, 894, 895, 896, 897, 898, 899, 900, 901, 902, 903, 904] (by decide +kernel) (by decide +kernel)
set_option maxRecDepth 20000 in
theorem gL_law_X7_pass : GoodIn wsL_law (wsV RL 108 RX7 yX7_pass wsX7_pass) := goodIn_app (goodIn_of _ (by decide +kernel)) ggL_law_X7_pass
