set_option maxRecDepth 20000 in
theorem ggL_law_L_forgets : GoodIn wsL_law wsL_forgets := goodIn_ca (goodIn_ca (goodIn_ca (goodIn_r _ [199, 84, 85, 81, 86, 200, 201, 202, 121, 122, 123, 203, 204, 205, 2, 206, 13, 91, 92, 93, 94, 95, 96, 97, 98, 99, 17, 31, 100, 101, 102, 16, 103, 104, 44, 43, 11, 12, 105, 106, 107, 108, 32, 33, 34, 8, 9, 35, 36, 37, 3, 38, 39, 109, 110, 111, 112, 69, 70, 113, 114, 207, 208, 209, 210, 211, 212, 213, 214, 215, 216, 217, 218, 71, 72, 73, 74, 219, 220, 221, 222, 223, 224, 225, 226, 78, 227, 183, 184, 185, 186, 187, 188, 228, 229, 230, 231, 232, 233, 234, 130, 131, 132, 235, 236, 237, 238, 239, 240, 241, 242, 243, 244, 143, 144, 245, 246, 247, 248, 249, 250, 251, 407, 408, 409, 410, 411, 412, 413, 414, 415, 416, 417, 418, 419, 420, 421, 422, 423] (by decide +kernel) (by decide +kernel)) (goodIn_sub (fun _ h => List.mem_append_left _ (List.mem_append_left _ (List.mem_append_right _ h))) (by decide +kernel))) (goodIn_sub (fun _ h => List.mem_append_right _ h) (by decide +kernel))) (goodIn_sub (fun _ h => List.mem_append_left _ (List.mem_append_right _ h)) (by decide +kernel))
set_option maxRecDepth 20000 in
theorem gL_law_L_forgets : GoodIn wsL_law (va_wsS RL 95 yL_forgets wsL_forgets) := goodIn_app (goodIn_of _ (by decide +kernel)) ggL_law_L_forgets
set_option maxRecDepth 20000 in
theorem ggL_law_L_asks : GoodIn wsL_law wsL_asks := goodIn_ca (goodIn_r _ [254, 84, 85, 81, 86, 255, 256, 257, 121, 122, 123, 258, 259, 260, 2, 261, 17, 13, 148, 149, 150, 151, 143, 144, 152, 153, 154, 12, 155, 69, 262, 263, 264, 265, 31, 29, 25, 266, 267, 268, 28, 269, 270, 271, 58, 272, 59, 60, 62, 273, 72, 73, 74, 274, 165, 166, 167, 36, 146, 147, 275, 224, 225, 226, 78, 276, 161, 162, 163, 37, 277, 183, 184, 185, 186, 187, 188, 278, 279, 280, 24, 281, 282, 283, 284, 285, 286, 52, 287, 288, 289, 290, 291, 292, 293, 294, 295, 296, 53, 54, 297, 298, 299, 300, 301, 302, 303, 304, 305, 64, 61, 63, 306, 307, 308, 309, 310, 311, 229, 230, 231, 232, 233, 234, 312, 313, 314, 315, 316, 317, 318, 319, 320, 321, 322, 323, 100, 101, 102, 16, 103, 104, 44, 43, 11, 105, 106, 107, 108, 32, 33, 34, 8, 9, 35, 3, 38, 39, 109, 110, 111, 112, 70, 113, 114, 324, 325, 326, 327, 328, 329, 330, 331, 156, 157, 158, 159, 160, 164, 332, 333, 334, 335, 407, 408, 409, 410, 411, 412, 413, 414, 415, 416, 417, 418, 419, 420, 421, 430, 431, 432, 433, 434, 435, 436, 437, 438, 439, 440, 441, 426, 427, 428, 429, 422, 423] (by decide +kernel) (by decide +kernel)) (goodIn_sub (fun _ h => List.mem_append_left _ (List.mem_append_right _ h)) (by decide +kernel))
set_option maxRecDepth 20000 in
theorem gL_law_L_asks : GoodIn wsL_law (va_wsS RL 98 yL_asks wsL_asks) := goodIn_app (goodIn_of _ (by decide +kernel)) ggL_law_L_asks
set_option maxRecDepth 20000 in
theorem gpL_agree_wsL_agree_r1 : GoodIn wsL_law (.code yL_agree cL_agree 10 (some .boolean) :: wsL_agree_r1) := goodIn_r _ [338, 339, 340, 341, 2, 342, 140, 141, 142, 143, 144, 145, 146, 147, 91, 92, 93, 94, 95, 262, 263, 264, 265, 31, 29] (by decide +kernel) (by decide +kernel)
set_option maxRecDepth 20000 in
theorem gpL_agree_wsL_agree_r2 : GoodIn wsL_law wsL_agree_r2 := goodIn_r _ [13, 25, 266, 267, 268, 28, 269, 270, 271, 58, 272, 59, 60, 62, 273, 72, 73, 74, 274, 165, 166, 12, 167, 36] (by decide +kernel) (by decide +kernel)
set_option maxRecDepth 20000 in
theorem gpL_agree_wsL_agree_r3 : GoodIn wsL_law wsL_agree_r3 := goodIn_r _ [275, 224, 225, 226, 78, 276, 161, 162, 163, 37, 277, 183, 184, 185, 186, 187, 188, 278, 279, 280, 24, 281, 282, 283] (by decide +kernel) (by decide +kernel)
set_option maxRecDepth 20000 in
theorem gpL_agree_wsL_agree_r4 : GoodIn wsL_law wsL_agree_r4 := goodIn_r _ [284, 285, 286, 52, 287, 288, 289, 290, 291, 292, 293, 294, 295, 296, 53, 54, 297, 298, 299, 300, 301, 302, 303, 304] (by decide +kernel) (by decide +kernel)
set_option maxRecDepth 20000 in
theorem gpL_agree_wsL_agree_r5 : GoodIn wsL_law wsL_agree_r5 := goodIn_r _ [305, 64, 61, 63, 306, 307, 308, 309, 310, 311, 229, 230, 231, 232, 233, 234, 312, 313, 314, 315, 316, 317, 318, 319] (by decide +kernel) (by decide +kernel)
set_option maxRecDepth 20000 in
theorem gpL_agree_wsL_agree_r6 : GoodIn wsL_law wsL_agree_r6 := goodIn_r _ [320, 321, 322, 323, 343, 344, 345, 346, 181, 182, 152, 153, 154, 155, 69, 347, 348, 349, 350, 351, 38, 352, 353, 354] (by decide +kernel) (by decide +kernel)
set_option maxRecDepth 20000 in
theorem gpL_agree_wsL_agree_r7 : GoodIn wsL_law wsL_agree_r7 := goodIn_r _ [355, 39, 356, 357, 358, 359, 360, 361, 362, 363, 364, 365, 366, 367, 368, 369, 370, 371, 372, 373, 374, 375, 118, 119] (by decide +kernel) (by decide +kernel)
set_option maxRecDepth 20000 in
theorem gpL_agree_wsL_agree_r8 : GoodIn wsL_law wsL_agree_r8 := goodIn_r _ [81, 120, 121, 122, 123, 130, 131, 132, 376, 377, 378, 379, 380, 381, 382, 383, 384, 84, 85, 86, 385, 386, 387, 388] (by decide +kernel) (by decide +kernel)
set_option maxRecDepth 20000 in
theorem gpL_agree_wsL_agree_r9 : GoodIn wsL_law wsL_agree_r9 := goodIn_r _ [148, 149, 150, 151, 389, 390, 391, 392, 156, 157, 158, 159, 160, 164, 332, 333, 334, 335, 324, 325, 326, 327, 328, 329] (by decide +kernel) (by decide +kernel)
set_option maxRecDepth 20000 in
theorem gpL_agree_wsL_agree_r10 : GoodIn wsL_law wsL_agree_r10 := goodIn_r _ [330, 331, 255, 256, 257, 393, 394, 395, 124, 125, 126, 127, 128, 129, 396, 397, 398, 399, 400, 401, 402, 403, 17, 404] (by decide +kernel) (by decide +kernel)
set_option maxRecDepth 20000 in
theorem gpL_agree_wsL_agree_r11 : GoodIn wsL_law wsL_agree_r11 := goodIn_r _ [405, 406, 200, 201, 202] (by decide +kernel) (by decide +kernel)
set_option maxRecDepth 20000 in
theorem gpL_agree_wsX60 : GoodIn wsL_law wsX60 := goodIn_r _ [407, 408, 409, 410, 411, 412, 413] (by decide +kernel) (by decide +kernel)
set_option maxRecDepth 20000 in
theorem gpL_agree_wsX30 : GoodIn wsL_law wsX30 := goodIn_r _ [414, 415, 416, 417, 418, 419, 420, 421] (by decide +kernel) (by decide +kernel)
set_option maxRecDepth 20000 in
theorem gpL_agree_wsX50 : GoodIn wsL_law wsX50 := goodIn_r _ [430, 431, 432, 433, 434, 435, 436, 437, 438, 439, 440, 441] (by decide +kernel) (by decide +kernel)
set_option maxRecDepth 20000 in
theorem gpL_agree_wsX10 : GoodIn wsL_law wsX10 := goodIn_r _ [426, 427, 428, 429] (by decide +kernel) (by decide +kernel)
set_option maxRecDepth 20000 in
theorem gpL_agree_wsX00 : GoodIn wsL_law wsX00 := goodIn_r _ [422, 423] (by decide +kernel) (by decide +kernel)
set_option maxRecDepth 20000 in
theorem ggL_law_L_agree : GoodIn wsL_law wsL_agree := goodIn_ca (goodIn_ca ((goodIn_ca (goodIn_ca (goodIn_ca (goodIn_ca (goodIn_ca (goodIn_ca gpL_agree_wsL_agree_r1 (goodIn_app gpL_agree_wsL_agree_r2 (goodIn_app gpL_agree_wsL_agree_r3 (goodIn_app gpL_agree_wsL_agree_r4 (goodIn_app gpL_agree_wsL_agree_r5 (goodIn_app gpL_agree_wsL_agree_r6 (goodIn_app gpL_agree_wsL_agree_r7 (goodIn_app gpL_agree_wsL_agree_r8 (goodIn_app gpL_agree_wsL_agree_r9 (goodIn_app gpL_agree_wsL_agree_r10 gpL_agree_wsL_agree_r11)))))))))) gpL_agree_wsX60) gpL_agree_wsX30) gpL_agree_wsX50) gpL_agree_wsX10) gpL_agree_wsX00)) (goodIn_sub (fun _ h => List.mem_append_left _ (List.mem_append_right _ h)) (by decide +kernel))) (goodIn_sub (fun _ h => List.mem_append_left _ (List.mem_append_left _ (List.mem_append_right _ h))) (by decide +kernel))
set_option maxRecDepth 20000 in
theorem gL_law_L_agree : GoodIn wsL_law (va_wsS RL 102 yL_agree wsL_agree) := goodIn_app (goodIn_of _ (by decide +kernel)) ggL_law_L_agree
