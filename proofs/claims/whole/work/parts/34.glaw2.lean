set_option maxRecDepth 20000 in
theorem ggL_law_L_append : GoodIn wsL_law wsL_append := goodIn_ca (goodIn_ca (goodIn_r _ [388, 69, 146, 389, 390, 391, 2, 392, 29, 77, 78, 79, 80, 81, 393, 394, 395, 28, 396, 397, 194, 195, 196, 197, 198, 398, 399, 400, 401, 54, 758, 759, 760, 761, 762, 788, 789] (by decide +kernel) (by decide +kernel)) (goodIn_sub (fun _ h => List.mem_append_left _ (List.mem_append_left _ (List.mem_append_right _ h))) (by decide +kernel))) (goodIn_sub (fun _ h => List.mem_append_right _ h) (by decide +kernel))
set_option maxRecDepth 20000 in
theorem gL_law_L_append : GoodIn wsL_law (va_wsS RL 107 yL_append wsL_append) := goodIn_app (goodIn_of _ (by decide +kernel)) ggL_law_L_append
set_option maxRecDepth 20000 in
theorem ggL_law_X5_append : GoodIn wsL_law wsX5_append := goodIn_r _ [405, 122, 406, 62, 126, 127, 5, 128, 129, 130, 131, 132, 763, 764, 765, 766, 767, 768, 769, 770, 771, 772, 773, 774] (by decide +kernel) (by decide +kernel)
set_option maxRecDepth 20000 in
theorem gL_law_X5_append : GoodIn wsL_law (wsV RL 109 RX5 yX5_append wsX5_append) := goodIn_app (goodIn_of _ (by decide +kernel)) ggL_law_X5_append
set_option maxRecDepth 20000 in
theorem ggL_law_X4_clearBuffer : GoodIn wsL_law wsX4_clearBuffer := goodIn_r _ [410, 29, 411, 412, 413, 28, 414, 397, 758, 759, 760, 761, 762, 788, 789] (by decide +kernel) (by decide +kernel)
set_option maxRecDepth 20000 in
theorem gL_law_X4_clearBuffer : GoodIn wsL_law (wsV RL 110 RX4 yX4_clearBuffer wsX4_clearBuffer) := goodIn_app (goodIn_of _ (by decide +kernel)) ggL_law_X4_clearBuffer
set_option maxRecDepth 20000 in
theorem ggL_law_X5_clearBuffer : GoodIn wsL_law wsX5_clearBuffer := goodIn_r _ [418, 122, 406, 763, 764, 765, 766, 767, 768, 769, 770, 771, 772, 773, 774] (by decide +kernel) (by decide +kernel)
set_option maxRecDepth 20000 in
theorem gL_law_X5_clearBuffer : GoodIn wsL_law (wsV RL 113 RX5 yX5_clearBuffer wsX5_clearBuffer) := goodIn_app (goodIn_of _ (by decide +kernel)) ggL_law_X5_clearBuffer
set_option maxRecDepth 20000 in
theorem ggL_law_X4_firstError : GoodIn wsL_law wsX4_firstError := goodIn_r _ [422, 29, 423, 424, 425, 28, 426, 397, 427, 428, 429, 430, 54, 431, 432, 433, 434, 435, 436, 437, 438, 439, 758, 759, 760, 761, 762, 788, 789] (by decide +kernel) (by decide +kernel)
set_option maxRecDepth 20000 in
theorem gL_law_X4_firstError : GoodIn wsL_law (wsV RL 114 RX4 yX4_firstError wsX4_firstError) := goodIn_app (goodIn_of _ (by decide +kernel)) ggL_law_X4_firstError
set_option maxRecDepth 20000 in
theorem ggL_law_X5_firstError : GoodIn wsL_law wsX5_firstError := goodIn_r _ [443, 122, 444, 445, 406, 446, 447, 448, 5, 449, 450, 451, 452, 453, 454, 62, 63, 455, 456, 457, 458, 126, 127, 128, 459, 460, 461, 462, 763, 764, 765, 766, 767, 768, 769, 770, 771, 772, 773, 774] (by decide +kernel) (by decide +kernel)
set_option maxRecDepth 20000 in
theorem gL_law_X5_firstError : GoodIn wsL_law (wsV RL 117 RX5 yX5_firstError wsX5_firstError) := goodIn_app (goodIn_of _ (by decide +kernel)) ggL_law_X5_firstError
set_option maxRecDepth 20000 in
theorem ggL_law_L_layAll : GoodIn wsL_law wsL_layAll := goodIn_ca (goodIn_r _ [465, 69, 466, 467, 468, 2, 469, 29, 25, 16, 470, 471, 472, 28, 473, 397, 427, 428, 429, 430, 54, 437, 438, 439, 474, 424, 425, 426, 431, 432, 433, 434, 435, 436, 77, 78, 79, 80, 81, 82, 83, 84, 24, 85, 86, 87, 88, 89, 90, 91, 92, 93, 94, 95, 48, 96, 97, 98, 15, 99, 35, 36, 37, 38, 100, 101, 102, 103, 104, 105, 106, 107, 108, 109, 110, 393, 394, 395, 396, 475, 476, 477, 159, 160, 161, 162, 163, 164, 165, 166, 167, 168, 169, 170, 171, 172, 173, 174, 175, 176, 177, 178, 179, 180, 181, 182, 183, 184, 185, 186, 187, 188, 189, 190, 191, 192, 193, 200, 201, 202, 203, 115, 116, 117, 411, 412, 413, 414, 758, 759, 760, 761, 762, 788, 789, 785, 786, 787, 775, 776, 777, 778, 779, 780, 781] (by decide +kernel) (by decide +kernel)) (goodIn_sub (fun _ h => List.mem_append_left _ (List.mem_append_left _ (List.mem_append_right _ h))) (by decide +kernel))
set_option maxRecDepth 20000 in
theorem gL_law_L_layAll : GoodIn wsL_law (va_wsS RL 118 yL_layAll wsL_layAll) := goodIn_app (goodIn_of _ (by decide +kernel)) ggL_law_L_layAll
set_option maxRecDepth 20000 in
theorem ggL_law_X5_layAll : GoodIn wsL_law wsX5_layAll := goodIn_r _ [481, 122, 406, 450, 59, 63, 446, 447, 448, 5, 449, 445, 444, 451, 452, 453, 454, 62, 455, 456, 457, 458, 126, 127, 128, 459, 460, 461, 462, 129, 130, 131, 132, 133, 134, 135, 136, 137, 61, 215, 216, 217, 218, 219, 220, 221, 222, 223, 224, 225, 226, 227, 228, 229, 230, 231, 232, 233, 234, 235, 236, 237, 238, 239, 240, 241, 242, 243, 244, 245, 246, 247, 763, 764, 765, 766, 767, 768, 769, 770, 771, 772, 773, 774] (by decide +kernel) (by decide +kernel)
set_option maxRecDepth 20000 in
theorem gL_law_X5_layAll : GoodIn wsL_law (wsV RL 121 RX5 yX5_layAll wsX5_layAll) := goodIn_app (goodIn_of _ (by decide +kernel)) ggL_law_X5_layAll
set_option maxRecDepth 20000 in
theorem ggL_law_L_undo : GoodIn wsL_law wsL_undo := goodIn_ca (goodIn_r _ [484, 146, 485, 486, 487, 2, 488, 25, 16, 489, 490, 491, 24, 492, 87, 194, 195, 196, 197, 198, 493, 494, 495, 496, 86, 92, 93, 94, 95, 48, 96, 97, 98, 15, 99, 35, 36, 37, 38, 100, 101, 102, 103, 104, 105, 106, 89, 90, 91, 107, 108, 109, 110, 758, 759, 760, 761, 762, 785, 786, 787, 775, 776, 777, 778, 779, 780, 781] (by decide +kernel) (by decide +kernel)) (goodIn_sub (fun _ h => List.mem_append_right _ h) (by decide +kernel))
