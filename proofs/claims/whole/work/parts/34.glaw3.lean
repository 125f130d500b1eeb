set_option maxRecDepth 20000 in
theorem gL_law_L_undo : GoodIn wsL_law (va_wsS RL 122 yL_undo wsL_undo) := goodIn_app (goodIn_of _ (by decide +kernel)) ggL_law_L_undo
set_option maxRecDepth 20000 in
theorem ggL_law_X5_undo : GoodIn wsL_law wsX5_undo := goodIn_r _ [500, 122, 137, 59, 61, 129, 130, 131, 5, 132, 763, 764, 765, 766, 767, 768, 769, 770, 771, 772, 773, 774] (by decide +kernel) (by decide +kernel)
set_option maxRecDepth 20000 in
theorem gL_law_X5_undo : GoodIn wsL_law (wsV RL 124 RX5 yX5_undo wsX5_undo) := goodIn_app (goodIn_of _ (by decide +kernel)) ggL_law_X5_undo
set_option maxRecDepth 20000 in
theorem ggL_law_L_course : GoodIn wsL_law wsL_course := goodIn_ca (goodIn_ca (goodIn_r _ [503, 145, 69, 504, 505, 506, 2, 507, 16, 151, 152, 153, 154, 155, 156, 157, 158, 77, 78, 79, 80, 81, 508, 325, 326, 15, 327, 328, 329, 330, 331, 35, 167, 168, 169, 332, 333, 334, 335, 178, 179, 180, 181, 36, 336, 337, 338, 339, 37, 163, 164, 165, 166, 340, 341, 342, 343, 190, 191, 192, 193, 344, 345, 346, 347, 186, 187, 188, 189, 348, 349, 350, 351, 758, 759, 760, 761, 762, 775, 776, 777, 778, 779, 780, 781] (by decide +kernel) (by decide +kernel)) (goodIn_sub (fun _ h => List.mem_append_left _ (List.mem_append_right _ h)) (by decide +kernel))) (goodIn_sub (fun _ h => List.mem_append_left _ (List.mem_append_left _ (List.mem_append_right _ h))) (by decide +kernel))
set_option maxRecDepth 20000 in
theorem gL_law_L_course : GoodIn wsL_law (va_wsS RL 125 yL_course wsL_course) := goodIn_app (goodIn_of _ (by decide +kernel)) ggL_law_L_course
set_option maxRecDepth 20000 in
theorem ggL_law_X5_course : GoodIn wsL_law wsX5_course := goodIn_r _ [512, 122, 212, 213, 5, 214, 126, 127, 128, 129, 130, 131, 132, 513, 514, 515, 516, 59, 230, 231, 232, 221, 222, 223, 218, 219, 220, 224, 225, 226, 227, 228, 229, 517, 518, 519, 520, 521, 522, 242, 243, 244, 236, 237, 238, 239, 240, 241, 523, 524, 525, 526, 763, 764, 765, 766, 767, 768, 769, 770, 771, 772, 773, 774] (by decide +kernel) (by decide +kernel)
set_option maxRecDepth 20000 in
theorem gL_law_X5_course : GoodIn wsL_law (wsV RL 127 RX5 yX5_course wsX5_course) := goodIn_app (goodIn_of _ (by decide +kernel)) ggL_law_X5_course
set_option maxRecDepth 20000 in
theorem ggL_law_L_cell : GoodIn wsL_law wsL_cell := goodIn_ca (goodIn_ca (goodIn_r _ [529, 145, 69, 530, 531, 532, 2, 533, 16, 151, 152, 153, 154, 155, 156, 157, 158, 534, 329, 330, 15, 331, 35, 167, 168, 169, 77, 78, 79, 80, 81, 535, 536, 537, 538, 539, 540, 90, 541, 178, 179, 180, 181, 36, 336, 337, 338, 339, 37, 542, 191, 192, 193, 543, 544, 545, 546, 187, 188, 189, 547, 183, 184, 185, 186, 190, 758, 759, 760, 761, 762, 775, 776, 777, 778, 779, 780, 781] (by decide +kernel) (by decide +kernel)) (goodIn_sub (fun _ h => List.mem_append_left _ (List.mem_append_right _ h)) (by decide +kernel))) (goodIn_sub (fun _ h => List.mem_append_left _ (List.mem_append_left _ (List.mem_append_right _ h))) (by decide +kernel))
set_option maxRecDepth 20000 in
theorem gL_law_L_cell : GoodIn wsL_law (va_wsS RL 128 yL_cell wsL_cell) := goodIn_app (goodIn_of _ (by decide +kernel)) ggL_law_L_cell
set_option maxRecDepth 20000 in
theorem ggL_law_X5_cell : GoodIn wsL_law wsX5_cell := goodIn_r _ [551, 122, 59, 212, 213, 5, 214, 126, 127, 128, 230, 231, 232, 129, 130, 131, 132, 552, 553, 554, 555, 556, 557, 558, 559, 221, 222, 223, 224, 225, 226, 242, 243, 244, 239, 240, 241, 236, 237, 238, 763, 764, 765, 766, 767, 768, 769, 770, 771, 772, 773, 774] (by decide +kernel) (by decide +kernel)
set_option maxRecDepth 20000 in
theorem gL_law_X5_cell : GoodIn wsL_law (wsV RL 131 RX5 yX5_cell wsX5_cell) := goodIn_app (goodIn_of _ (by decide +kernel)) ggL_law_X5_cell
set_option maxRecDepth 20000 in
theorem ggL_law_L_refusal : GoodIn wsL_law wsL_refusal := goodIn_ca (goodIn_ca (goodIn_r _ [562, 145, 69, 563, 564, 565, 2, 566, 16, 151, 152, 153, 154, 155, 156, 157, 158, 74, 75, 76, 77, 78, 79, 80, 81, 159, 160, 161, 15, 162, 163, 164, 165, 166, 35, 36, 167, 168, 169, 170, 171, 172, 173, 174, 175, 176, 177, 38, 178, 179, 180, 181, 182, 183, 184, 185, 186, 187, 188, 189, 190, 191, 192, 193, 37, 758, 759, 760, 761, 762, 775, 776, 777, 778, 779, 780, 781] (by decide +kernel) (by decide +kernel)) (goodIn_sub (fun _ h => List.mem_append_left _ (List.mem_append_right _ h)) (by decide +kernel))) (goodIn_sub (fun _ h => List.mem_append_left _ (List.mem_append_left _ (List.mem_append_right _ h))) (by decide +kernel))
set_option maxRecDepth 20000 in
theorem gL_law_L_refusal : GoodIn wsL_law (va_wsS RL 132 yL_refusal wsL_refusal) := goodIn_app (goodIn_of _ (by decide +kernel)) ggL_law_L_refusal
set_option maxRecDepth 20000 in
theorem ggL_law_X5_refusal : GoodIn wsL_law wsX5_refusal := goodIn_r _ [570, 122, 59, 212, 213, 5, 214, 126, 127, 128, 129, 130, 131, 132, 123, 124, 125, 215, 216, 217, 218, 219, 220, 221, 222, 223, 224, 225, 226, 227, 228, 229, 230, 231, 232, 233, 234, 235, 236, 237, 238, 239, 240, 241, 242, 243, 244, 763, 764, 765, 766, 767, 768, 769, 770, 771, 772, 773, 774] (by decide +kernel) (by decide +kernel)
set_option maxRecDepth 20000 in
theorem gL_law_X5_refusal : GoodIn wsL_law (wsV RL 135 RX5 yX5_refusal wsX5_refusal) := goodIn_app (goodIn_of _ (by decide +kernel)) ggL_law_X5_refusal
set_option maxRecDepth 20000 in
theorem ggL_law_L_stockOf : GoodIn wsL_law wsL_stockOf := goodIn_ca (goodIn_r _ [573, 69, 574, 575, 576, 2, 577, 16, 74, 75, 76, 77, 78, 79, 80, 81, 578, 175, 176, 15, 177, 38, 758, 759, 760, 761, 762, 775, 776, 777, 778, 779, 780, 781] (by decide +kernel) (by decide +kernel)) (goodIn_sub (fun _ h => List.mem_append_left _ (List.mem_append_left _ (List.mem_append_right _ h))) (by decide +kernel))
set_option maxRecDepth 20000 in
theorem gL_law_L_stockOf : GoodIn wsL_law (va_wsS RL 136 yL_stockOf wsL_stockOf) := goodIn_app (goodIn_of _ (by decide +kernel)) ggL_law_L_stockOf
