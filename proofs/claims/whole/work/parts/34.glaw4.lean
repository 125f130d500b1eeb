set_option maxRecDepth 20000 in
theorem ggL_law_X5_stockOf : GoodIn wsL_law wsX5_stockOf := goodIn_r _ [582, 122, 59, 123, 124, 5, 125, 126, 127, 128, 129, 130, 131, 132, 763, 764, 765, 766, 767, 768, 769, 770, 771, 772, 773, 774] (by decide +kernel) (by decide +kernel)
set_option maxRecDepth 20000 in
theorem gL_law_X5_stockOf : GoodIn wsL_law (wsV RL 138 RX5 yX5_stockOf wsX5_stockOf) := goodIn_app (goodIn_of _ (by decide +kernel)) ggL_law_X5_stockOf
set_option maxRecDepth 20000 in
theorem ggL_law_L_count : GoodIn wsL_law wsL_count := goodIn_ca (goodIn_r _ [585, 69, 586, 587, 588, 2, 589, 16, 25, 77, 78, 79, 80, 81, 320, 321, 322, 15, 323, 324, 325, 326, 327, 328, 329, 330, 331, 35, 167, 168, 169, 332, 333, 334, 335, 178, 179, 180, 181, 36, 336, 337, 338, 339, 37, 163, 164, 165, 166, 340, 341, 342, 343, 190, 191, 192, 193, 344, 345, 346, 347, 186, 187, 188, 189, 348, 349, 350, 351, 590, 591, 592, 593, 182, 183, 184, 185, 594, 595, 596, 597, 102, 598, 599, 600, 601, 174, 175, 176, 177, 38, 489, 490, 491, 24, 492, 87, 758, 759, 760, 761, 762, 775, 776, 777, 778, 779, 780, 781, 785, 786, 787] (by decide +kernel) (by decide +kernel)) (goodIn_sub (fun _ h => List.mem_append_left _ (List.mem_append_left _ (List.mem_append_right _ h))) (by decide +kernel))
set_option maxRecDepth 20000 in
theorem gL_law_L_count : GoodIn wsL_law (va_wsS RL 139 yL_count wsL_count) := goodIn_app (goodIn_of _ (by decide +kernel)) ggL_law_L_count
set_option maxRecDepth 20000 in
theorem ggL_law_X5_count : GoodIn wsL_law wsX5_count := goodIn_r _ [605, 122, 126, 127, 5, 128, 606, 607, 608, 609, 59, 137, 383, 384, 385, 221, 222, 223, 359, 360, 361, 227, 228, 229, 218, 219, 220, 224, 225, 226, 230, 231, 232, 517, 518, 519, 520, 521, 522, 242, 243, 244, 236, 237, 238, 239, 240, 241, 523, 524, 525, 526, 129, 130, 131, 132, 763, 764, 765, 766, 767, 768, 769, 770, 771, 772, 773, 774] (by decide +kernel) (by decide +kernel)
set_option maxRecDepth 20000 in
theorem gL_law_X5_count : GoodIn wsL_law (wsV RL 141 RX5 yX5_count wsX5_count) := goodIn_app (goodIn_of _ (by decide +kernel)) ggL_law_X5_count
set_option maxRecDepth 20000 in
theorem ggL_law_L_setting : GoodIn wsL_law wsL_setting := goodIn_ca (goodIn_r _ [612, 145, 613, 614, 615, 2, 616, 16, 369, 370, 371, 154, 155, 156, 157, 158, 285, 286, 287, 15, 288, 35, 100, 101, 758, 759, 760, 761, 762, 775, 776, 777, 778, 779, 780, 781] (by decide +kernel) (by decide +kernel)) (goodIn_sub (fun _ h => List.mem_append_left _ (List.mem_append_right _ h)) (by decide +kernel))
set_option maxRecDepth 20000 in
theorem gL_law_L_setting : GoodIn wsL_law (va_wsS RL 142 yL_setting wsL_setting) := goodIn_app (goodIn_of _ (by decide +kernel)) ggL_law_L_setting
set_option maxRecDepth 20000 in
theorem ggL_law_X5_setting : GoodIn wsL_law wsX5_setting := goodIn_r _ [620, 122, 59, 126, 127, 5, 128, 129, 130, 131, 132, 763, 764, 765, 766, 767, 768, 769, 770, 771, 772, 773, 774] (by decide +kernel) (by decide +kernel)
set_option maxRecDepth 20000 in
theorem gL_law_X5_setting : GoodIn wsL_law (wsV RL 144 RX5 yX5_setting wsX5_setting) := goodIn_app (goodIn_of _ (by decide +kernel)) ggL_law_X5_setting
set_option maxRecDepth 20000 in
theorem ggL_law_L_fewest : GoodIn wsL_law wsL_fewest := goodIn_ca (goodIn_r _ [623, 145, 624, 625, 626, 2, 627, 21, 16, 151, 152, 153, 154, 155, 156, 157, 158, 628, 629, 630, 20, 631, 632, 633, 42, 634, 179, 180, 15, 181, 36, 167, 168, 169, 635, 329, 330, 331, 35, 636, 183, 184, 185, 186, 187, 188, 189, 190, 191, 192, 193, 37, 637, 638, 639, 640, 641, 642, 643, 644, 645, 646, 647, 648, 758, 759, 760, 761, 762, 782, 783, 784, 775, 776, 777, 778, 779, 780, 781] (by decide +kernel) (by decide +kernel)) (goodIn_sub (fun _ h => List.mem_append_left _ (List.mem_append_right _ h)) (by decide +kernel))
set_option maxRecDepth 20000 in
theorem gL_law_L_fewest : GoodIn wsL_law (va_wsS RL 145 yL_fewest wsL_fewest) := goodIn_app (goodIn_of _ (by decide +kernel)) ggL_law_L_fewest
set_option maxRecDepth 20000 in
theorem ggL_law_X5_fewest : GoodIn wsL_law wsX5_fewest := goodIn_r _ [652, 122, 212, 213, 5, 214, 126, 127, 128, 653, 654, 655, 656, 59, 64, 230, 231, 232, 218, 219, 220, 221, 222, 223, 224, 225, 226, 236, 237, 238, 239, 240, 241, 242, 243, 244, 129, 130, 131, 132, 763, 764, 765, 766, 767, 768, 769, 770, 771, 772, 773, 774] (by decide +kernel) (by decide +kernel)
set_option maxRecDepth 20000 in
theorem gL_law_X5_fewest : GoodIn wsL_law (wsV RL 147 RX5 yX5_fewest wsX5_fewest) := goodIn_app (goodIn_of _ (by decide +kernel)) ggL_law_X5_fewest
set_option maxRecDepth 20000 in
theorem ggL_law_L_nextSize : GoodIn wsL_law wsL_nextSize := goodIn_ca (goodIn_r _ [659, 145, 660, 661, 662, 2, 663, 21, 16, 151, 152, 153, 154, 155, 156, 157, 158, 628, 629, 630, 20, 631, 632, 633, 42, 634, 179, 180, 15, 181, 36, 167, 168, 169, 635, 329, 330, 331, 35, 636, 183, 184, 185, 186, 187, 188, 189, 190, 191, 192, 193, 37, 637, 638, 639, 640, 641, 642, 643, 644, 664, 665, 666, 667, 758, 759, 760, 761, 762, 782, 783, 784, 775, 776, 777, 778, 779, 780, 781] (by decide +kernel) (by decide +kernel)) (goodIn_sub (fun _ h => List.mem_append_left _ (List.mem_append_right _ h)) (by decide +kernel))
set_option maxRecDepth 20000 in
theorem gL_law_L_nextSize : GoodIn wsL_law (va_wsS RL 148 yL_nextSize wsL_nextSize) := goodIn_app (goodIn_of _ (by decide +kernel)) ggL_law_L_nextSize
set_option maxRecDepth 20000 in
theorem ggL_law_X5_nextSize : GoodIn wsL_law wsX5_nextSize := goodIn_r _ [671, 122, 212, 213, 5, 214, 126, 127, 128, 653, 654, 655, 656, 59, 64, 230, 231, 232, 218, 219, 220, 221, 222, 223, 224, 225, 226, 236, 237, 238, 239, 240, 241, 242, 243, 244, 129, 130, 131, 132, 763, 764, 765, 766, 767, 768, 769, 770, 771, 772, 773, 774] (by decide +kernel) (by decide +kernel)
