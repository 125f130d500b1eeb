set_option maxRecDepth 20000 in
theorem gL_law_X5_cut : GoodIn wsL_law (wsV RL 92 RX5 yX5_cut wsX5_cut) := goodIn_app (goodIn_of _ (by decide +kernel)) ggL_law_X5_cut
set_option maxRecDepth 20000 in
theorem ggL_law_L_takeUp : GoodIn wsL_law wsL_takeUp := goodIn_ca (goodIn_ca (goodIn_r _ [261, 145, 69, 262, 263, 264, 2, 265, 25, 16, 151, 152, 153, 154, 155, 156, 157, 158, 77, 78, 79, 80, 81, 82, 83, 84, 24, 85, 86, 87, 88, 89, 90, 91, 92, 93, 94, 95, 48, 96, 97, 98, 15, 99, 35, 36, 37, 38, 100, 101, 102, 103, 104, 105, 106, 107, 108, 109, 110, 266, 267, 268, 269, 167, 168, 169, 270, 271, 272, 273, 115, 116, 117, 758, 759, 760, 761, 762, 785, 786, 787, 775, 776, 777, 778, 779, 780, 781] (by decide +kernel) (by decide +kernel)) (goodIn_sub (fun _ h => List.mem_append_left _ (List.mem_append_right _ h)) (by decide +kernel))) (goodIn_sub (fun _ h => List.mem_append_left _ (List.mem_append_left _ (List.mem_append_right _ h))) (by decide +kernel))
set_option maxRecDepth 20000 in
theorem gL_law_L_takeUp : GoodIn wsL_law (va_wsS RL 93 yL_takeUp wsL_takeUp) := goodIn_app (goodIn_of _ (by decide +kernel)) ggL_law_L_takeUp
set_option maxRecDepth 20000 in
theorem ggL_law_X5_takeUp : GoodIn wsL_law wsX5_takeUp := goodIn_r _ [277, 122, 59, 212, 213, 5, 214, 126, 127, 128, 129, 130, 131, 132, 133, 134, 135, 136, 137, 61, 221, 222, 223, 224, 225, 226, 763, 764, 765, 766, 767, 768, 769, 770, 771, 772, 773, 774] (by decide +kernel) (by decide +kernel)
set_option maxRecDepth 20000 in
theorem gL_law_X5_takeUp : GoodIn wsL_law (wsV RL 95 RX5 yX5_takeUp wsX5_takeUp) := goodIn_app (goodIn_of _ (by decide +kernel)) ggL_law_X5_takeUp
set_option maxRecDepth 20000 in
theorem ggL_law_L_fill : GoodIn wsL_law wsL_fill := goodIn_ca (goodIn_r _ [280, 145, 281, 282, 283, 2, 284, 25, 16, 151, 152, 153, 154, 155, 156, 157, 158, 82, 83, 84, 24, 85, 86, 87, 88, 89, 90, 91, 92, 93, 94, 95, 48, 96, 97, 98, 15, 99, 35, 36, 37, 38, 100, 101, 102, 103, 104, 105, 106, 107, 108, 109, 110, 285, 286, 287, 288, 289, 290, 291, 292, 293, 294, 295, 296, 174, 175, 176, 177, 297, 160, 161, 162, 163, 164, 165, 166, 167, 168, 169, 170, 171, 172, 173, 178, 179, 180, 181, 182, 183, 184, 185, 186, 187, 188, 189, 190, 191, 192, 193, 298, 299, 300, 301, 302, 201, 202, 203, 115, 116, 117, 758, 759, 760, 761, 762, 785, 786, 787, 775, 776, 777, 778, 779, 780, 781] (by decide +kernel) (by decide +kernel)) (goodIn_sub (fun _ h => List.mem_append_left _ (List.mem_append_right _ h)) (by decide +kernel))
set_option maxRecDepth 20000 in
theorem gL_law_L_fill : GoodIn wsL_law (va_wsS RL 96 yL_fill wsL_fill) := goodIn_app (goodIn_of _ (by decide +kernel)) ggL_law_L_fill
set_option maxRecDepth 20000 in
theorem ggL_law_X5_fill : GoodIn wsL_law wsX5_fill := goodIn_r _ [306, 122, 59, 212, 213, 5, 214, 126, 127, 128, 129, 130, 131, 132, 133, 134, 135, 136, 137, 61, 307, 308, 309, 310, 311, 312, 215, 216, 217, 218, 219, 220, 221, 222, 223, 224, 225, 226, 227, 228, 229, 230, 231, 232, 233, 234, 235, 236, 237, 238, 239, 240, 241, 242, 243, 244, 313, 314, 315, 245, 246, 247, 763, 764, 765, 766, 767, 768, 769, 770, 771, 772, 773, 774] (by decide +kernel) (by decide +kernel)
set_option maxRecDepth 20000 in
theorem gL_law_X5_fill : GoodIn wsL_law (wsV RL 99 RX5 yX5_fill wsX5_fill) := goodIn_app (goodIn_of _ (by decide +kernel)) ggL_law_X5_fill
set_option maxRecDepth 20000 in
theorem ggL_law_X4_fillAll : GoodIn wsL_law wsX4_fillAll := goodIn_r _ [319, 25, 16, 82, 83, 84, 24, 85, 86, 87, 88, 89, 90, 91, 92, 93, 94, 95, 48, 96, 97, 98, 15, 99, 35, 36, 37, 38, 100, 101, 102, 103, 104, 105, 106, 107, 108, 109, 110, 285, 286, 287, 288, 289, 290, 291, 292, 293, 294, 295, 296, 174, 175, 176, 177, 297, 160, 161, 162, 163, 164, 165, 166, 167, 168, 169, 170, 171, 172, 173, 178, 179, 180, 181, 182, 183, 184, 185, 186, 187, 188, 189, 190, 191, 192, 193, 298, 299, 300, 301, 302, 201, 202, 203, 115, 116, 117, 320, 321, 322, 323, 324, 325, 326, 327, 328, 329, 330, 331, 332, 333, 334, 335, 336, 337, 338, 339, 340, 341, 342, 343, 344, 345, 346, 347, 348, 349, 350, 351, 758, 759, 760, 761, 762, 785, 786, 787, 775, 776, 777, 778, 779, 780, 781] (by decide +kernel) (by decide +kernel)
set_option maxRecDepth 20000 in
theorem gL_law_X4_fillAll : GoodIn wsL_law (wsV RL 100 RX4 yX4_fillAll wsX4_fillAll) := goodIn_app (goodIn_of _ (by decide +kernel)) ggL_law_X4_fillAll
set_option maxRecDepth 20000 in
theorem ggL_law_X5_fillAll : GoodIn wsL_law wsX5_fillAll := goodIn_r _ [355, 122, 59, 133, 134, 135, 5, 136, 137, 61, 356, 357, 358, 307, 308, 309, 310, 311, 312, 215, 216, 217, 218, 219, 220, 221, 222, 223, 224, 225, 226, 227, 228, 229, 230, 231, 232, 233, 234, 235, 236, 237, 238, 239, 240, 241, 242, 243, 244, 313, 314, 315, 245, 246, 247, 359, 360, 361, 763, 764, 765, 766, 767, 768, 769, 770, 771, 772, 773, 774] (by decide +kernel) (by decide +kernel)
set_option maxRecDepth 20000 in
theorem gL_law_X5_fillAll : GoodIn wsL_law (wsV RL 103 RX5 yX5_fillAll wsX5_fillAll) := goodIn_app (goodIn_of _ (by decide +kernel)) ggL_law_X5_fillAll
set_option maxRecDepth 20000 in
theorem ggL_law_L_set : GoodIn wsL_law wsL_set := goodIn_ca (goodIn_ca (goodIn_ca (goodIn_r _ [364, 145, 69, 146, 365, 366, 367, 2, 368, 16, 25, 369, 370, 371, 154, 155, 156, 157, 158, 372, 373, 374, 77, 78, 79, 80, 81, 320, 321, 322, 15, 323, 324, 325, 326, 327, 328, 329, 330, 331, 35, 167, 168, 169, 332, 333, 334, 335, 178, 179, 180, 181, 36, 336, 337, 338, 339, 37, 163, 164, 165, 166, 340, 341, 342, 343, 190, 191, 192, 193, 344, 345, 346, 347, 186, 187, 188, 189, 348, 349, 350, 351, 194, 195, 196, 197, 198, 82, 83, 84, 24, 85, 86, 87, 88, 89, 90, 91, 92, 93, 94, 95, 48, 96, 97, 98, 99, 38, 100, 101, 102, 103, 104, 105, 106, 107, 108, 109, 110, 285, 286, 287, 288, 375, 376, 377, 378, 758, 759, 760, 761, 762, 775, 776, 777, 778, 779, 780, 781, 785, 786, 787] (by decide +kernel) (by decide +kernel)) (goodIn_sub (fun _ h => List.mem_append_left _ (List.mem_append_right _ h)) (by decide +kernel))) (goodIn_sub (fun _ h => List.mem_append_left _ (List.mem_append_left _ (List.mem_append_right _ h))) (by decide +kernel))) (goodIn_sub (fun _ h => List.mem_append_right _ h) (by decide +kernel))
set_option maxRecDepth 20000 in
theorem gL_law_L_set : GoodIn wsL_law (va_wsS RL 104 yL_set wsL_set) := goodIn_app (goodIn_of _ (by decide +kernel)) ggL_law_L_set
set_option maxRecDepth 20000 in
theorem ggL_law_X5_set : GoodIn wsL_law wsX5_set := goodIn_r _ [382, 122, 59, 126, 127, 5, 128, 129, 130, 131, 132, 383, 384, 385, 221, 222, 223, 133, 134, 135, 136, 137, 61, 763, 764, 765, 766, 767, 768, 769, 770, 771, 772, 773, 774] (by decide +kernel) (by decide +kernel)
set_option maxRecDepth 20000 in
theorem gL_law_X5_set : GoodIn wsL_law (wsV RL 106 RX5 yX5_set wsX5_set) := goodIn_app (goodIn_of _ (by decide +kernel)) ggL_law_X5_set
