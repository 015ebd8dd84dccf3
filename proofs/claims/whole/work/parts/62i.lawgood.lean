set_option maxRecDepth 20000 in
theorem ggL_law_X6_setSegmentSize : GoodIn wsL_law wsX6_setSegmentSize := goodIn_r _ [405, 313, 85, 314, 320, 321, 5, 322, 323, 324, 325, 326, 327, 328, 329, 330, 86, 815, 816, 817, 818, 819, 820, 821, 822, 823, 824, 825, 826, 827, 828, 829] (by decide +kernel) (by decide +kernel)
set_option maxRecDepth 20000 in
theorem gL_law_X6_setSegmentSize : GoodIn wsL_law (wsV RL 102 RX6 yX6_setSegmentSize wsX6_setSegmentSize) := goodIn_app (goodIn_of _ (by decide +kernel)) ggL_law_X6_setSegmentSize
set_option maxRecDepth 20000 in
theorem ggL_law_X5_segmentCount : GoodIn wsL_law wsX5_segmentCount := goodIn_r _ [129, 13, 14, 122, 123, 124, 2, 125, 805, 806, 807, 808, 809, 810, 811, 812, 813, 814] (by decide +kernel) (by decide +kernel)
set_option maxRecDepth 20000 in
theorem gL_law_X5_segmentCount : GoodIn wsL_law (wsV RL 103 RX5 yX5_segmentCount wsX5_segmentCount) := goodIn_app (goodIn_of _ (by decide +kernel)) ggL_law_X5_segmentCount
set_option maxRecDepth 20000 in
theorem ggL_law_X6_segmentCount : GoodIn wsL_law wsX6_segmentCount := goodIn_r _ [410, 313, 85, 411, 412, 413, 5, 414, 314, 815, 816, 817, 818, 819, 820, 821, 822, 823, 824, 825, 826, 827, 828, 829] (by decide +kernel) (by decide +kernel)
set_option maxRecDepth 20000 in
theorem gL_law_X6_segmentCount : GoodIn wsL_law (wsV RL 106 RX6 yX6_segmentCount wsX6_segmentCount) := goodIn_app (goodIn_of _ (by decide +kernel)) ggL_law_X6_segmentCount
set_option maxRecDepth 20000 in
theorem ggL_law_L_addQuery : GoodIn wsL_law wsL_addQuery := goodIn_ca (goodIn_ca (goodIn_r _ [417, 97, 98, 418, 419, 420, 2, 421, 107, 108, 109, 110, 19, 422, 423, 424, 114, 115, 116, 117, 118, 425, 426, 427, 18, 428, 47, 429, 430, 431, 432, 43, 44, 45, 46, 433, 176, 177, 22, 178, 53, 805, 806, 807, 808, 809, 810, 811, 812, 813, 814, 830, 831, 832, 833, 834, 835] (by decide +kernel) (by decide +kernel)) (goodIn_sub (fun _ h => List.mem_append_left _ (List.mem_append_left _ (List.mem_append_right _ h))) (by decide +kernel))) (goodIn_sub (fun _ h => List.mem_append_left _ (List.mem_append_right _ h)) (by decide +kernel))
set_option maxRecDepth 20000 in
theorem gL_law_L_addQuery : GoodIn wsL_law (va_wsS RL 107 yL_addQuery wsL_addQuery) := goodIn_app (goodIn_of _ (by decide +kernel)) ggL_law_L_addQuery
