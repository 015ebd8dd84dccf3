set_option maxRecDepth 20000 in
theorem ggL_law_X6_use : GoodIn wsL_law wsX6_use := goodIn_r _ [688, 86, 520, 521, 522, 5, 523, 313, 85, 524, 525, 526, 527, 411, 412, 413, 414, 314, 320, 321, 322, 528, 529, 530, 531, 532, 533, 155, 156, 157, 534, 535, 536, 537, 538, 539, 540, 541, 542, 543, 544, 545, 546, 547, 548, 549, 550, 84, 323, 324, 325, 326, 815, 816, 817, 818, 819, 820, 821, 822, 823, 824, 825, 826, 827, 828, 829] (by decide +kernel) (by decide +kernel)
set_option maxRecDepth 20000 in
theorem gL_law_X6_use : GoodIn wsL_law (wsV RL 136 RX6 yX6_use wsX6_use) := goodIn_app (goodIn_of _ (by decide +kernel)) ggL_law_X6_use
set_option maxRecDepth 20000 in
theorem ggL_law_L_encoding : GoodIn wsL_law wsL_encoding := goodIn_ca (goodIn_r _ [691, 346, 692, 693, 694, 2, 695, 23, 505, 506, 507, 508, 355, 356, 126, 127, 128, 129, 13, 14, 122, 123, 124, 125, 146, 147, 148, 22, 149, 53, 805, 806, 807, 808, 809, 810, 811, 812, 813, 814, 835] (by decide +kernel) (by decide +kernel)) (goodIn_sub (fun _ h => List.mem_append_right _ h) (by decide +kernel))
set_option maxRecDepth 20000 in
theorem gL_law_L_encoding : GoodIn wsL_law (va_wsS RL 137 yL_encoding wsL_encoding) := goodIn_app (goodIn_of _ (by decide +kernel)) ggL_law_L_encoding
set_option maxRecDepth 20000 in
theorem ggL_law_X6_encoding : GoodIn wsL_law wsX6_encoding := goodIn_r _ [699, 86, 520, 521, 522, 5, 523, 313, 85, 524, 525, 526, 527, 411, 412, 413, 414, 314, 320, 321, 322, 528, 529, 530, 531, 532, 533, 155, 156, 157, 534, 815, 816, 817, 818, 819, 820, 821, 822, 823, 824, 825, 826, 827, 828, 829] (by decide +kernel) (by decide +kernel)
set_option maxRecDepth 20000 in
theorem gL_law_X6_encoding : GoodIn wsL_law (wsV RL 139 RX6 yX6_encoding wsX6_encoding) := goodIn_app (goodIn_of _ (by decide +kernel)) ggL_law_X6_encoding
set_option maxRecDepth 20000 in
theorem ggL_law_L_bitCount : GoodIn wsL_law wsL_bitCount := goodIn_ca (goodIn_r _ [702, 346, 703, 704, 705, 2, 706, 24, 505, 506, 507, 508, 355, 356, 126, 127, 128, 129, 13, 14, 122, 123, 124, 125, 146, 147, 148, 22, 149, 53, 805, 806, 807, 808, 809, 810, 811, 812, 813, 814, 835] (by decide +kernel) (by decide +kernel)) (goodIn_sub (fun _ h => List.mem_append_right _ h) (by decide +kernel))
set_option maxRecDepth 20000 in
theorem gL_law_L_bitCount : GoodIn wsL_law (va_wsS RL 140 yL_bitCount wsL_bitCount) := goodIn_app (goodIn_of _ (by decide +kernel)) ggL_law_L_bitCount
