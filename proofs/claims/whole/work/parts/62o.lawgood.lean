set_option maxRecDepth 20000 in
theorem ggL_law_X6_bitCount : GoodIn wsL_law wsX6_bitCount := goodIn_r _ [710, 86, 520, 521, 522, 5, 523, 313, 85, 524, 525, 526, 527, 411, 412, 413, 414, 314, 320, 321, 322, 528, 529, 530, 531, 532, 533, 155, 156, 157, 534, 551, 552, 553, 554, 539, 540, 541, 542, 543, 544, 545, 546, 547, 548, 549, 550, 84, 555, 556, 557, 558, 559, 560, 561, 562, 563, 564, 565, 566, 567, 568, 569, 570, 571, 220, 221, 572, 573, 574, 575, 576, 577, 578, 579, 580, 581, 582, 815, 816, 817, 818, 819, 820, 821, 822, 823, 824, 825, 826, 827, 828, 829] (by decide +kernel) (by decide +kernel)
set_option maxRecDepth 20000 in
theorem gL_law_X6_bitCount : GoodIn wsL_law (wsV RL 142 RX6 yX6_bitCount wsX6_bitCount) := goodIn_app (goodIn_of _ (by decide +kernel)) ggL_law_X6_bitCount
set_option maxRecDepth 20000 in
theorem ggL_law_L_bit : GoodIn wsL_law wsL_bit := goodIn_ca (goodIn_r _ [713, 346, 714, 715, 716, 2, 717, 355, 356, 24, 28, 505, 506, 507, 508, 126, 127, 128, 129, 13, 14, 122, 123, 124, 125, 146, 147, 148, 22, 149, 53, 134, 135, 136, 137, 138, 139, 140, 141, 718, 719, 720, 27, 721, 59, 805, 806, 807, 808, 809, 810, 811, 812, 813, 814, 835, 836, 837] (by decide +kernel) (by decide +kernel)) (goodIn_sub (fun _ h => List.mem_append_right _ h) (by decide +kernel))
set_option maxRecDepth 20000 in
theorem gL_law_L_bit : GoodIn wsL_law (va_wsS RL 143 yL_bit wsL_bit) := goodIn_app (goodIn_of _ (by decide +kernel)) ggL_law_L_bit
set_option maxRecDepth 20000 in
theorem ggL_law_X6_bit : GoodIn wsL_law wsX6_bit := goodIn_r _ [725, 86, 726, 92, 520, 521, 522, 5, 523, 313, 85, 524, 525, 526, 527, 411, 412, 413, 414, 314, 320, 321, 322, 528, 529, 530, 531, 532, 533, 155, 156, 157, 534, 727, 728, 729, 730, 547, 548, 549, 550, 84, 731, 732, 733, 734, 735, 736, 737, 738, 739, 740, 741, 742, 743, 543, 544, 545, 546, 744, 745, 746, 747, 555, 556, 557, 558, 559, 560, 561, 562, 563, 564, 565, 566, 572, 573, 574, 575, 567, 568, 569, 570, 571, 220, 221, 576, 577, 578, 579, 580, 581, 582, 323, 324, 325, 326, 815, 816, 817, 818, 819, 820, 821, 822, 823, 824, 825, 826, 827, 828, 829] (by decide +kernel) (by decide +kernel)
set_option maxRecDepth 20000 in
theorem gL_law_X6_bit : GoodIn wsL_law (wsV RL 145 RX6 yX6_bit wsX6_bit) := goodIn_app (goodIn_of _ (by decide +kernel)) ggL_law_X6_bit
set_option maxRecDepth 20000 in
theorem ggL_law_X5_size : GoodIn wsL_law wsX5_size := goodIn_r _ [751, 24, 126, 127, 128, 2, 129, 13, 14, 122, 123, 124, 125, 146, 147, 148, 22, 149, 53, 805, 806, 807, 808, 809, 810, 811, 812, 813, 814, 835] (by decide +kernel) (by decide +kernel)
set_option maxRecDepth 20000 in
theorem gL_law_X5_size : GoodIn wsL_law (wsV RL 146 RX5 yX5_size wsX5_size) := goodIn_app (goodIn_of _ (by decide +kernel)) ggL_law_X5_size
