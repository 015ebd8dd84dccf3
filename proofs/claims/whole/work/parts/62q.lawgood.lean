set_option maxRecDepth 20000 in
theorem ggL_law_X6_bestSegmentSize : GoodIn wsL_law wsX6_bestSegmentSize := goodIn_r _ [779, 313, 411, 412, 413, 5, 414, 314, 528, 529, 530, 531, 532, 533, 155, 156, 157, 534, 674, 675, 676, 677, 535, 536, 537, 538, 539, 540, 541, 542, 543, 544, 545, 546, 547, 548, 549, 550, 84, 658, 659, 660, 661, 87, 438, 91, 551, 552, 553, 554, 555, 556, 557, 558, 559, 560, 561, 562, 563, 564, 565, 566, 567, 568, 569, 570, 571, 220, 221, 572, 573, 574, 575, 576, 577, 578, 579, 580, 581, 582, 619, 620, 621, 622, 89, 88, 90, 623, 624, 625, 626, 627, 628, 629, 630, 631, 632, 633, 634, 635, 636, 637, 638, 815, 816, 817, 818, 819, 820, 821, 822, 823, 824, 825, 826, 827, 828, 829] (by decide +kernel) (by decide +kernel)
set_option maxRecDepth 20000 in
theorem gL_law_X6_bestSegmentSize : GoodIn wsL_law (wsV RL 157 RX6 yX6_bestSegmentSize wsX6_bestSegmentSize) := goodIn_app (goodIn_of _ (by decide +kernel)) ggL_law_X6_bestSegmentSize
set_option maxRecDepth 20000 in
theorem ggL_law_X5_ratio : GoodIn wsL_law wsX5_ratio := goodIn_r _ [783, 13, 784, 749, 750, 2, 751, 24, 126, 127, 128, 129, 14, 122, 123, 124, 125, 146, 147, 148, 22, 149, 53, 805, 806, 807, 808, 809, 810, 811, 812, 813, 814, 835] (by decide +kernel) (by decide +kernel)
set_option maxRecDepth 20000 in
theorem gL_law_X5_ratio : GoodIn wsL_law (wsV RL 158 RX5 yX5_ratio wsX5_ratio) := goodIn_app (goodIn_of _ (by decide +kernel)) ggL_law_X5_ratio
set_option maxRecDepth 20000 in
theorem ggL_law_X6_ratio : GoodIn wsL_law wsX6_ratio := goodIn_r _ [788, 313, 314, 756, 757, 758, 5, 759, 85, 86, 411, 412, 413, 414, 528, 529, 530, 531, 532, 533, 155, 156, 157, 534, 551, 552, 553, 554, 539, 540, 541, 542, 543, 544, 545, 546, 547, 548, 549, 550, 84, 555, 556, 557, 558, 559, 560, 561, 562, 563, 564, 565, 566, 567, 568, 569, 570, 571, 220, 221, 572, 573, 574, 575, 576, 577, 578, 579, 580, 581, 582, 815, 816, 817, 818, 819, 820, 821, 822, 823, 824, 825, 826, 827, 828, 829] (by decide +kernel) (by decide +kernel)
set_option maxRecDepth 20000 in
theorem gL_law_X6_ratio : GoodIn wsL_law (wsV RL 162 RX6 yX6_ratio wsX6_ratio) := goodIn_app (goodIn_of _ (by decide +kernel)) ggL_law_X6_ratio
set_option maxRecDepth 20000 in
theorem ggL_law_X5_digest : GoodIn wsL_law wsX5_digest := goodIn_r _ [792, 793, 794, 13, 14, 15, 19, 425, 426, 427, 18, 428, 47, 126, 127, 128, 2, 129, 122, 123, 124, 125, 795, 796, 797, 798, 24, 23, 28, 134, 135, 136, 137, 138, 139, 140, 141, 146, 147, 148, 22, 149, 53, 718, 719, 720, 27, 721, 59, 805, 806, 807, 808, 809, 810, 811, 812, 813, 814, 830, 831, 832, 833, 834, 835, 836, 837] (by decide +kernel) (by decide +kernel)
set_option maxRecDepth 20000 in
theorem gL_law_X5_digest : GoodIn wsL_law (wsV RL 163 RX5 yX5_digest wsX5_digest) := goodIn_app (goodIn_of _ (by decide +kernel)) ggL_law_X5_digest
