set_option maxRecDepth 20000 in
theorem ggL_law_X6_addQuery : GoodIn wsL_law wsX6_addQuery := goodIn_r _ [437, 313, 438, 88, 89, 90, 91, 320, 321, 5, 322, 315, 316, 317, 318, 319, 323, 324, 325, 326, 815, 816, 817, 818, 819, 820, 821, 822, 823, 824, 825, 826, 827, 828, 829] (by decide +kernel) (by decide +kernel)
set_option maxRecDepth 20000 in
theorem gL_law_X6_addQuery : GoodIn wsL_law (wsV RL 110 RX6 yX6_addQuery wsX6_addQuery) := goodIn_app (goodIn_of _ (by decide +kernel)) ggL_law_X6_addQuery
set_option maxRecDepth 20000 in
theorem ggL_law_X5_clearQueries : GoodIn wsL_law wsX5_clearQueries := goodIn_r _ [442, 19, 443, 444, 445, 18, 446, 47, 805, 806, 807, 808, 809, 810, 811, 812, 813, 814, 830, 831, 832, 833, 834] (by decide +kernel) (by decide +kernel)
set_option maxRecDepth 20000 in
theorem gL_law_X5_clearQueries : GoodIn wsL_law (wsV RL 111 RX5 yX5_clearQueries wsX5_clearQueries) := goodIn_app (goodIn_of _ (by decide +kernel)) ggL_law_X5_clearQueries
set_option maxRecDepth 20000 in
theorem ggL_law_X6_clearQueries : GoodIn wsL_law wsX6_clearQueries := goodIn_r _ [450, 313, 438, 815, 816, 817, 818, 819, 820, 821, 822, 823, 824, 825, 826, 827, 828, 829] (by decide +kernel) (by decide +kernel)
set_option maxRecDepth 20000 in
theorem gL_law_X6_clearQueries : GoodIn wsL_law (wsV RL 114 RX6 yX6_clearQueries wsX6_clearQueries) := goodIn_app (goodIn_of _ (by decide +kernel)) ggL_law_X6_clearQueries
set_option maxRecDepth 20000 in
theorem ggL_law_L_setPrice : GoodIn wsL_law wsL_setPrice := goodIn_ca (goodIn_r _ [453, 97, 454, 455, 456, 2, 457, 107, 108, 15, 805, 806, 807, 808, 809, 810, 811, 812, 813, 814] (by decide +kernel) (by decide +kernel)) (goodIn_sub (fun _ h => List.mem_append_left _ (List.mem_append_left _ (List.mem_append_right _ h))) (by decide +kernel))
set_option maxRecDepth 20000 in
theorem gL_law_L_setPrice : GoodIn wsL_law (va_wsS RL 115 yL_setPrice wsL_setPrice) := goodIn_app (goodIn_of _ (by decide +kernel)) ggL_law_L_setPrice
