/-! the law's words lie in the tables, by their places -/
set_option maxRecDepth 20000 in
theorem wsL_ch10 : ∀ w ∈ wsL_law0_r10, w ∈ lw_tbl := fun w h => (goodIn_r (big := lw_tbl) wsL_law0_r10 [148, 149, 150, 347, 348, 349, 151, 152, 153, 154, 338, 339, 341, 13, 342, 343, 344, 345, 346, 350, 418, 419, 420, 421] (by decide +kernel) (by decide +kernel) w h).1
set_option maxRecDepth 20000 in
theorem wsL_ch11 : ∀ w ∈ wsL_law0_r11, w ∈ lw_tbl := fun w h => (goodIn_r (big := lw_tbl) wsL_law0_r11 [422, 424, 21, 425, 426, 428, 22, 429, 430, 431, 432, 433, 434, 436, 23, 437, 438, 440, 24, 441, 442, 443, 444, 445] (by decide +kernel) (by decide +kernel) w h).1
set_option maxRecDepth 20000 in
theorem wsL_ch12 : ∀ w ∈ wsL_law0_r12, w ∈ lw_tbl := fun w h => (goodIn_r (big := lw_tbl) wsL_law0_r12 [446, 447, 448, 449, 450, 451, 452, 453, 405, 406, 407, 408, 454, 455, 456, 457, 458, 460, 25, 461, 462, 463, 464, 465] (by decide +kernel) (by decide +kernel) w h).1
set_option maxRecDepth 20000 in
theorem wsL_ch13 : ∀ w ∈ wsL_law0_r13, w ∈ lw_tbl := fun w h => (goodIn_r (big := lw_tbl) wsL_law0_r13 [466, 467, 468, 469, 470, 472, 26, 473, 474, 475, 476, 477, 478, 359, 360, 361, 362, 363, 364, 365, 366, 847, 848, 849] (by decide +kernel) (by decide +kernel) w h).1
set_option maxRecDepth 20000 in
theorem wsL_ch14 : ∀ w ∈ wsL_law0_r14, w ∈ lw_tbl := fun w h => (goodIn_r (big := lw_tbl) wsL_law0_r14 [850, 797, 798, 851, 852, 853, 854, 855, 856, 857, 858, 859, 861, 36, 862, 863, 865, 37, 866, 843, 844, 845, 846, 627] (by decide +kernel) (by decide +kernel) w h).1
set_option maxRecDepth 20000 in
theorem wsL_ch15 : ∀ w ∈ wsL_law0_r15, w ∈ lw_tbl := fun w h => (goodIn_r (big := lw_tbl) wsL_law0_r15 [628, 629, 630, 867, 868, 869, 870, 631, 632, 633, 634, 635, 636, 637, 638, 639, 641, 31, 642, 643, 79, 871, 872, 873] (by decide +kernel) (by decide +kernel) w h).1
set_option maxRecDepth 20000 in
theorem wsL_ch16 : ∀ w ∈ wsL_law0_r16, w ∈ lw_tbl := fun w h => (goodIn_r (big := lw_tbl) wsL_law0_r16 [874, 660, 661, 662, 663, 664, 665, 666, 875, 876, 877, 878, 230, 231, 232, 233, 879, 880, 881, 882, 668, 669, 670, 671] (by decide +kernel) (by decide +kernel) w h).1
set_option maxRecDepth 20000 in
theorem wsL_ch17 : ∀ w ∈ wsL_law0_r17, w ∈ lw_tbl := fun w h => (goodIn_r (big := lw_tbl) wsL_law0_r17 [672, 673, 674, 883, 884, 885, 886, 675, 676, 677, 678, 679, 680, 681, 492, 494, 27, 495, 887, 888, 889, 890, 234, 891] (by decide +kernel) (by decide +kernel) w h).1
set_option maxRecDepth 20000 in
theorem wsL_ch18 : ∀ w ∈ wsL_law0_r18, w ∈ lw_tbl := fun w h => (goodIn_r (big := lw_tbl) wsL_law0_r18 [892, 893, 894, 895, 897, 38, 898, 683, 684, 685, 686, 687, 688, 689, 690, 691, 692, 367, 368, 369, 370, 695, 696, 697] (by decide +kernel) (by decide +kernel) w h).1
