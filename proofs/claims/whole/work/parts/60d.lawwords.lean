/-! the law's words lie in the tables, by their places -/
set_option maxRecDepth 20000 in
theorem wsL_ch28 : ∀ w ∈ wsL_law0_r28, w ∈ lw_tbl := fun w h => (goodIn_r (big := lw_tbl) wsL_law0_r28 [15, 358, 371, 372, 373, 374, 1004, 1005, 1006, 1007, 1008, 1010, 57, 1011, 250, 251, 252, 253, 351, 353, 14, 354, 1012, 1013] (by decide +kernel) (by decide +kernel) w h).1
set_option maxRecDepth 20000 in
theorem wsL_ch29 : ∀ w ∈ wsL_law0_r29, w ∈ lw_tbl := fun w h => (goodIn_r (big := lw_tbl) wsL_law0_r29 [1014, 1015, 1016, 1018, 58, 1019, 761, 762, 763, 764, 765, 766, 767, 1020, 1021, 1022, 1023, 769, 770, 771, 772, 773, 774, 775] (by decide +kernel) (by decide +kernel) w h).1
set_option maxRecDepth 20000 in
theorem wsL_ch30 : ∀ w ∈ wsL_law0_r30, w ∈ lw_tbl := fun w h => (goodIn_r (big := lw_tbl) wsL_law0_r30 [1024, 1025, 1026, 1027, 776, 777, 778, 779, 780, 781, 782, 1028, 1029, 1030, 1031, 783, 784, 785, 786, 787, 788, 789, 515, 516] (by decide +kernel) (by decide +kernel) w h).1
set_option maxRecDepth 20000 in
theorem wsL_ch31 : ∀ w ∈ wsL_law0_r31, w ∈ lw_tbl := fun w h => (goodIn_r (big := lw_tbl) wsL_law0_r31 [517, 518, 1032, 1033, 1034, 1035, 810, 1036, 1038, 59, 1039, 1040, 1042, 60, 1043, 1044, 1045, 1047, 61, 1048, 1049, 1051, 62, 1052] (by decide +kernel) (by decide +kernel) w h).1
set_option maxRecDepth 20000 in
theorem wsL_ch32 : ∀ w ∈ wsL_law0_r32, w ∈ lw_tbl := fun w h => (goodIn_r (big := lw_tbl) wsL_law0_r32 [1053, 1055, 63, 1056, 480, 481, 482, 483, 1057, 1058, 1059, 1060, 1061, 1063, 64, 1064, 484, 485, 486, 487, 1065, 1066, 1067, 1068] (by decide +kernel) (by decide +kernel) w h).1
set_option maxRecDepth 20000 in
theorem wsL_ch33 : ∀ w ∈ wsL_law0_r33, w ∈ lw_tbl := fun w h => (goodIn_r (big := lw_tbl) wsL_law0_r33 [488, 489, 490, 491, 496, 498, 28, 499, 1069, 1070, 1071, 1072, 500, 501, 502, 503, 504, 1073, 1074, 1075, 1076, 505, 506, 507] (by decide +kernel) (by decide +kernel) w h).1
set_option maxRecDepth 20000 in
theorem wsL_ch34 : ∀ w ∈ wsL_law0_r34, w ∈ lw_tbl := fun w h => (goodIn_r (big := lw_tbl) wsL_law0_r34 [508, 509, 510, 511, 513, 29, 514, 1077, 1078, 1079, 1080, 1081, 1082] (by decide +kernel) (by decide +kernel) w h).1
