/-! the law's words lie in the tables, by their places -/
set_option maxRecDepth 20000 in
theorem wsL_ch19 : ∀ w ∈ wsL_law0_r19, w ∈ lw_tbl := fun w h => (goodIn_r (big := lw_tbl) wsL_law0_r19 [698, 699, 899, 900, 901, 902, 803, 242, 243, 244, 245, 246, 247, 248, 249, 903, 904, 905, 906, 700, 701, 702, 703, 704] (by decide +kernel) (by decide +kernel) w h).1
set_option maxRecDepth 20000 in
theorem wsL_ch20 : ∀ w ∈ wsL_law0_r20, w ∈ lw_tbl := fun w h => (goodIn_r (big := lw_tbl) wsL_law0_r20 [705, 706, 907, 908, 909, 910, 708, 709, 710, 711, 712, 713, 714, 715, 717, 32, 718, 720, 381, 382, 383, 375, 721, 385] (by decide +kernel) (by decide +kernel) w h).1
set_option maxRecDepth 20000 in
theorem wsL_ch21 : ∀ w ∈ wsL_law0_r21, w ∈ lw_tbl := fun w h => (goodIn_r (big := lw_tbl) wsL_law0_r21 [386, 387, 722, 393, 394, 395, 723, 725, 33, 726, 727, 729, 34, 730, 911, 912, 913, 914, 731, 732, 733, 734, 735, 736] (by decide +kernel) (by decide +kernel) w h).1
set_option maxRecDepth 20000 in
theorem wsL_ch22 : ∀ w ∈ wsL_law0_r22, w ∈ lw_tbl := fun w h => (goodIn_r (big := lw_tbl) wsL_law0_r22 [737, 738, 740, 35, 741, 743, 744, 745, 255, 257, 1, 258, 915, 916, 917, 918, 919, 921, 39, 922, 923, 925, 40, 926] (by decide +kernel) (by decide +kernel) w h).1
set_option maxRecDepth 20000 in
theorem wsL_ch23 : ∀ w ∈ wsL_law0_r23, w ∈ lw_tbl := fun w h => (goodIn_r (big := lw_tbl) wsL_law0_r23 [927, 929, 41, 930, 808, 931, 809, 932, 934, 42, 935, 936, 938, 43, 939, 940, 942, 44, 943, 944, 946, 45, 947, 948] (by decide +kernel) (by decide +kernel) w h).1
set_option maxRecDepth 20000 in
theorem wsL_ch24 : ∀ w ∈ wsL_law0_r24, w ∈ lw_tbl := fun w h => (goodIn_r (big := lw_tbl) wsL_law0_r24 [950, 46, 951, 952, 954, 47, 955, 956, 957, 959, 48, 960, 961, 962, 963, 964, 966, 49, 967, 968, 969, 971, 50, 972] (by decide +kernel) (by decide +kernel) w h).1
set_option maxRecDepth 20000 in
theorem wsL_ch25 : ∀ w ∈ wsL_law0_r25, w ∈ lw_tbl := fun w h => (goodIn_r (big := lw_tbl) wsL_law0_r25 [973, 975, 51, 976, 977, 978, 979, 747, 748, 749, 750, 751, 752, 753, 413, 376, 377, 378, 379, 396, 380, 384, 388, 390] (by decide +kernel) (by decide +kernel) w h).1
set_option maxRecDepth 20000 in
theorem wsL_ch26 : ∀ w ∈ wsL_law0_r26, w ∈ lw_tbl := fun w h => (goodIn_r (big := lw_tbl) wsL_law0_r26 [16, 391, 392, 397, 399, 17, 400, 401, 403, 18, 404, 409, 411, 19, 412, 980, 981, 982, 983, 984, 986, 52, 987, 988] (by decide +kernel) (by decide +kernel) w h).1
set_option maxRecDepth 20000 in
theorem wsL_ch27 : ∀ w ∈ wsL_law0_r27, w ∈ lw_tbl := fun w h => (goodIn_r (big := lw_tbl) wsL_law0_r27 [990, 53, 991, 992, 994, 54, 995, 996, 998, 55, 999, 1000, 1002, 56, 1003, 754, 755, 756, 757, 758, 759, 760, 355, 357] (by decide +kernel) (by decide +kernel) w h).1
