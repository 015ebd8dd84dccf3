/-! the law's words lie in the tables, by their places -/
set_option maxRecDepth 20000 in
theorem wsL_ch1 : ∀ w ∈ wsL_law0_r1, w ∈ lw_tbl := fun w h => (goodIn_r (big := lw_tbl) wsL_law0_r1 [80, 81, 66, 791, 792, 72, 1083, 82, 83, 84, 85, 86, 87, 199, 200, 201, 88, 89, 67, 202, 121, 95, 68, 203] (by decide +kernel) (by decide +kernel) w h).1
set_option maxRecDepth 20000 in
theorem wsL_ch2 : ∀ w ∈ wsL_law0_r2, w ∈ lw_tbl := fun w h => (goodIn_r (big := lw_tbl) wsL_law0_r2 [204, 123, 124, 69, 205, 206, 136, 137, 70, 207, 178, 179, 71, 208, 90, 91, 92, 93, 94, 105, 106, 107, 108, 109] (by decide +kernel) (by decide +kernel) w h).1
set_option maxRecDepth 20000 in
theorem wsL_ch3 : ∀ w ∈ wsL_law0_r3, w ∈ lw_tbl := fun w h => (goodIn_r (big := lw_tbl) wsL_law0_r3 [96, 97, 98, 99, 104, 100, 122, 125, 126, 127, 128, 129, 130, 138, 139, 140, 141, 144, 142, 145, 146, 143, 180, 181] (by decide +kernel) (by decide +kernel) w h).1
set_option maxRecDepth 20000 in
theorem wsL_ch4 : ∀ w ∈ wsL_law0_r4, w ∈ lw_tbl := fun w h => (goodIn_r (big := lw_tbl) wsL_law0_r4 [182, 183, 186, 187, 188, 184, 189, 185, 793, 794, 795, 796, 799, 800, 801, 802, 804, 805, 806, 807, 811, 519, 520, 65] (by decide +kernel) (by decide +kernel) w h).1
set_option maxRecDepth 20000 in
theorem wsL_ch5 : ∀ w ∈ wsL_law0_r5, w ∈ lw_tbl := fun w h => (goodIn_r (big := lw_tbl) wsL_law0_r5 [521, 522, 523, 524, 525, 526, 527, 528, 529, 530, 531, 543, 76, 611, 77, 532, 533, 534, 535, 536, 537, 538, 539, 540] (by decide +kernel) (by decide +kernel) w h).1
set_option maxRecDepth 20000 in
theorem wsL_ch6 : ∀ w ∈ wsL_law0_r6, w ∈ lw_tbl := fun w h => (goodIn_r (big := lw_tbl) wsL_law0_r6 [541, 542, 238, 240, 0, 241, 254, 235, 236, 237, 259, 261, 2, 262, 263, 265, 3, 266, 267, 269, 4, 270, 271, 272] (by decide +kernel) (by decide +kernel) w h).1
set_option maxRecDepth 20000 in
theorem wsL_ch7 : ∀ w ∈ wsL_law0_r7, w ∈ lw_tbl := fun w h => (goodIn_r (big := lw_tbl) wsL_law0_r7 [273, 274, 275, 276, 277, 278, 279, 281, 5, 282, 283, 284, 78, 285, 286, 287, 288, 289, 290, 292, 6, 293, 294, 296] (by decide +kernel) (by decide +kernel) w h).1
set_option maxRecDepth 20000 in
theorem wsL_ch8 : ∀ w ∈ wsL_law0_r8, w ∈ lw_tbl := fun w h => (goodIn_r (big := lw_tbl) wsL_law0_r8 [7, 297, 302, 298, 299, 300, 301, 303, 304, 305, 306, 307, 309, 8, 310, 311, 313, 9, 314, 315, 317, 10, 318, 319] (by decide +kernel) (by decide +kernel) w h).1
set_option maxRecDepth 20000 in
theorem wsL_ch9 : ∀ w ∈ wsL_law0_r9, w ∈ lw_tbl := fun w h => (goodIn_r (big := lw_tbl) wsL_law0_r9 [320, 321, 322, 323, 325, 11, 326, 327, 329, 12, 330, 331, 332, 333, 479, 414, 416, 20, 417, 334, 335, 336, 337, 147] (by decide +kernel) (by decide +kernel) w h).1
