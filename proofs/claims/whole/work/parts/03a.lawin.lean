set_option maxRecDepth 20000 in
theorem wsL_law0_r1_in : ∀ w ∈ wsL_law0_r1, w ∈ lw_tbl := fun w h => (goodIn_r (big := lw_tbl) wsL_law0_r1 [67, 68, 52, 695, 696, 55, 928, 929, 69, 70, 71, 72, 73, 74, 75, 76, 53, 166, 111, 112, 54, 167, 168, 78] (by decide +kernel) (by decide +kernel) w h).1
set_option maxRecDepth 20000 in
theorem wsL_law0_r2_in : ∀ w ∈ wsL_law0_r2, w ∈ lw_tbl := fun w h => (goodIn_r (big := lw_tbl) wsL_law0_r2 [79, 80, 109, 81, 83, 85, 86, 88, 110, 90, 114, 115, 116, 117, 118, 165, 119, 121, 123, 125, 127, 129, 131, 133] (by decide +kernel) (by decide +kernel) w h).1
set_option maxRecDepth 20000 in
theorem wsL_law0_r3_in : ∀ w ∈ wsL_law0_r3, w ∈ lw_tbl := fun w h => (goodIn_r (big := lw_tbl) wsL_law0_r3 [134, 697, 698, 699, 700, 701, 702, 703, 704, 705, 707, 708, 709, 710, 711, 712, 713, 714, 715, 716, 180, 181, 51, 182] (by decide +kernel) (by decide +kernel) w h).1
set_option maxRecDepth 20000 in
theorem wsL_law0_r4_in : ∀ w ∈ wsL_law0_r4, w ∈ lw_tbl := fun w h => (goodIn_r (big := lw_tbl) wsL_law0_r4 [183, 184, 185, 186, 187, 188, 192, 59, 267, 60, 189, 190, 191, 265, 1, 266, 92, 285, 2, 286, 289, 3, 290, 136] (by decide +kernel) (by decide +kernel) w h).1
set_option maxRecDepth 20000 in
theorem wsL_law0_r5_in : ∀ w ∈ wsL_law0_r5, w ∈ lw_tbl := fun w h => (goodIn_r (big := lw_tbl) wsL_law0_r5 [291, 292, 61, 293, 763, 764, 765, 766, 706, 719, 717, 718, 770, 767, 768, 769, 759, 760, 761, 762, 294, 295, 296, 297] (by decide +kernel) (by decide +kernel) w h).1
set_option maxRecDepth 20000 in
theorem wsL_law0_r6_in : ∀ w ∈ wsL_law0_r6, w ∈ lw_tbl := fun w h => (goodIn_r (big := lw_tbl) wsL_law0_r6 [321, 322, 323, 324, 325, 327, 4, 328, 333, 62, 331, 5, 332, 771, 772, 773, 774, 775, 777, 37, 778, 346, 347, 348] (by decide +kernel) (by decide +kernel) w h).1
set_option maxRecDepth 20000 in
theorem wsL_law0_r7_in : ∀ w ∈ wsL_law0_r7, w ∈ lw_tbl := fun w h => (goodIn_r (big := lw_tbl) wsL_law0_r7 [349, 350, 351, 352, 354, 356, 6, 357, 360, 7, 361, 365, 8, 366, 367, 779, 780, 781, 782, 368, 369, 370, 371, 372] (by decide +kernel) (by decide +kernel) w h).1
set_option maxRecDepth 20000 in
theorem wsL_law0_r8_in : ∀ w ∈ wsL_law0_r8, w ∈ lw_tbl := fun w h => (goodIn_r (big := lw_tbl) wsL_law0_r8 [373, 374, 783, 784, 785, 786, 375, 376, 377, 378, 379, 380, 381, 787, 788, 789, 790, 382, 383, 384, 385, 386, 387, 388] (by decide +kernel) (by decide +kernel) w h).1
set_option maxRecDepth 20000 in
theorem wsL_law0_r9_in : ∀ w ∈ wsL_law0_r9, w ∈ lw_tbl := fun w h => (goodIn_r (big := lw_tbl) wsL_law0_r9 [391, 9, 392, 135, 393, 395, 10, 396, 791, 792, 793, 794, 795, 397, 398, 399, 400, 401, 402, 403, 404, 416, 65, 436] (by decide +kernel) (by decide +kernel) w h).1
set_option maxRecDepth 20000 in
theorem wsL_law0_r10_in : ∀ w ∈ wsL_law0_r10, w ∈ lw_tbl := fun w h => (goodIn_r (big := lw_tbl) wsL_law0_r10 [405, 407, 11, 408, 409, 410, 411, 414, 12, 415, 434, 13, 435, 796, 797, 798, 799, 800, 802, 38, 803, 804, 806, 39] (by decide +kernel) (by decide +kernel) w h).1
set_option maxRecDepth 20000 in
theorem wsL_law0_r11_in : ∀ w ∈ wsL_law0_r11, w ∈ lw_tbl := fun w h => (goodIn_r (big := lw_tbl) wsL_law0_r11 [807, 808, 810, 40, 811, 437, 438, 439, 440, 441, 442, 443, 444, 445, 446, 452, 14, 453, 457, 15, 458, 812, 813, 814] (by decide +kernel) (by decide +kernel) w h).1
set_option maxRecDepth 20000 in
theorem wsL_law0_r12_in : ∀ w ∈ wsL_law0_r12, w ∈ lw_tbl := fun w h => (goodIn_r (big := lw_tbl) wsL_law0_r12 [815, 816, 818, 41, 819, 820, 822, 42, 823, 459, 460, 461, 462, 463, 464, 465, 824, 825, 826, 827, 467, 468, 469, 470] (by decide +kernel) (by decide +kernel) w h).1
