set_option maxRecDepth 20000 in
theorem wsL_law0_r10_in : ∀ w ∈ wsL_law0_r10, w ∈ lw_tbl := fun w h => (goodIn_r (big := lw_tbl) wsL_law0_r10 [437, 15, 438, 600, 601, 602, 603, 525, 25, 526, 652, 653, 654, 655, 656, 657, 658, 659, 162, 163, 164, 165, 447, 448] (by rfl) (by decide +kernel) w h).1
set_option maxRecDepth 20000 in
theorem wsL_law0_r11_in : ∀ w ∈ wsL_law0_r11, w ∈ lw_tbl := fun w h => (goodIn_r (big := lw_tbl) wsL_law0_r11 [449, 450, 451, 452, 453, 454, 456, 16, 457, 460, 461, 462, 463, 464, 465, 466, 467, 468, 469, 470, 471, 472, 474, 17] (by rfl) (by decide +kernel) w h).1
set_option maxRecDepth 20000 in
theorem wsL_law0_r12_in : ∀ w ∈ wsL_law0_r12, w ∈ lw_tbl := fun w h => (goodIn_r (big := lw_tbl) wsL_law0_r12 [475, 477, 478, 479, 480, 482, 483, 484, 485, 488, 18, 489, 490, 492, 19, 493, 496, 20, 497, 352, 500, 21, 501, 504] (by rfl) (by decide +kernel) w h).1
set_option maxRecDepth 20000 in
theorem wsL_law0_r13_in : ∀ w ∈ wsL_law0_r13, w ∈ lw_tbl := fun w h => (goodIn_r (big := lw_tbl) wsL_law0_r13 [22, 505, 506, 507, 508, 509, 510, 515, 516, 517, 518, 521, 24, 522, 172, 173, 174, 177, 178, 179, 180, 257, 1, 258] (by rfl) (by decide +kernel) w h).1
