set_option maxRecDepth 20000 in
theorem wsL_law0_r14_in : ∀ w ∈ wsL_law0_r14, w ∈ lw_tbl := fun w h => (goodIn_r (big := lw_tbl) wsL_law0_r14 [277, 2, 278, 281, 3, 282, 286, 287, 288, 313, 314, 315, 316, 350, 8, 351, 439, 440, 441, 442, 443, 444, 445, 417] (by rfl) (by decide +kernel) w h).1
set_option maxRecDepth 20000 in
theorem wsL_law0_r15_in : ∀ w ∈ wsL_law0_r15, w ∈ lw_tbl := fun w h => (goodIn_r (big := lw_tbl) wsL_law0_r15 [418, 419, 420, 421, 422, 423, 424, 425, 426, 527, 528, 529, 530, 531, 532, 533, 536, 26, 537, 538, 540, 27, 541, 542] (by rfl) (by decide +kernel) w h).1
