set_option maxRecDepth 20000 in
theorem wsL_law0_r1_in : ∀ w ∈ wsL_law0_r1, w ∈ lw_tbl := fun w h => (goodIn_r (big := lw_tbl) wsL_law0_r1 [53, 54, 36, 689, 688, 284, 45, 285, 95, 691, 55, 56, 57, 58, 59, 60, 61, 62, 37, 152, 97, 98, 38, 153] (by rfl) (by decide +kernel) w h).1
set_option maxRecDepth 20000 in
theorem wsL_law0_r2_in : ∀ w ∈ wsL_law0_r2, w ∈ lw_tbl := fun w h => (goodIn_r (big := lw_tbl) wsL_law0_r2 [154, 64, 65, 66, 67, 69, 71, 72, 74, 96, 76, 100, 101, 102, 103, 104, 151, 105, 107, 109, 111, 113, 115, 117] (by rfl) (by decide +kernel) w h).1
set_option maxRecDepth 20000 in
theorem wsL_law0_r3_in : ∀ w ∈ wsL_law0_r3, w ∈ lw_tbl := fun w h => (goodIn_r (big := lw_tbl) wsL_law0_r3 [119, 120, 166, 167, 35, 168, 169, 170, 171, 605, 606, 607, 353, 354, 355, 289, 356, 176, 357, 358, 359, 360, 317, 319] (by rfl) (by decide +kernel) w h).1
set_option maxRecDepth 20000 in
theorem wsL_law0_r4_in : ∀ w ∈ wsL_law0_r4, w ∈ lw_tbl := fun w h => (goodIn_r (big := lw_tbl) wsL_law0_r4 [4, 320, 325, 42, 323, 5, 324, 78, 361, 362, 363, 364, 365, 366, 367, 368, 371, 9, 372, 121, 283, 373, 375, 10] (by rfl) (by decide +kernel) w h).1
set_option maxRecDepth 20000 in
theorem wsL_law0_r5_in : ∀ w ∈ wsL_law0_r5, w ∈ lw_tbl := fun w h => (goodIn_r (big := lw_tbl) wsL_law0_r5 [376, 122, 377, 378, 379, 380, 392, 46, 412, 381, 383, 11, 384, 345, 7, 346, 385, 386, 387, 390, 12, 391, 410, 13] (by rfl) (by decide +kernel) w h).1
