set_option maxRecDepth 20000 in
theorem wsL_law0_r6_in : ∀ w ∈ wsL_law0_r6, w ∈ lw_tbl := fun w h => (goodIn_r (big := lw_tbl) wsL_law0_r6 [411, 413, 414, 415, 416, 339, 341, 6, 342, 259, 47, 608, 609, 610, 612, 613, 614, 44, 615, 706, 616, 617, 618, 619] (by rfl) (by decide +kernel) w h).1
set_option maxRecDepth 20000 in
theorem wsL_law0_r7_in : ∀ w ∈ wsL_law0_r7, w ∈ lw_tbl := fun w h => (goodIn_r (big := lw_tbl) wsL_law0_r7 [620, 705, 622, 623, 48, 624, 625, 626, 627, 628, 630, 631, 49, 632, 633, 634, 50, 635, 636, 637, 638, 639, 640, 641] (by rfl) (by decide +kernel) w h).1
set_option maxRecDepth 20000 in
theorem wsL_law0_r8_in : ∀ w ∈ wsL_law0_r8, w ∈ lw_tbl := fun w h => (goodIn_r (big := lw_tbl) wsL_law0_r8 [642, 643, 644, 645, 646, 648, 650, 576, 577, 578, 175, 579, 580, 581, 582, 562, 563, 564, 184, 51, 181, 182, 183, 568] (by rfl) (by decide +kernel) w h).1
set_option maxRecDepth 20000 in
theorem wsL_law0_r9_in : ∀ w ∈ wsL_law0_r9, w ∈ lw_tbl := fun w h => (goodIn_r (big := lw_tbl) wsL_law0_r9 [30, 569, 583, 584, 585, 586, 589, 32, 590, 591, 513, 23, 514, 592, 594, 33, 595, 432, 14, 433, 596, 598, 34, 599] (by rfl) (by decide +kernel) w h).1
