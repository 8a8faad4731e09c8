set_option maxRecDepth 20000 in
theorem wsL_law0_r16_in : ∀ w ∈ wsL_law0_r16, w ∈ lw_tbl := fun w h => (goodIn_r (big := lw_tbl) wsL_law0_r16 [543, 544, 545, 549, 28, 550, 551, 553, 29, 554, 555, 556, 557, 558, 559, 560, 561, 574, 31, 575, 660, 661, 662, 687] (by rfl) (by decide +kernel) w h).1
