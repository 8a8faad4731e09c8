set_option maxRecDepth 20000 in
theorem wsL_law0_r17_in : ∀ w ∈ wsL_law0_r17, w ∈ lw_tbl := fun w h => (goodIn_r (big := lw_tbl) wsL_law0_r17 [663, 664, 665, 666, 680, 681, 682, 683, 684, 52] (by rfl) (by decide +kernel) w h).1
set_option maxRecDepth 20000 in
theorem wsX20_tbl : ∀ w ∈ wsX20, w ∈ lw_tbl := by decide +kernel
set_option maxRecDepth 20000 in
theorem wsX00_tbl : ∀ w ∈ wsX00, w ∈ lw_tbl := by decide +kernel
set_option maxRecDepth 20000 in
theorem wsX10_tbl : ∀ w ∈ wsX10, w ∈ lw_tbl := by decide +kernel
set_option maxRecDepth 20000 in
theorem wsJ00_tbl : ∀ w ∈ wsJ00, w ∈ lw_tbl := by decide +kernel
