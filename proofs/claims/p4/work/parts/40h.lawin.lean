set_option maxRecDepth 20000 in
theorem wsL_law0_r43_in : ∀ w ∈ wsL_law0_r43, w ∈ lw_tbl := fun w h => (goodIn_p wsL_law0_r43 [1586, 1590, 1594, 1598, 1602] (by decide +kernel) (by decide +kernel) w h).1
set_option maxRecDepth 20000 in
theorem wsL_law0_r44_in : ∀ w ∈ wsL_law0_r44, w ∈ lw_tbl := fun w h => (goodIn_p wsL_law0_r44 [1150, 1154, 1157, 1607] (by decide +kernel) (by decide +kernel) w h).1
set_option maxRecDepth 20000 in
theorem wsL_law0_r45_in : ∀ w ∈ wsL_law0_r45, w ∈ lw_tbl := fun w h => (goodIn_p wsL_law0_r45 [1165, 1168, 1175, 1179, 1611] (by decide +kernel) (by decide +kernel) w h).1
