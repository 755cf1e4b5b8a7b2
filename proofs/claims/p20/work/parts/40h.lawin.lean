set_option maxRecDepth 20000 in
theorem wsL_law0_r43_in : ∀ w ∈ wsL_law0_r43, w ∈ lw_tbl := mem_ps [1583, 1585, 71, 1586, 1587, 1589, 72, 1590, 1591, 1593, 73, 1594, 1595, 1597, 74, 1598, 1599, 1601, 75, 1602, 1144, 1145, 1146, 1147] (by decide +kernel)
set_option maxRecDepth 20000 in
theorem wsL_law0_r44_in : ∀ w ∈ wsL_law0_r44, w ∈ lw_tbl := mem_ps [1148, 1149, 1150, 310, 297, 295, 1151, 1152, 1153, 1154, 1155, 1156, 1157, 1158, 1604, 1605, 1606, 1607, 1159, 1160, 1161, 1162, 1163, 1164] (by decide +kernel)
set_option maxRecDepth 20000 in
theorem wsL_law0_r45_in : ∀ w ∈ wsL_law0_r45, w ∈ lw_tbl := mem_ps [1165, 155, 157, 1166, 1167, 101, 1168, 1169, 1170, 1171, 1172, 1174, 35, 1175, 1176, 1177, 1178, 1179, 1608, 1609, 1610, 1611] (by decide +kernel)
