set_option maxRecDepth 20000 in
theorem wsL_law0_r37_in : ∀ w ∈ wsL_law0_r37, w ∈ lw_tbl := mem_ps [1070, 239, 1071, 1073, 25, 1074, 1075, 1077, 26, 1078, 1079, 1081, 27, 1082, 1084, 1085, 1086, 1087, 317, 318, 311, 257, 296, 299] (by decide +kernel)
set_option maxRecDepth 20000 in
theorem wsL_law0_r38_in : ∀ w ∈ wsL_law0_r38, w ∈ lw_tbl := mem_ps [1088, 1090, 28, 1091, 256, 254, 233, 1092, 1093, 1094, 1095, 298, 1096, 1098, 1097, 99, 1099, 1101, 29, 1140, 1142, 34, 1143, 238] (by decide +kernel)
set_option maxRecDepth 20000 in
theorem wsL_law0_r39_in : ∀ w ∈ wsL_law0_r39, w ∈ lw_tbl := mem_ps [1103, 1105, 30, 1106, 237, 235, 1108, 1110, 31, 1111, 228, 231, 1112, 1113, 1115, 32, 1116, 1120, 100, 1119, 1117, 1118, 1136, 1138] (by decide +kernel)
set_option maxRecDepth 20000 in
theorem wsL_law0_r40_in : ∀ w ∈ wsL_law0_r40, w ∈ lw_tbl := mem_ps [33, 1139, 540, 727, 1102, 1523, 1524, 1525, 1526, 1603, 1245, 1239, 1246, 1527, 1529, 57, 1530, 1230, 1231, 1531, 1533, 58, 1534, 1535] (by decide +kernel)
set_option maxRecDepth 20000 in
theorem wsL_law0_r41_in : ∀ w ∈ wsL_law0_r41, w ∈ lw_tbl := mem_ps [1537, 59, 1538, 1539, 1541, 60, 1542, 1543, 1545, 61, 1546, 1233, 1547, 1549, 62, 1550, 1551, 1553, 63, 1554, 1555, 1557, 64, 1558] (by decide +kernel)
set_option maxRecDepth 20000 in
theorem wsL_law0_r42_in : ∀ w ∈ wsL_law0_r42, w ∈ lw_tbl := mem_ps [1559, 1561, 65, 1562, 1563, 1565, 66, 1566, 1567, 1569, 67, 1570, 1571, 1573, 68, 1574, 1575, 1577, 69, 1578, 1579, 1581, 70, 1582] (by decide +kernel)
