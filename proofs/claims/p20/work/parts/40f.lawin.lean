set_option maxRecDepth 20000 in
theorem wsL_law0_r31_in : ∀ w ∈ wsL_law0_r31, w ∈ lw_tbl := mem_ps [964, 965, 966, 967, 161, 968, 969, 98, 970, 971, 972, 973, 974, 744, 975, 976, 977, 978, 979, 980, 981, 982, 983, 984] (by decide +kernel)
set_option maxRecDepth 20000 in
theorem wsL_law0_r32_in : ∀ w ∈ wsL_law0_r32, w ∈ lw_tbl := mem_ps [985, 1507, 1508, 1509, 1510, 986, 987, 988, 989, 990, 991, 992, 346, 519, 733, 993, 994, 996, 12, 997, 1511, 1512, 1513, 1514] (by decide +kernel)
set_option maxRecDepth 20000 in
theorem wsL_law0_r33_in : ∀ w ∈ wsL_law0_r33, w ∈ lw_tbl := mem_ps [1227, 1515, 1517, 56, 1518, 998, 999, 1000, 1001, 1002, 1003, 1004, 1519, 1520, 1521, 1522, 1180, 1181, 1182, 1183, 1006, 1007, 1008, 1009] (by decide +kernel)
set_option maxRecDepth 20000 in
theorem wsL_law0_r34_in : ∀ w ∈ wsL_law0_r34, w ∈ lw_tbl := mem_ps [1010, 1011, 1012, 1013, 260, 1083, 312, 1014, 1015, 1016, 1017, 261, 262, 264, 263, 258, 255, 1018, 1020, 13, 1021, 1022, 1024, 14] (by decide +kernel)
set_option maxRecDepth 20000 in
theorem wsL_law0_r35_in : ∀ w ∈ wsL_law0_r35, w ∈ lw_tbl := mem_ps [1025, 1026, 1028, 15, 1029, 232, 234, 236, 537, 1030, 1032, 16, 1033, 1034, 1036, 17, 1037, 1038, 1040, 18, 1041, 1042, 1045, 1047] (by decide +kernel)
set_option maxRecDepth 20000 in
theorem wsL_law0_r36_in : ∀ w ∈ wsL_law0_r36, w ∈ lw_tbl := mem_ps [19, 1048, 1049, 1050, 1052, 20, 1053, 227, 230, 1054, 1056, 21, 1057, 1058, 1060, 22, 1061, 1063, 1065, 23, 1066, 1067, 1069, 24] (by decide +kernel)
