set_option maxRecDepth 20000 in
theorem wsL_law0_r25_in : ∀ w ∈ wsL_law0_r25, w ∈ lw_tbl := mem_ps [1468, 1469, 1470, 866, 867, 868, 869, 870, 871, 872, 873, 875, 9, 876, 1471, 1472, 1473, 1474, 1475, 1477, 52, 1478, 878, 879] (by decide +kernel)
set_option maxRecDepth 20000 in
theorem wsL_law0_r26_in : ∀ w ∈ wsL_law0_r26, w ∈ lw_tbl := mem_ps [880, 881, 882, 883, 884, 188, 1479, 1480, 1481, 1482, 885, 886, 887, 888, 889, 890, 891, 735, 535, 741, 745, 542, 728, 892] (by decide +kernel)
set_option maxRecDepth 20000 in
theorem wsL_law0_r27_in : ∀ w ∈ wsL_law0_r27, w ∈ lw_tbl := mem_ps [893, 894, 895, 897, 898, 899, 900, 1483, 1484, 1485, 1486, 1487, 1489, 53, 1490, 1491, 1493, 54, 1494, 901, 902, 903, 904, 905] (by decide +kernel)
set_option maxRecDepth 20000 in
theorem wsL_law0_r28_in : ∀ w ∈ wsL_law0_r28, w ∈ lw_tbl := mem_ps [906, 907, 153, 135, 908, 909, 910, 911, 1495, 1496, 1497, 1498, 913, 914, 915, 916, 917, 918, 919, 921, 922, 923, 924, 925] (by decide +kernel)
set_option maxRecDepth 20000 in
theorem wsL_law0_r29_in : ∀ w ∈ wsL_law0_r29, w ∈ lw_tbl := mem_ps [926, 927, 928, 929, 930, 931, 932, 933, 934, 935, 936, 133, 128, 130, 937, 939, 10, 940, 941, 942, 943, 944, 945, 946] (by decide +kernel)
set_option maxRecDepth 20000 in
theorem wsL_law0_r30_in : ∀ w ∈ wsL_law0_r30, w ∈ lw_tbl := mem_ps [947, 948, 949, 950, 951, 1499, 1500, 1501, 1502, 1503, 1505, 55, 1506, 952, 953, 954, 955, 956, 957, 958, 959, 961, 11, 962] (by decide +kernel)
