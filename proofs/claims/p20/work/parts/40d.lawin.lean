set_option maxRecDepth 20000 in
theorem wsL_law0_r19_in : ∀ w ∈ wsL_law0_r19, w ∈ lw_tbl := mem_ps [1429, 774, 775, 776, 777, 778, 779, 780, 347, 781, 783, 3, 784, 785, 787, 4, 788, 789, 791, 5, 792, 162, 160, 793] (by decide +kernel)
set_option maxRecDepth 20000 in
theorem wsL_law0_r20_in : ∀ w ∈ wsL_law0_r20, w ∈ lw_tbl := mem_ps [794, 795, 796, 797, 798, 799, 800, 190, 191, 192, 193, 194, 187, 195, 801, 802, 804, 6, 805, 806, 807, 808, 809, 732] (by decide +kernel)
set_option maxRecDepth 20000 in
theorem wsL_law0_r21_in : ∀ w ∈ wsL_law0_r21, w ∈ lw_tbl := mem_ps [810, 811, 812, 813, 815, 816, 817, 818, 819, 820, 821, 822, 823, 739, 824, 825, 826, 827, 828, 829, 830, 831, 832, 834] (by decide +kernel)
set_option maxRecDepth 20000 in
theorem wsL_law0_r22_in : ∀ w ∈ wsL_law0_r22, w ∈ lw_tbl := mem_ps [7, 835, 836, 837, 838, 839, 1430, 1431, 1432, 1433, 1228, 1434, 1436, 46, 1437, 1438, 1440, 47, 1441, 1446, 1229, 1442, 1444, 48] (by decide +kernel)
set_option maxRecDepth 20000 in
theorem wsL_law0_r23_in : ∀ w ∈ wsL_law0_r23, w ∈ lw_tbl := mem_ps [1445, 1447, 1449, 49, 1450, 840, 841, 842, 843, 844, 845, 846, 1451, 1452, 1453, 1454, 1455, 1457, 50, 1458, 1213, 1459, 1461, 51] (by decide +kernel)
set_option maxRecDepth 20000 in
theorem wsL_law0_r24_in : ∀ w ∈ wsL_law0_r24, w ∈ lw_tbl := mem_ps [1462, 847, 848, 849, 850, 851, 852, 853, 1463, 1464, 1465, 1466, 854, 855, 856, 857, 858, 859, 860, 861, 863, 8, 864, 1467] (by decide +kernel)
