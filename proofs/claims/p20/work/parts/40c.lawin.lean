set_option maxRecDepth 20000 in
theorem wsL_law0_r13_in : ∀ w ∈ wsL_law0_r13, w ∈ lw_tbl := mem_ps [730, 517, 642, 643, 644, 645, 1386, 1387, 1388, 1389, 1390, 1392, 38, 1393, 646, 647, 648, 649, 650, 651, 652, 653, 654, 655] (by decide +kernel)
set_option maxRecDepth 20000 in
theorem wsL_law0_r14_in : ∀ w ∈ wsL_law0_r14, w ∈ lw_tbl := mem_ps [656, 657, 658, 659, 660, 726, 661, 662, 663, 97, 664, 742, 665, 666, 667, 668, 669, 670, 671, 723, 673, 674, 676, 677] (by decide +kernel)
set_option maxRecDepth 20000 in
theorem wsL_law0_r15_in : ∀ w ∈ wsL_law0_r15, w ∈ lw_tbl := mem_ps [678, 679, 545, 680, 681, 682, 683, 1394, 1395, 1396, 1397, 1212, 1398, 1400, 39, 1401, 1402, 1404, 40, 1405, 685, 686, 687, 688] (by decide +kernel)
set_option maxRecDepth 20000 in
theorem wsL_law0_r16_in : ∀ w ∈ wsL_law0_r16, w ∈ lw_tbl := mem_ps [689, 690, 691, 692, 697, 96, 738, 693, 694, 695, 696, 713, 714, 715, 716, 156, 717, 159, 734, 736, 158, 737, 740, 743] (by decide +kernel)
set_option maxRecDepth 20000 in
theorem wsL_law0_r17_in : ∀ w ∈ wsL_law0_r17, w ∈ lw_tbl := mem_ps [725, 538, 719, 720, 721, 722, 729, 761, 762, 763, 764, 134, 132, 766, 767, 768, 769, 770, 771, 772, 773, 1406, 1407, 1408] (by decide +kernel)
set_option maxRecDepth 20000 in
theorem wsL_law0_r18_in : ∀ w ∈ wsL_law0_r18, w ∈ lw_tbl := mem_ps [1409, 1210, 1410, 1412, 41, 1413, 1414, 1416, 42, 1417, 1211, 1418, 1420, 43, 1421, 1422, 1424, 44, 1425, 1217, 1215, 1426, 1428, 45] (by decide +kernel)
