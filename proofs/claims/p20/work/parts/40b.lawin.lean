set_option maxRecDepth 20000 in
theorem wsL_law0_r7_in : ∀ w ∈ wsL_law0_r7, w ∈ lw_tbl := mem_ps [345, 451, 453, 1, 454, 1362, 1363, 1364, 1365, 1192, 1366, 1368, 36, 1369, 1190, 1370, 1372, 37, 1373, 455, 456, 457, 458, 459] (by decide +kernel)
set_option maxRecDepth 20000 in
theorem wsL_law0_r8_in : ∀ w ∈ wsL_law0_r8, w ∈ lw_tbl := mem_ps [460, 461, 462, 463, 464, 465, 466, 90, 1374, 1375, 1376, 1377, 482, 483, 484, 485, 486, 487, 488, 1378, 1379, 1380, 1381, 489] (by decide +kernel)
set_option maxRecDepth 20000 in
theorem wsL_law0_r9_in : ∀ w ∈ wsL_law0_r9, w ∈ lw_tbl := mem_ps [490, 491, 492, 493, 494, 495, 496, 559, 93, 497, 498, 499, 500, 154, 501, 91, 502, 503, 504, 505, 506, 507, 92, 541] (by decide +kernel)
set_option maxRecDepth 20000 in
theorem wsL_law0_r10_in : ∀ w ∈ wsL_law0_r10, w ∈ lw_tbl := mem_ps [532, 543, 544, 534, 536, 508, 509, 510, 511, 512, 513, 515, 1382, 1383, 1384, 1385, 1200, 575, 576, 577, 578, 579, 580, 581] (by decide +kernel)
set_option maxRecDepth 20000 in
theorem wsL_law0_r11_in : ∀ w ∈ wsL_law0_r11, w ∈ lw_tbl := mem_ps [582, 539, 583, 585, 2, 586, 591, 94, 587, 588, 589, 590, 607, 608, 609, 610, 611, 95, 518, 731, 612, 613, 614, 615] (by decide +kernel)
set_option maxRecDepth 20000 in
theorem wsL_law0_r12_in : ∀ w ∈ wsL_law0_r12, w ∈ lw_tbl := mem_ps [616, 619, 618, 625, 626, 627, 628, 724, 629, 630, 631, 632, 514, 516, 633, 634, 635, 636, 637, 520, 638, 639, 640, 641] (by decide +kernel)
