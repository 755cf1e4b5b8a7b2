set_option maxRecDepth 20000 in
theorem ggL_law_X12_close : GoodIn wsL_law wsX12_close := goodIn_r _ [613, 113, 119, 598, 599, 600, 5, 601, 154, 155, 156, 157, 158, 1090, 1091, 1092, 1093, 1094, 1095, 1096, 1097, 1098, 1099, 1100, 1101, 1102, 1103, 1104, 1105, 1106, 1107, 1108, 1109, 1110, 1111, 1112, 1113, 1114, 1115, 1116, 1117, 1118, 1119, 1120, 1121, 1122, 1123, 1124, 1125, 1126, 1127, 1128, 1129, 1130, 1131, 1132, 1133, 1134, 1135, 1136, 1137, 1138, 1139, 1140, 1141, 1142, 1143, 1144, 1145, 1146] (by decide +kernel) (by decide +kernel)
set_option maxRecDepth 20000 in
theorem gL_law_X12_close : GoodIn wsL_law (wsV RL 144 RX12 yX12_close wsX12_close) := goodIn_app (goodIn_of _ (by decide +kernel)) ggL_law_X12_close
set_option maxRecDepth 20000 in
theorem ggL_law_L_fact : GoodIn wsL_law wsL_fact := goodIn_ca (goodIn_ca (goodIn_r _ [616, 166, 240, 617, 618, 619, 2, 620, 250, 251, 20, 621, 622, 623, 624, 625, 626, 171, 172, 173, 174, 175, 627, 628, 629, 19, 630, 379, 43, 385, 631, 632, 633, 218, 634, 293, 292, 229, 1078, 1079, 1080, 1081, 1082, 1083, 1084, 1085, 1086, 1087, 1088, 1089, 1206, 1207, 1208, 1209, 1210, 1211, 1212, 1193, 1194, 1195, 1196, 1197, 1198, 1147, 1148, 1149, 1150, 1151, 1152, 1153, 1154, 1199, 1200, 1201, 1202, 1203] (by decide +kernel) (by decide +kernel)) (goodIn_sub (fun _ h => List.mem_append_left _ (List.mem_append_left _ (List.mem_append_left _ (List.mem_append_right _ h)))) (by decide +kernel))) (goodIn_sub (fun _ h => List.mem_append_left _ (List.mem_append_left _ (List.mem_append_left _ (List.mem_append_left _ (List.mem_append_left _ (List.mem_append_right _ h)))))) (by decide +kernel))
set_option maxRecDepth 20000 in
theorem gL_law_L_fact : GoodIn wsL_law (va_wsS RL 145 yL_fact wsL_fact) := goodIn_app (goodIn_of _ (by decide +kernel)) ggL_law_L_fact
set_option maxRecDepth 20000 in
theorem ggL_law_X12_fact : GoodIn wsL_law wsX12_fact := goodIn_r _ [638, 103, 106, 107, 104, 639, 640, 641, 5, 642, 102, 105, 154, 155, 156, 157, 158, 643, 644, 645, 646, 108, 1090, 1091, 1092, 1093, 1094, 1095, 1096, 1097, 1098, 1099, 1100, 1101, 1102, 1103, 1104, 1105, 1106, 1107, 1108, 1109, 1110, 1111, 1112, 1113, 1114, 1115, 1116, 1117, 1118, 1119, 1120, 1121, 1122, 1123, 1124, 1125, 1126, 1127, 1128, 1129, 1130, 1131, 1132, 1133, 1134, 1135, 1136, 1137, 1138, 1139, 1140, 1141, 1142, 1143, 1144, 1145, 1146] (by decide +kernel) (by decide +kernel)
set_option maxRecDepth 20000 in
theorem gL_law_X12_fact : GoodIn wsL_law (wsV RL 147 RX12 yX12_fact wsX12_fact) := goodIn_app (goodIn_of _ (by decide +kernel)) ggL_law_X12_fact
set_option maxRecDepth 20000 in
theorem ggL_law_L_mark : GoodIn wsL_law wsL_mark := goodIn_ca (goodIn_r _ [649, 198, 650, 651, 652, 2, 653, 203, 204, 20, 654, 655, 656, 657, 658, 46, 659, 399, 54, 400, 1078, 1079, 1080, 1081, 1082, 1083, 1084, 1085, 1086, 1087, 1088, 1089, 1147, 1148, 1149, 1150, 1151, 1152, 1153, 1154, 1179, 1180, 1181, 1182, 1183] (by decide +kernel) (by decide +kernel)) (goodIn_sub (fun _ h => List.mem_append_left _ (List.mem_append_left _ (List.mem_append_left _ (List.mem_append_left _ (List.mem_append_right _ h))))) (by decide +kernel))
set_option maxRecDepth 20000 in
theorem gL_law_L_mark : GoodIn wsL_law (va_wsS RL 148 yL_mark wsL_mark) := goodIn_app (goodIn_of _ (by decide +kernel)) ggL_law_L_mark
set_option maxRecDepth 20000 in
theorem ggL_law_X12_mark : GoodIn wsL_law wsX12_mark := goodIn_r _ [663, 431, 432, 112, 154, 155, 156, 5, 157, 158, 1090, 1091, 1092, 1093, 1094, 1095, 1096, 1097, 1098, 1099, 1100, 1101, 1102, 1103, 1104, 1105, 1106, 1107, 1108, 1109, 1110, 1111, 1112, 1113, 1114, 1115, 1116, 1117, 1118, 1119, 1120, 1121, 1122, 1123, 1124, 1125, 1126, 1127, 1128, 1129, 1130, 1131, 1132, 1133, 1134, 1135, 1136, 1137, 1138, 1139, 1140, 1141, 1142, 1143, 1144, 1145, 1146] (by decide +kernel) (by decide +kernel)
set_option maxRecDepth 20000 in
theorem gL_law_X12_mark : GoodIn wsL_law (wsV RL 151 RX12 yX12_mark wsX12_mark) := goodIn_app (goodIn_of _ (by decide +kernel)) ggL_law_X12_mark
set_option maxRecDepth 20000 in
theorem ggL_law_L_back_c1 : GoodIn wsL_law wsL_back_r2 := goodIn_r _ [54, 400, 53, 679, 680, 681, 682, 683, 684, 685, 686, 687, 688, 689, 383, 690, 691, 692, 693, 382, 388, 694, 376, 377] (by decide +kernel) (by decide +kernel)
set_option maxRecDepth 20000 in
theorem ggL_law_L_back_c2 : GoodIn wsL_law wsL_back_r3 := goodIn_r _ [378, 43, 42, 380, 325, 381, 384, 385, 386, 387, 389, 390, 391, 392, 11, 12, 15, 335, 393, 394, 395, 396, 397, 398] (by decide +kernel) (by decide +kernel)
set_option maxRecDepth 20000 in
theorem ggL_law_L_back_c3 : GoodIn wsL_law wsL_back_r4 := goodIn_r _ [52, 695, 696, 697, 211, 698, 219, 224, 221, 699, 295, 296, 218, 297, 292, 229, 287, 271, 272, 273, 261, 274, 275, 270] (by decide +kernel) (by decide +kernel)
set_option maxRecDepth 20000 in
theorem ggL_law_L_back_c4 : GoodIn wsL_law wsL_back_r5 := goodIn_r _ [268, 217, 269, 276, 277, 278, 279, 280, 281, 282, 226, 227, 228, 230, 231, 700, 500, 501, 502, 701, 702, 703, 704] (by decide +kernel) (by decide +kernel)
set_option maxRecDepth 20000 in
theorem ggL_law_L_back_c5 : GoodIn wsL_law wsX110 := goodIn_r _ [1078, 1079, 1080, 1081, 1082, 1083, 1084, 1085, 1086, 1087, 1088, 1089] (by decide +kernel) (by decide +kernel)
set_option maxRecDepth 20000 in
theorem ggL_law_L_back_c6 : GoodIn wsL_law wsX90 := goodIn_r _ [1147, 1148, 1149, 1150, 1151, 1152, 1153, 1154] (by decide +kernel) (by decide +kernel)
set_option maxRecDepth 20000 in
theorem ggL_law_L_back_c7 : GoodIn wsL_law wsX30 := goodIn_r _ [1179, 1180, 1181, 1182, 1183] (by decide +kernel) (by decide +kernel)
set_option maxRecDepth 20000 in
theorem ggL_law_L_back_c8 : GoodIn wsL_law wsX10 := goodIn_r _ [1206, 1207, 1208, 1209, 1210, 1211, 1212] (by decide +kernel) (by decide +kernel)
set_option maxRecDepth 20000 in
theorem ggL_law_L_back_c9 : GoodIn wsL_law wsX100 := goodIn_r _ [1193, 1194, 1195, 1196, 1197, 1198] (by decide +kernel) (by decide +kernel)
set_option maxRecDepth 20000 in
theorem ggL_law_L_back_c10 : GoodIn wsL_law wsX00 := goodIn_r _ [1199, 1200, 1201, 1202, 1203] (by decide +kernel) (by decide +kernel)
set_option maxRecDepth 20000 in
theorem ggL_law_L_back_c11 : GoodIn wsL_law wsX40 := goodIn_r _ [1204, 1205] (by decide +kernel) (by decide +kernel)
set_option maxRecDepth 20000 in
theorem ggL_law_L_back_c0 : GoodIn wsL_law (.codeWith yL_back cL_back 4 (some .int) [(0, 9, 12, 28)] :: wsL_back_r1) := goodIn_r _ [666, 198, 667, 668, 669, 2, 670, 203, 204, 20, 654, 655, 671, 672, 673, 19, 674, 47, 379, 675, 676, 677, 46, 678, 399] (by decide +kernel) (by decide +kernel)
theorem ggL_law_L_back : GoodIn wsL_law wsL_back := goodIn_ca ((goodIn_ca (goodIn_ca (goodIn_ca (goodIn_ca (goodIn_ca (goodIn_ca (goodIn_ca (goodIn_ca ggL_law_L_back_c0 (goodIn_app ggL_law_L_back_c1 (goodIn_app ggL_law_L_back_c2 (goodIn_app ggL_law_L_back_c3 ggL_law_L_back_c4)))) ggL_law_L_back_c5) ggL_law_L_back_c6) ggL_law_L_back_c7) ggL_law_L_back_c8) ggL_law_L_back_c9) ggL_law_L_back_c10) ggL_law_L_back_c11)) (goodIn_sub (fun _ h => List.mem_append_left _ (List.mem_append_left _ (List.mem_append_left _ (List.mem_append_left _ (List.mem_append_right _ h))))) (by decide +kernel))
set_option maxRecDepth 20000 in
theorem gL_law_L_back : GoodIn wsL_law (va_wsS RL 152 yL_back wsL_back) := goodIn_app (goodIn_of _ (by decide +kernel)) ggL_law_L_back
set_option maxRecDepth 20000 in
theorem ggL_law_X12_back : GoodIn wsL_law wsX12_back := goodIn_r _ [708, 431, 112, 432, 111, 413, 154, 155, 156, 5, 157, 158, 709, 710, 711, 712, 110, 103, 104, 533, 534, 535, 536, 351, 107, 427, 428, 429, 430, 418, 419, 420, 421, 102, 105, 422, 106, 423, 424, 425, 426, 433, 434, 435, 436, 108, 109, 99, 100, 1090, 1091, 1092, 1093, 1094, 1095, 1096, 1097, 1098, 1099, 1100, 1101, 1102, 1103, 1104, 1105, 1106, 1107, 1108, 1109, 1110, 1111, 1112, 1113, 1114, 1115, 1116, 1117, 1118, 1119, 1120, 1121, 1122, 1123, 1124, 1125, 1126, 1127, 1128, 1129, 1130, 1131, 1132, 1133, 1134, 1135, 1136, 1137, 1138, 1139, 1140, 1141, 1142, 1143, 1144, 1145, 1146] (by decide +kernel) (by decide +kernel)
set_option maxRecDepth 20000 in
theorem gL_law_X12_back : GoodIn wsL_law (wsV RL 155 RX12 yX12_back wsX12_back) := goodIn_app (goodIn_of _ (by decide +kernel)) ggL_law_X12_back
