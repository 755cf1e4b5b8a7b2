set_option maxRecDepth 20000 in
theorem ggL_law_L_many_c1 : GoodIn wsL_law wsL_many_r2 := goodIn_r _ [453, 454, 455, 456, 457, 458, 246, 247, 248, 249, 250, 251, 252, 253, 254, 19, 255, 209, 41, 459, 460, 461, 462, 381] (by decide +kernel) (by decide +kernel)
set_option maxRecDepth 20000 in
theorem ggL_law_L_many_c2 : GoodIn wsL_law wsL_many_r3 := goodIn_r _ [463, 464, 465, 27, 466, 467, 468, 469, 470, 471, 472, 473, 58, 474, 314, 315, 211, 316, 224, 479, 480, 481, 482, 483] (by decide +kernel) (by decide +kernel)
set_option maxRecDepth 20000 in
theorem ggL_law_L_many_c3 : GoodIn wsL_law wsL_many_r4 := goodIn_r _ [484, 485, 486, 487, 221, 336, 337, 488, 489, 490, 491, 219, 262, 492, 277, 278, 261, 279, 269, 280, 281, 493, 494, 495] (by decide +kernel) (by decide +kernel)
set_option maxRecDepth 20000 in
theorem ggL_law_L_many_c4 : GoodIn wsL_law wsL_many_r5 := goodIn_r _ [325, 496, 497, 327, 498, 332, 333, 334, 335, 510, 511, 512, 513] (by decide +kernel) (by decide +kernel)
set_option maxRecDepth 20000 in
theorem ggL_law_L_many_c5 : GoodIn wsL_law wsX110 := goodIn_r _ [1078, 1079, 1080, 1081, 1082, 1083, 1084, 1085, 1086, 1087, 1088, 1089] (by decide +kernel) (by decide +kernel)
set_option maxRecDepth 20000 in
theorem ggL_law_L_many_c6 : GoodIn wsL_law wsX90 := goodIn_r _ [1147, 1148, 1149, 1150, 1151, 1152, 1153, 1154] (by decide +kernel) (by decide +kernel)
set_option maxRecDepth 20000 in
theorem ggL_law_L_many_c7 : GoodIn wsL_law wsX50 := goodIn_r _ [1155, 1156, 1157, 1158, 1159, 1160, 1161, 1162] (by decide +kernel) (by decide +kernel)
set_option maxRecDepth 20000 in
theorem ggL_law_L_many_c8 : GoodIn wsL_law wsX100 := goodIn_r _ [1193, 1194, 1195, 1196, 1197, 1198] (by decide +kernel) (by decide +kernel)
set_option maxRecDepth 20000 in
theorem ggL_law_L_many_c9 : GoodIn wsL_law wsX10 := goodIn_r _ [1206, 1207, 1208, 1209, 1210, 1211, 1212] (by decide +kernel) (by decide +kernel)
set_option maxRecDepth 20000 in
theorem ggL_law_L_many_c10 : GoodIn wsL_law wsX00 := goodIn_r _ [1199, 1200, 1201, 1202, 1203] (by decide +kernel) (by decide +kernel)
set_option maxRecDepth 20000 in
theorem ggL_law_L_many_c11 : GoodIn wsL_law wsX40 := goodIn_r _ [1204, 1205] (by decide +kernel) (by decide +kernel)
set_option maxRecDepth 20000 in
theorem ggL_law_L_many_c0 : GoodIn wsL_law (.codeWith yL_many cL_many 6 (some .int) [(0, 12, 15, 19), (0, 12, 19, 33)] :: wsL_many_r1) := goodIn_r _ [559, 166, 240, 560, 561, 562, 2, 563, 28, 444, 445, 446, 447, 448, 16, 20, 449, 450, 451, 452, 171, 172, 173, 174, 175] (by decide +kernel) (by decide +kernel)
theorem ggL_law_L_many : GoodIn wsL_law wsL_many := goodIn_ca (goodIn_ca ((goodIn_ca (goodIn_ca (goodIn_ca (goodIn_ca (goodIn_ca (goodIn_ca (goodIn_ca (goodIn_ca ggL_law_L_many_c0 (goodIn_app ggL_law_L_many_c1 (goodIn_app ggL_law_L_many_c2 (goodIn_app ggL_law_L_many_c3 ggL_law_L_many_c4)))) ggL_law_L_many_c5) ggL_law_L_many_c6) ggL_law_L_many_c7) ggL_law_L_many_c8) ggL_law_L_many_c9) ggL_law_L_many_c10) ggL_law_L_many_c11)) (goodIn_sub (fun _ h => List.mem_append_left _ (List.mem_append_left _ (List.mem_append_left _ (List.mem_append_left _ (List.mem_append_left _ (List.mem_append_right _ h)))))) (by decide +kernel))) (goodIn_sub (fun _ h => List.mem_append_left _ (List.mem_append_left _ (List.mem_append_left _ (List.mem_append_right _ h)))) (by decide +kernel))
set_option maxRecDepth 20000 in
theorem gL_law_L_many : GoodIn wsL_law (va_wsS RL 133 yL_many wsL_many) := goodIn_app (goodIn_of _ (by decide +kernel)) ggL_law_L_many
set_option maxRecDepth 20000 in
theorem ggL_law_X12_many : GoodIn wsL_law wsX12_many := goodIn_r _ [567, 518, 99, 95, 109, 519, 520, 521, 5, 522, 548, 549, 550, 551, 552, 351, 302, 303, 304, 305, 236, 154, 155, 156, 157, 158, 553, 554, 555, 556, 523, 524, 525, 526, 104, 527, 528, 529, 530, 531, 532, 96, 97, 352, 353, 354, 355, 106, 107, 414, 415, 416, 417, 103, 1090, 1091, 1092, 1093, 1094, 1095, 1096, 1097, 1098, 1099, 1100, 1101, 1102, 1103, 1104, 1105, 1106, 1107, 1108, 1109, 1110, 1111, 1112, 1113, 1114, 1115, 1116, 1117, 1118, 1119, 1120, 1121, 1122, 1123, 1124, 1125, 1126, 1127, 1128, 1129, 1130, 1131, 1132, 1133, 1134, 1135, 1136, 1137, 1138, 1139, 1140, 1141, 1142, 1143, 1144, 1145, 1146] (by decide +kernel) (by decide +kernel)
set_option maxRecDepth 20000 in
theorem gL_law_X12_many : GoodIn wsL_law (wsV RL 135 RX12 yX12_many wsX12_many) := goodIn_app (goodIn_of _ (by decide +kernel)) ggL_law_X12_many
set_option maxRecDepth 20000 in
theorem ggL_law_L_open : GoodIn wsL_law wsL_open := goodIn_ca (goodIn_ca (goodIn_ca (goodIn_r _ [570, 166, 240, 198, 571, 572, 573, 2, 574, 203, 204, 22, 24, 449, 450, 451, 452, 171, 172, 173, 174, 175, 453, 454, 455, 456, 20, 457, 458, 246, 247, 248, 249, 250, 251, 252, 253, 254, 19, 255, 209, 41, 575, 576, 577, 578, 445, 446, 447, 448, 16, 459, 460, 461, 462, 381, 463, 464, 465, 27, 466, 467, 468, 469, 470, 471, 472, 473, 58, 474, 314, 315, 211, 316, 224, 1078, 1079, 1080, 1081, 1082, 1083, 1084, 1085, 1086, 1087, 1088, 1089, 1147, 1148, 1149, 1150, 1151, 1152, 1153, 1154, 1155, 1156, 1157, 1158, 1159, 1160, 1161, 1162, 1193, 1194, 1195, 1196, 1197, 1198] (by decide +kernel) (by decide +kernel)) (goodIn_sub (fun _ h => List.mem_append_left _ (List.mem_append_left _ (List.mem_append_left _ (List.mem_append_left _ (List.mem_append_right _ h))))) (by decide +kernel))) (goodIn_sub (fun _ h => List.mem_append_left _ (List.mem_append_left _ (List.mem_append_left _ (List.mem_append_left _ (List.mem_append_left _ (List.mem_append_right _ h)))))) (by decide +kernel))) (goodIn_sub (fun _ h => List.mem_append_left _ (List.mem_append_left _ (List.mem_append_left _ (List.mem_append_right _ h)))) (by decide +kernel))
set_option maxRecDepth 20000 in
theorem gL_law_L_open : GoodIn wsL_law (va_wsS RL 136 yL_open wsL_open) := goodIn_app (goodIn_of _ (by decide +kernel)) ggL_law_L_open
set_option maxRecDepth 20000 in
theorem ggL_law_X12_open : GoodIn wsL_law wsX12_open := goodIn_r _ [582, 113, 114, 115, 116, 117, 118, 119, 120, 95, 519, 520, 521, 5, 522, 548, 549, 550, 551, 552, 351, 302, 303, 304, 305, 236, 154, 155, 156, 157, 158, 553, 554, 555, 556, 1090, 1091, 1092, 1093, 1094, 1095, 1096, 1097, 1098, 1099, 1100, 1101, 1102, 1103, 1104, 1105, 1106, 1107, 1108, 1109, 1110, 1111, 1112, 1113, 1114, 1115, 1116, 1117, 1118, 1119, 1120, 1121, 1122, 1123, 1124, 1125, 1126, 1127, 1128, 1129, 1130, 1131, 1132, 1133, 1134, 1135, 1136, 1137, 1138, 1139, 1140, 1141, 1142, 1143, 1144, 1145, 1146] (by decide +kernel) (by decide +kernel)
set_option maxRecDepth 20000 in
theorem gL_law_X12_open : GoodIn wsL_law (wsV RL 138 RX12 yX12_open wsX12_open) := goodIn_app (goodIn_of _ (by decide +kernel)) ggL_law_X12_open
set_option maxRecDepth 20000 in
theorem ggL_law_L_next : GoodIn wsL_law wsL_next := goodIn_ca (goodIn_ca (goodIn_r _ [585, 166, 240, 586, 587, 588, 2, 589, 22, 444, 590, 591, 592, 593, 250, 251, 24, 171, 172, 173, 174, 175, 479, 480, 481, 27, 482, 471, 467, 468, 470, 58, 483, 473, 469, 472, 484, 485, 486, 211, 487, 224, 221, 336, 337, 488, 489, 490, 491, 219, 262, 492, 277, 278, 261, 279, 269, 280, 281, 493, 494, 495, 325, 496, 497, 327, 498, 332, 333, 334, 335, 510, 511, 512, 513, 503, 504, 505, 370, 1078, 1079, 1080, 1081, 1082, 1083, 1084, 1085, 1086, 1087, 1088, 1089, 1155, 1156, 1157, 1158, 1159, 1160, 1161, 1162, 1206, 1207, 1208, 1209, 1210, 1211, 1212, 1193, 1194, 1195, 1196, 1197, 1198, 1199, 1200, 1201, 1202, 1203, 1204, 1205] (by decide +kernel) (by decide +kernel)) (goodIn_sub (fun _ h => List.mem_append_left _ (List.mem_append_left _ (List.mem_append_left _ (List.mem_append_right _ h)))) (by decide +kernel))) (goodIn_sub (fun _ h => List.mem_append_left _ (List.mem_append_left _ (List.mem_append_left _ (List.mem_append_left _ (List.mem_append_left _ (List.mem_append_right _ h)))))) (by decide +kernel))
set_option maxRecDepth 20000 in
theorem gL_law_L_next : GoodIn wsL_law (va_wsS RL 139 yL_next wsL_next) := goodIn_app (goodIn_of _ (by decide +kernel)) ggL_law_L_next
set_option maxRecDepth 20000 in
theorem ggL_law_X12_next : GoodIn wsL_law wsX12_next := goodIn_r _ [597, 518, 114, 115, 118, 99, 109, 116, 117, 120, 119, 105, 598, 599, 600, 5, 601, 113, 154, 155, 156, 157, 158, 523, 524, 525, 526, 104, 527, 528, 529, 530, 531, 532, 96, 97, 352, 353, 354, 355, 106, 107, 414, 415, 416, 417, 103, 1090, 1091, 1092, 1093, 1094, 1095, 1096, 1097, 1098, 1099, 1100, 1101, 1102, 1103, 1104, 1105, 1106, 1107, 1108, 1109, 1110, 1111, 1112, 1113, 1114, 1115, 1116, 1117, 1118, 1119, 1120, 1121, 1122, 1123, 1124, 1125, 1126, 1127, 1128, 1129, 1130, 1131, 1132, 1133, 1134, 1135, 1136, 1137, 1138, 1139, 1140, 1141, 1142, 1143, 1144, 1145, 1146] (by decide +kernel) (by decide +kernel)
set_option maxRecDepth 20000 in
theorem gL_law_X12_next : GoodIn wsL_law (wsV RL 141 RX12 yX12_next wsX12_next) := goodIn_app (goodIn_of _ (by decide +kernel)) ggL_law_X12_next
set_option maxRecDepth 20000 in
theorem ggL_law_L_close : GoodIn wsL_law wsL_close := goodIn_ca (goodIn_ca (goodIn_r _ [604, 166, 240, 605, 606, 607, 2, 608, 24, 22, 609, 590, 591, 592, 593, 250, 251, 171, 172, 173, 174, 175, 1078, 1079, 1080, 1081, 1082, 1083, 1084, 1085, 1086, 1087, 1088, 1089, 1155, 1156, 1157, 1158, 1159, 1160, 1161, 1162] (by decide +kernel) (by decide +kernel)) (goodIn_sub (fun _ h => List.mem_append_left _ (List.mem_append_left _ (List.mem_append_left _ (List.mem_append_right _ h)))) (by decide +kernel))) (goodIn_sub (fun _ h => List.mem_append_left _ (List.mem_append_left _ (List.mem_append_left _ (List.mem_append_left _ (List.mem_append_left _ (List.mem_append_right _ h)))))) (by decide +kernel))
set_option maxRecDepth 20000 in
theorem gL_law_L_close : GoodIn wsL_law (va_wsS RL 142 yL_close wsL_close) := goodIn_app (goodIn_of _ (by decide +kernel)) ggL_law_L_close
