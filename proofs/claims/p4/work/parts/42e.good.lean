set_option maxRecDepth 20000 in
theorem ggL_law_X12_key : GoodIn wsL_law wsX12_key := goodIn_r _ [350, 96, 98, 101, 99, 109, 351, 302, 303, 304, 5, 305, 236, 154, 155, 156, 157, 158, 352, 353, 354, 355, 106, 107, 356, 357, 358, 359, 104, 1090, 1091, 1092, 1093, 1094, 1095, 1096, 1097, 1098, 1099, 1100, 1101, 1102, 1103, 1104, 1105, 1106, 1107, 1108, 1109, 1110, 1111, 1112, 1113, 1114, 1115, 1116, 1117, 1118, 1119, 1120, 1121, 1122, 1123, 1124, 1125, 1126, 1127, 1128, 1129, 1130, 1131, 1132, 1133, 1134, 1135, 1136, 1137, 1138, 1139, 1140, 1141, 1142, 1143, 1144, 1145, 1146] (by decide +kernel) (by decide +kernel)
set_option maxRecDepth 20000 in
theorem gL_law_X12_key : GoodIn wsL_law (wsV RL 122 RX12 yX12_key wsX12_key) := goodIn_app (goodIn_of _ (by decide +kernel)) ggL_law_X12_key
set_option maxRecDepth 20000 in
theorem ggL_law_L_add_c1 : GoodIn wsL_law wsL_add_r2 := goodIn_r _ [249, 250, 251, 252, 253, 254, 19, 255, 209, 41, 371, 372, 373, 211, 374, 342, 219, 262, 222, 328, 329, 330, 263, 322] (by decide +kernel) (by decide +kernel)
set_option maxRecDepth 20000 in
theorem ggL_law_L_add_c2 : GoodIn wsL_law wsL_add_r3 := goodIn_r _ [323, 324, 325, 326, 327, 331, 332, 333, 334, 335, 336, 337, 375, 376, 377, 378, 379, 43, 42, 380, 381, 382, 383, 384] (by decide +kernel) (by decide +kernel)
set_option maxRecDepth 20000 in
theorem ggL_law_L_add_c3 : GoodIn wsL_law wsL_add_r4 := goodIn_r _ [385, 386, 387, 388, 389, 47, 390, 391, 392, 11, 12, 15, 393, 394, 395, 396, 397, 46, 398, 399, 400, 52, 53, 401] (by decide +kernel) (by decide +kernel)
set_option maxRecDepth 20000 in
theorem ggL_law_L_add_c4 : GoodIn wsL_law wsL_add_r5 := goodIn_r _ [402, 403, 404, 224, 221, 405, 406, 407, 408, 289, 290, 218, 291, 292, 229, 293, 287, 283, 284, 285, 286, 288, 294, 295] (by decide +kernel) (by decide +kernel)
set_option maxRecDepth 20000 in
theorem ggL_law_L_add_c5 : GoodIn wsL_law wsL_add_r6 := goodIn_r _ [296, 297, 271, 272, 273, 261, 274, 275, 270, 268, 217, 269, 276, 277, 278, 279, 280, 281, 282, 226, 227, 228, 230, 231] (by decide +kernel) (by decide +kernel)
set_option maxRecDepth 20000 in
theorem ggL_law_L_add_c6 : GoodIn wsL_law wsX110 := goodIn_r _ [1078, 1079, 1080, 1081, 1082, 1083, 1084, 1085, 1086, 1087, 1088, 1089] (by decide +kernel) (by decide +kernel)
set_option maxRecDepth 20000 in
theorem ggL_law_L_add_c7 : GoodIn wsL_law wsX10 := goodIn_r _ [1206, 1207, 1208, 1209, 1210, 1211, 1212] (by decide +kernel) (by decide +kernel)
set_option maxRecDepth 20000 in
theorem ggL_law_L_add_c8 : GoodIn wsL_law wsX90 := goodIn_r _ [1147, 1148, 1149, 1150, 1151, 1152, 1153, 1154] (by decide +kernel) (by decide +kernel)
set_option maxRecDepth 20000 in
theorem ggL_law_L_add_c9 : GoodIn wsL_law wsX100 := goodIn_r _ [1193, 1194, 1195, 1196, 1197, 1198] (by decide +kernel) (by decide +kernel)
set_option maxRecDepth 20000 in
theorem ggL_law_L_add_c10 : GoodIn wsL_law wsX00 := goodIn_r _ [1199, 1200, 1201, 1202, 1203] (by decide +kernel) (by decide +kernel)
set_option maxRecDepth 20000 in
theorem ggL_law_L_add_c11 : GoodIn wsL_law wsX30 := goodIn_r _ [1179, 1180, 1181, 1182, 1183] (by decide +kernel) (by decide +kernel)
set_option maxRecDepth 20000 in
theorem ggL_law_L_add_c12 : GoodIn wsL_law wsX40 := goodIn_r _ [1204, 1205] (by decide +kernel) (by decide +kernel)
set_option maxRecDepth 20000 in
theorem ggL_law_L_add_c0 : GoodIn wsL_law (.codeWith yL_add cL_add 5 (some .int) [(0, 10, 13, 19), (0, 10, 17, 33), (0, 10, 21, 41), (0, 10, 25, 28)] :: wsL_add_r1) := goodIn_r _ [362, 166, 240, 363, 198, 364, 365, 366, 2, 367, 368, 369, 203, 204, 16, 20, 370, 171, 172, 173, 174, 175, 246, 247, 248] (by decide +kernel) (by decide +kernel)
theorem ggL_law_L_add : GoodIn wsL_law wsL_add := goodIn_ca (goodIn_ca (goodIn_ca (goodIn_ca ((goodIn_ca (goodIn_ca (goodIn_ca (goodIn_ca (goodIn_ca (goodIn_ca (goodIn_ca (goodIn_ca ggL_law_L_add_c0 (goodIn_app ggL_law_L_add_c1 (goodIn_app ggL_law_L_add_c2 (goodIn_app ggL_law_L_add_c3 (goodIn_app ggL_law_L_add_c4 ggL_law_L_add_c5))))) ggL_law_L_add_c6) ggL_law_L_add_c7) ggL_law_L_add_c8) ggL_law_L_add_c9) ggL_law_L_add_c10) ggL_law_L_add_c11) ggL_law_L_add_c12)) (goodIn_sub (fun _ h => List.mem_append_left _ (List.mem_append_left _ (List.mem_append_right _ h))) (by decide +kernel))) (goodIn_sub (fun _ h => List.mem_append_left _ (List.mem_append_left _ (List.mem_append_left _ (List.mem_append_left _ (List.mem_append_right _ h))))) (by decide +kernel))) (goodIn_sub (fun _ h => List.mem_append_left _ (List.mem_append_left _ (List.mem_append_left _ (List.mem_append_left _ (List.mem_append_left _ (List.mem_append_right _ h)))))) (by decide +kernel))) (goodIn_sub (fun _ h => List.mem_append_left _ (List.mem_append_left _ (List.mem_append_left _ (List.mem_append_right _ h)))) (by decide +kernel))
set_option maxRecDepth 20000 in
theorem gL_law_L_add : GoodIn wsL_law (va_wsS RL 123 yL_add wsL_add) := goodIn_app (goodIn_of _ (by decide +kernel)) ggL_law_L_add
set_option maxRecDepth 20000 in
theorem ggL_law_X12_add : GoodIn wsL_law wsX12_add := goodIn_r _ [412, 99, 98, 351, 101, 95, 109, 413, 104, 96, 100, 105, 302, 303, 304, 5, 305, 236, 154, 155, 156, 157, 158, 352, 353, 354, 355, 106, 107, 414, 415, 416, 417, 103, 418, 419, 420, 421, 102, 422, 110, 423, 424, 425, 426, 427, 428, 429, 430, 431, 111, 432, 433, 434, 435, 436, 108, 1090, 1091, 1092, 1093, 1094, 1095, 1096, 1097, 1098, 1099, 1100, 1101, 1102, 1103, 1104, 1105, 1106, 1107, 1108, 1109, 1110, 1111, 1112, 1113, 1114, 1115, 1116, 1117, 1118, 1119, 1120, 1121, 1122, 1123, 1124, 1125, 1126, 1127, 1128, 1129, 1130, 1131, 1132, 1133, 1134, 1135, 1136, 1137, 1138, 1139, 1140, 1141, 1142, 1143, 1144, 1145, 1146] (by decide +kernel) (by decide +kernel)
set_option maxRecDepth 20000 in
theorem gL_law_X12_add : GoodIn wsL_law (wsV RL 125 RX12 yX12_add wsX12_add) := goodIn_app (goodIn_of _ (by decide +kernel)) ggL_law_X12_add
set_option maxRecDepth 20000 in
theorem ggL_law_L_remove_c1 : GoodIn wsL_law wsL_remove_r2 := goodIn_r _ [453, 454, 455, 456, 457, 458, 246, 247, 248, 249, 250, 251, 252, 253, 254, 19, 255, 209, 41, 459, 460, 461, 462, 381] (by decide +kernel) (by decide +kernel)
set_option maxRecDepth 20000 in
theorem ggL_law_L_remove_c2 : GoodIn wsL_law wsL_remove_r3 := goodIn_r _ [463, 464, 465, 27, 466, 467, 468, 469, 470, 471, 472, 473, 58, 474, 314, 315, 211, 316, 224, 475, 476, 477, 478, 479] (by decide +kernel) (by decide +kernel)
set_option maxRecDepth 20000 in
theorem ggL_law_L_remove_c3 : GoodIn wsL_law wsL_remove_r4 := goodIn_r _ [480, 481, 482, 483, 484, 485, 486, 487, 221, 336, 337, 488, 489, 490, 491, 219, 262, 492, 277, 278, 261, 279, 269, 280] (by decide +kernel) (by decide +kernel)
set_option maxRecDepth 20000 in
theorem ggL_law_L_remove_c4 : GoodIn wsL_law wsL_remove_r5 := goodIn_r _ [281, 493, 494, 495, 325, 496, 497, 327, 498, 332, 333, 334, 335, 499, 500, 501, 502, 387, 47, 395, 396, 397, 46, 398] (by decide +kernel) (by decide +kernel)
set_option maxRecDepth 20000 in
theorem ggL_law_L_remove_c5 : GoodIn wsL_law wsL_remove_r6 := goodIn_r _ [399, 400, 52, 53, 503, 504, 505, 370, 506, 507, 508, 509, 510, 511, 512, 513] (by decide +kernel) (by decide +kernel)
set_option maxRecDepth 20000 in
theorem ggL_law_L_remove_c6 : GoodIn wsL_law wsX110 := goodIn_r _ [1078, 1079, 1080, 1081, 1082, 1083, 1084, 1085, 1086, 1087, 1088, 1089] (by decide +kernel) (by decide +kernel)
set_option maxRecDepth 20000 in
theorem ggL_law_L_remove_c7 : GoodIn wsL_law wsX90 := goodIn_r _ [1147, 1148, 1149, 1150, 1151, 1152, 1153, 1154] (by decide +kernel) (by decide +kernel)
set_option maxRecDepth 20000 in
theorem ggL_law_L_remove_c8 : GoodIn wsL_law wsX50 := goodIn_r _ [1155, 1156, 1157, 1158, 1159, 1160, 1161, 1162] (by decide +kernel) (by decide +kernel)
set_option maxRecDepth 20000 in
theorem ggL_law_L_remove_c9 : GoodIn wsL_law wsX100 := goodIn_r _ [1193, 1194, 1195, 1196, 1197, 1198] (by decide +kernel) (by decide +kernel)
set_option maxRecDepth 20000 in
theorem ggL_law_L_remove_c10 : GoodIn wsL_law wsX10 := goodIn_r _ [1206, 1207, 1208, 1209, 1210, 1211, 1212] (by decide +kernel) (by decide +kernel)
set_option maxRecDepth 20000 in
theorem ggL_law_L_remove_c11 : GoodIn wsL_law wsX00 := goodIn_r _ [1199, 1200, 1201, 1202, 1203] (by decide +kernel) (by decide +kernel)
set_option maxRecDepth 20000 in
theorem ggL_law_L_remove_c12 : GoodIn wsL_law wsX40 := goodIn_r _ [1204, 1205] (by decide +kernel) (by decide +kernel)
set_option maxRecDepth 20000 in
theorem ggL_law_L_remove_c13 : GoodIn wsL_law wsX30 := goodIn_r _ [1179, 1180, 1181, 1182, 1183] (by decide +kernel) (by decide +kernel)
set_option maxRecDepth 20000 in
theorem ggL_law_L_remove_c0 : GoodIn wsL_law (.codeWith yL_remove cL_remove 6 (some .int) [(0, 12, 15, 19), (0, 12, 19, 33)] :: wsL_remove_r1) := goodIn_r _ [439, 166, 240, 440, 441, 442, 2, 443, 28, 444, 171, 172, 173, 174, 175, 445, 446, 447, 448, 16, 20, 449, 450, 451, 452] (by decide +kernel) (by decide +kernel)
theorem ggL_law_L_remove : GoodIn wsL_law wsL_remove := goodIn_ca (goodIn_ca ((goodIn_ca (goodIn_ca (goodIn_ca (goodIn_ca (goodIn_ca (goodIn_ca (goodIn_ca (goodIn_ca (goodIn_ca ggL_law_L_remove_c0 (goodIn_app ggL_law_L_remove_c1 (goodIn_app ggL_law_L_remove_c2 (goodIn_app ggL_law_L_remove_c3 (goodIn_app ggL_law_L_remove_c4 ggL_law_L_remove_c5))))) ggL_law_L_remove_c6) ggL_law_L_remove_c7) ggL_law_L_remove_c8) ggL_law_L_remove_c9) ggL_law_L_remove_c10) ggL_law_L_remove_c11) ggL_law_L_remove_c12) ggL_law_L_remove_c13)) (goodIn_sub (fun _ h => List.mem_append_left _ (List.mem_append_left _ (List.mem_append_left _ (List.mem_append_left _ (List.mem_append_left _ (List.mem_append_right _ h)))))) (by decide +kernel))) (goodIn_sub (fun _ h => List.mem_append_left _ (List.mem_append_left _ (List.mem_append_left _ (List.mem_append_right _ h)))) (by decide +kernel))
set_option maxRecDepth 20000 in
theorem gL_law_L_remove : GoodIn wsL_law (va_wsS RL 126 yL_remove wsL_remove) := goodIn_app (goodIn_of _ (by decide +kernel)) ggL_law_L_remove
set_option maxRecDepth 20000 in
theorem ggL_law_X12_remove : GoodIn wsL_law wsX12_remove := goodIn_r _ [517, 518, 99, 351, 95, 105, 109, 519, 520, 521, 5, 522, 302, 303, 304, 305, 236, 154, 155, 156, 157, 158, 523, 524, 525, 526, 104, 527, 528, 529, 530, 531, 532, 96, 97, 352, 353, 354, 355, 106, 107, 414, 415, 416, 417, 103, 533, 534, 535, 536, 427, 428, 429, 430, 431, 111, 432, 1090, 1091, 1092, 1093, 1094, 1095, 1096, 1097, 1098, 1099, 1100, 1101, 1102, 1103, 1104, 1105, 1106, 1107, 1108, 1109, 1110, 1111, 1112, 1113, 1114, 1115, 1116, 1117, 1118, 1119, 1120, 1121, 1122, 1123, 1124, 1125, 1126, 1127, 1128, 1129, 1130, 1131, 1132, 1133, 1134, 1135, 1136, 1137, 1138, 1139, 1140, 1141, 1142, 1143, 1144, 1145, 1146] (by decide +kernel) (by decide +kernel)
set_option maxRecDepth 20000 in
theorem gL_law_X12_remove : GoodIn wsL_law (wsV RL 129 RX12 yX12_remove wsX12_remove) := goodIn_app (goodIn_of _ (by decide +kernel)) ggL_law_X12_remove
set_option maxRecDepth 20000 in
theorem ggL_law_L_find_c1 : GoodIn wsL_law wsL_find_r2 := goodIn_r _ [453, 454, 455, 456, 457, 458, 246, 247, 248, 249, 250, 251, 252, 253, 254, 19, 255, 209, 41, 459, 460, 461, 462, 381] (by decide +kernel) (by decide +kernel)
set_option maxRecDepth 20000 in
theorem ggL_law_L_find_c2 : GoodIn wsL_law wsL_find_r3 := goodIn_r _ [463, 464, 465, 27, 466, 467, 468, 469, 470, 471, 472, 473, 58, 474, 314, 315, 211, 316, 224, 479, 480, 481, 482, 483] (by decide +kernel) (by decide +kernel)
set_option maxRecDepth 20000 in
theorem ggL_law_L_find_c3 : GoodIn wsL_law wsL_find_r4 := goodIn_r _ [484, 485, 486, 487, 221, 336, 337, 488, 489, 490, 491, 219, 262, 492, 277, 278, 261, 279, 269, 280, 281, 493, 494, 495] (by decide +kernel) (by decide +kernel)
set_option maxRecDepth 20000 in
theorem ggL_law_L_find_c4 : GoodIn wsL_law wsL_find_r5 := goodIn_r _ [325, 496, 497, 327, 498, 332, 333, 334, 335, 510, 511, 512, 513, 503, 504, 505, 370] (by decide +kernel) (by decide +kernel)
set_option maxRecDepth 20000 in
theorem ggL_law_L_find_c5 : GoodIn wsL_law wsX110 := goodIn_r _ [1078, 1079, 1080, 1081, 1082, 1083, 1084, 1085, 1086, 1087, 1088, 1089] (by decide +kernel) (by decide +kernel)
set_option maxRecDepth 20000 in
theorem ggL_law_L_find_c6 : GoodIn wsL_law wsX90 := goodIn_r _ [1147, 1148, 1149, 1150, 1151, 1152, 1153, 1154] (by decide +kernel) (by decide +kernel)
set_option maxRecDepth 20000 in
theorem ggL_law_L_find_c7 : GoodIn wsL_law wsX50 := goodIn_r _ [1155, 1156, 1157, 1158, 1159, 1160, 1161, 1162] (by decide +kernel) (by decide +kernel)
set_option maxRecDepth 20000 in
theorem ggL_law_L_find_c8 : GoodIn wsL_law wsX100 := goodIn_r _ [1193, 1194, 1195, 1196, 1197, 1198] (by decide +kernel) (by decide +kernel)
set_option maxRecDepth 20000 in
theorem ggL_law_L_find_c9 : GoodIn wsL_law wsX10 := goodIn_r _ [1206, 1207, 1208, 1209, 1210, 1211, 1212] (by decide +kernel) (by decide +kernel)
set_option maxRecDepth 20000 in
theorem ggL_law_L_find_c10 : GoodIn wsL_law wsX00 := goodIn_r _ [1199, 1200, 1201, 1202, 1203] (by decide +kernel) (by decide +kernel)
set_option maxRecDepth 20000 in
theorem ggL_law_L_find_c11 : GoodIn wsL_law wsX40 := goodIn_r _ [1204, 1205] (by decide +kernel) (by decide +kernel)
set_option maxRecDepth 20000 in
theorem ggL_law_L_find_c0 : GoodIn wsL_law (.codeWith yL_find cL_find 6 (some .int) [(0, 12, 15, 19), (0, 12, 19, 33)] :: wsL_find_r1) := goodIn_r _ [539, 166, 240, 540, 541, 542, 2, 543, 28, 444, 445, 446, 447, 448, 16, 20, 449, 450, 451, 452, 171, 172, 173, 174, 175] (by decide +kernel) (by decide +kernel)
theorem ggL_law_L_find : GoodIn wsL_law wsL_find := goodIn_ca (goodIn_ca ((goodIn_ca (goodIn_ca (goodIn_ca (goodIn_ca (goodIn_ca (goodIn_ca (goodIn_ca (goodIn_ca ggL_law_L_find_c0 (goodIn_app ggL_law_L_find_c1 (goodIn_app ggL_law_L_find_c2 (goodIn_app ggL_law_L_find_c3 ggL_law_L_find_c4)))) ggL_law_L_find_c5) ggL_law_L_find_c6) ggL_law_L_find_c7) ggL_law_L_find_c8) ggL_law_L_find_c9) ggL_law_L_find_c10) ggL_law_L_find_c11)) (goodIn_sub (fun _ h => List.mem_append_left _ (List.mem_append_left _ (List.mem_append_left _ (List.mem_append_left _ (List.mem_append_left _ (List.mem_append_right _ h)))))) (by decide +kernel))) (goodIn_sub (fun _ h => List.mem_append_left _ (List.mem_append_left _ (List.mem_append_left _ (List.mem_append_right _ h)))) (by decide +kernel))
set_option maxRecDepth 20000 in
theorem gL_law_L_find : GoodIn wsL_law (va_wsS RL 130 yL_find wsL_find) := goodIn_app (goodIn_of _ (by decide +kernel)) ggL_law_L_find
set_option maxRecDepth 20000 in
theorem ggL_law_X12_find : GoodIn wsL_law wsX12_find := goodIn_r _ [547, 518, 99, 95, 105, 519, 520, 521, 5, 522, 548, 549, 550, 551, 552, 351, 302, 303, 304, 305, 236, 154, 155, 156, 157, 158, 553, 554, 555, 556, 523, 524, 525, 526, 104, 527, 528, 109, 529, 530, 531, 532, 96, 97, 352, 353, 354, 355, 106, 107, 414, 415, 416, 417, 103, 1090, 1091, 1092, 1093, 1094, 1095, 1096, 1097, 1098, 1099, 1100, 1101, 1102, 1103, 1104, 1105, 1106, 1107, 1108, 1109, 1110, 1111, 1112, 1113, 1114, 1115, 1116, 1117, 1118, 1119, 1120, 1121, 1122, 1123, 1124, 1125, 1126, 1127, 1128, 1129, 1130, 1131, 1132, 1133, 1134, 1135, 1136, 1137, 1138, 1139, 1140, 1141, 1142, 1143, 1144, 1145, 1146] (by decide +kernel) (by decide +kernel)
set_option maxRecDepth 20000 in
theorem gL_law_X12_find : GoodIn wsL_law (wsV RL 132 RX12 yX12_find wsX12_find) := goodIn_app (goodIn_of _ (by decide +kernel)) ggL_law_X12_find
