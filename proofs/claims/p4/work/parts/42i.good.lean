set_option maxRecDepth 20000 in
theorem ggL_law_X12_question_c1 : GoodIn wsL_law wsX12_question_r2 := goodIn_r _ [949, 950, 951, 952, 953, 954, 123, 955, 956, 957, 958, 959, 960, 961, 962, 94, 963, 964, 965, 966, 967, 968, 969, 970] (by decide +kernel) (by decide +kernel)
set_option maxRecDepth 20000 in
theorem ggL_law_X12_question_c2 : GoodIn wsL_law wsX12_question_r3 := goodIn_r _ [124, 971, 96, 125, 126, 972, 973, 974, 975, 976, 977, 978, 979, 980, 981, 982, 983, 302, 303, 304, 305, 236, 984, 985] (by decide +kernel) (by decide +kernel)
set_option maxRecDepth 20000 in
theorem ggL_law_X12_question_c3 : GoodIn wsL_law wsX12_question_r4 := goodIn_r _ [986, 987, 988, 989, 990, 991, 992, 993, 994, 995, 996, 997, 998, 999, 1000, 1001, 1002, 1003, 553, 554, 555, 556, 1004, 1005] (by decide +kernel) (by decide +kernel)
set_option maxRecDepth 20000 in
theorem ggL_law_X12_question_c4 : GoodIn wsL_law wsX12_question_r5 := goodIn_r _ [1006, 1007, 128, 109, 129, 99, 1008, 1009, 1010, 1011, 1012, 1013, 1014, 1015, 130, 1016, 1017, 1018, 1019, 523, 524, 525, 526, 104] (by decide +kernel) (by decide +kernel)
set_option maxRecDepth 20000 in
theorem ggL_law_X12_question_c5 : GoodIn wsL_law wsX12_question_r6 := goodIn_r _ [529, 530, 531, 532, 97, 352, 353, 354, 355, 106, 107, 414, 415, 416, 417, 103, 1020, 1021, 1022, 1023, 1024, 1025, 1026, 1027] (by decide +kernel) (by decide +kernel)
set_option maxRecDepth 20000 in
theorem ggL_law_X12_question_c6 : GoodIn wsL_law wsX120 := goodIn_r _ [1090, 1091, 1092, 1093, 1094, 1095, 1096, 1097, 1098, 1099, 1100, 1101, 1102, 1103, 1104, 1105, 1106, 1107, 1108, 1109, 1110, 1111, 1112, 1113, 1114, 1115, 1116, 1117, 1118, 1119, 1120, 1121, 1122, 1123, 1124, 1125, 1126, 1127, 1128, 1129, 1130, 1131, 1132, 1133, 1134, 1135, 1136, 1137, 1138, 1139, 1140, 1141, 1142, 1143, 1144, 1145, 1146] (by decide +kernel) (by decide +kernel)
set_option maxRecDepth 20000 in
theorem ggL_law_X12_question_c0 : GoodIn wsL_law (.code yX12_question cX12_question 5 (some .int) :: wsX12_question_r1) := goodIn_r _ [944, 153, 122, 518, 528, 527, 945, 158, 946, 127, 947, 948, 131, 132, 548, 549, 550, 5, 551, 552, 351, 154, 155, 156, 157] (by decide +kernel) (by decide +kernel)
theorem ggL_law_X12_question : GoodIn wsL_law wsX12_question := (goodIn_ca (goodIn_ca ggL_law_X12_question_c0 (goodIn_app ggL_law_X12_question_c1 (goodIn_app ggL_law_X12_question_c2 (goodIn_app ggL_law_X12_question_c3 (goodIn_app ggL_law_X12_question_c4 ggL_law_X12_question_c5))))) ggL_law_X12_question_c6)
set_option maxRecDepth 20000 in
theorem gL_law_X12_question : GoodIn wsL_law (wsV RL 167 RX12 yX12_question wsX12_question) := goodIn_app (goodIn_of _ (by decide +kernel)) ggL_law_X12_question
set_option maxRecDepth 20000 in
theorem ggL_law_L_solution : GoodIn wsL_law wsL_solution := goodIn_ca (goodIn_ca (goodIn_r _ [1030, 166, 137, 1031, 1032, 1033, 2, 1034, 142, 143, 36, 1035, 1036, 1037, 171, 172, 173, 174, 175, 1038, 1039, 1040, 79, 1041, 899, 1042, 1043, 731, 1044, 1045, 336, 337, 1078, 1079, 1080, 1081, 1082, 1083, 1084, 1085, 1086, 1087, 1088, 1089, 1171, 1172, 1173, 1174, 1175, 1176, 1177, 1178, 1190, 1191, 1192] (by decide +kernel) (by decide +kernel)) (goodIn_sub (fun _ h => List.mem_append_left _ (List.mem_append_left _ (List.mem_append_left _ (List.mem_append_left _ (List.mem_append_left _ (List.mem_append_left _ (List.mem_append_right _ h))))))) (by decide +kernel))) (goodIn_sub (fun _ h => List.mem_append_left _ (List.mem_append_left _ (List.mem_append_left _ (List.mem_append_left _ (List.mem_append_left _ (List.mem_append_right _ h)))))) (by decide +kernel))
set_option maxRecDepth 20000 in
theorem gL_law_L_solution : GoodIn wsL_law (va_wsS RL 168 yL_solution wsL_solution) := goodIn_app (goodIn_of _ (by decide +kernel)) ggL_law_L_solution
set_option maxRecDepth 20000 in
theorem ggL_law_X12_solution : GoodIn wsL_law wsX12_solution := goodIn_r _ [1049, 946, 948, 131, 154, 155, 156, 5, 157, 158, 1090, 1091, 1092, 1093, 1094, 1095, 1096, 1097, 1098, 1099, 1100, 1101, 1102, 1103, 1104, 1105, 1106, 1107, 1108, 1109, 1110, 1111, 1112, 1113, 1114, 1115, 1116, 1117, 1118, 1119, 1120, 1121, 1122, 1123, 1124, 1125, 1126, 1127, 1128, 1129, 1130, 1131, 1132, 1133, 1134, 1135, 1136, 1137, 1138, 1139, 1140, 1141, 1142, 1143, 1144, 1145, 1146] (by decide +kernel) (by decide +kernel)
set_option maxRecDepth 20000 in
theorem gL_law_X12_solution : GoodIn wsL_law (wsV RL 170 RX12 yX12_solution wsX12_solution) := goodIn_app (goodIn_of _ (by decide +kernel)) ggL_law_X12_solution
set_option maxRecDepth 20000 in
theorem ggL_law_L_count : GoodIn wsL_law wsL_count := goodIn_ca (goodIn_r _ [1052, 166, 1053, 1054, 1055, 2, 1056, 144, 20, 1057, 458, 1058, 457, 444, 32, 796, 654, 655, 36, 1035, 1036, 171, 172, 173, 174, 175, 720, 721, 722, 723, 24, 1059, 1060, 1061, 1062, 1063, 1064, 1065, 1066, 1067, 1068, 1069, 252, 253, 254, 19, 255, 209, 41, 1070, 1071, 1072, 211, 1073, 219, 262, 263, 322, 323, 324, 325, 326, 327, 1078, 1079, 1080, 1081, 1082, 1083, 1084, 1085, 1086, 1087, 1088, 1089, 1147, 1148, 1149, 1150, 1151, 1152, 1153, 1154, 1163, 1164, 1165, 1166, 1167, 1168, 1169, 1170, 1179, 1180, 1181, 1182, 1183, 1171, 1172, 1173, 1174, 1175, 1176, 1177, 1178, 1190, 1191, 1192, 1193, 1194, 1195, 1196, 1197, 1198, 1199, 1200, 1201, 1202, 1203, 1206, 1207, 1208, 1209, 1210, 1211, 1212] (by decide +kernel) (by decide +kernel)) (goodIn_sub (fun _ h => List.mem_append_left _ (List.mem_append_left _ (List.mem_append_left _ (List.mem_append_left _ (List.mem_append_left _ (List.mem_append_right _ h)))))) (by decide +kernel))
set_option maxRecDepth 20000 in
theorem gL_law_L_count : GoodIn wsL_law (va_wsS RL 171 yL_count wsL_count) := goodIn_app (goodIn_of _ (by decide +kernel)) ggL_law_L_count
set_option maxRecDepth 20000 in
theorem ggL_law_X12_count : GoodIn wsL_law wsX12_count := goodIn_r _ [1077, 153, 236, 351, 413, 552, 518, 122, 113, 431, 948, 99, 109, 154, 155, 156, 5, 157, 158, 302, 303, 304, 305, 352, 353, 354, 355, 106, 107, 1090, 1091, 1092, 1093, 1094, 1095, 1096, 1097, 1098, 1099, 1100, 1101, 1102, 1103, 1104, 1105, 1106, 1107, 1108, 1109, 1110, 1111, 1112, 1113, 1114, 1115, 1116, 1117, 1118, 1119, 1120, 1121, 1122, 1123, 1124, 1125, 1126, 1127, 1128, 1129, 1130, 1131, 1132, 1133, 1134, 1135, 1136, 1137, 1138, 1139, 1140, 1141, 1142, 1143, 1144, 1145, 1146] (by decide +kernel) (by decide +kernel)
set_option maxRecDepth 20000 in
theorem gL_law_X12_count : GoodIn wsL_law (wsV RL 173 RX12 yX12_count wsX12_count) := goodIn_app (goodIn_of _ (by decide +kernel)) ggL_law_X12_count
