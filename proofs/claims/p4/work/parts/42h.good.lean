set_option maxRecDepth 20000 in
theorem ggL_law_L_purge_c1 : GoodIn wsL_law wsL_purge_r2 := goodIn_r _ [721, 722, 723, 24, 459, 460, 461, 19, 462, 381, 724, 725, 726, 727, 728, 729, 730, 731, 732, 209, 41, 379, 43, 387] (by decide +kernel) (by decide +kernel)
set_option maxRecDepth 20000 in
theorem ggL_law_L_purge_c2 : GoodIn wsL_law wsL_purge_r3 := goodIn_r _ [733, 734, 735, 211, 736, 219, 262, 224, 221, 263, 737, 738, 739, 740, 218, 741, 293, 287, 742, 743, 744, 261, 745, 269] (by decide +kernel) (by decide +kernel)
set_option maxRecDepth 20000 in
theorem ggL_law_L_purge_c3 : GoodIn wsL_law wsL_purge_r4 := goodIn_r _ [281, 746, 322, 323, 324, 325, 326, 327, 747, 402, 403, 404, 405, 406, 407, 408, 289, 290, 291, 292, 229, 283, 284, 285] (by decide +kernel) (by decide +kernel)
set_option maxRecDepth 20000 in
theorem ggL_law_L_purge_c4 : GoodIn wsL_law wsL_purge_r5 := goodIn_r _ [286, 288, 294, 295, 296, 297, 271, 272, 273, 274, 275, 270, 268, 217, 276, 277, 278, 279, 280, 282, 226, 227, 228, 11] (by decide +kernel) (by decide +kernel)
set_option maxRecDepth 20000 in
theorem ggL_law_L_purge_c5 : GoodIn wsL_law wsL_purge_r6 := goodIn_r _ [12, 230, 231, 748] (by decide +kernel) (by decide +kernel)
set_option maxRecDepth 20000 in
theorem ggL_law_L_purge_c6 : GoodIn wsL_law wsX110 := goodIn_r _ [1078, 1079, 1080, 1081, 1082, 1083, 1084, 1085, 1086, 1087, 1088, 1089] (by decide +kernel) (by decide +kernel)
set_option maxRecDepth 20000 in
theorem ggL_law_L_purge_c7 : GoodIn wsL_law wsX90 := goodIn_r _ [1147, 1148, 1149, 1150, 1151, 1152, 1153, 1154] (by decide +kernel) (by decide +kernel)
set_option maxRecDepth 20000 in
theorem ggL_law_L_purge_c8 : GoodIn wsL_law wsX30 := goodIn_r _ [1179, 1180, 1181, 1182, 1183] (by decide +kernel) (by decide +kernel)
set_option maxRecDepth 20000 in
theorem ggL_law_L_purge_c9 : GoodIn wsL_law wsX10 := goodIn_r _ [1206, 1207, 1208, 1209, 1210, 1211, 1212] (by decide +kernel) (by decide +kernel)
set_option maxRecDepth 20000 in
theorem ggL_law_L_purge_c10 : GoodIn wsL_law wsX100 := goodIn_r _ [1193, 1194, 1195, 1196, 1197, 1198] (by decide +kernel) (by decide +kernel)
set_option maxRecDepth 20000 in
theorem ggL_law_L_purge_c11 : GoodIn wsL_law wsX00 := goodIn_r _ [1199, 1200, 1201, 1202, 1203] (by decide +kernel) (by decide +kernel)
set_option maxRecDepth 20000 in
theorem ggL_law_L_purge_c12 : GoodIn wsL_law wsX40 := goodIn_r _ [1204, 1205] (by decide +kernel) (by decide +kernel)
set_option maxRecDepth 20000 in
theorem ggL_law_L_purge_c0 : GoodIn wsL_law (.codeWith yL_purge cL_purge 4 (some .int) [(0, 9, 12, 19), (0, 9, 15, 28)] :: wsL_purge_r1) := goodIn_r _ [715, 166, 198, 716, 717, 718, 2, 719, 203, 204, 20, 654, 655, 453, 454, 455, 456, 457, 458, 171, 172, 173, 174, 175, 720] (by decide +kernel) (by decide +kernel)
theorem ggL_law_L_purge : GoodIn wsL_law wsL_purge := goodIn_ca (goodIn_ca ((goodIn_ca (goodIn_ca (goodIn_ca (goodIn_ca (goodIn_ca (goodIn_ca (goodIn_ca (goodIn_ca ggL_law_L_purge_c0 (goodIn_app ggL_law_L_purge_c1 (goodIn_app ggL_law_L_purge_c2 (goodIn_app ggL_law_L_purge_c3 (goodIn_app ggL_law_L_purge_c4 ggL_law_L_purge_c5))))) ggL_law_L_purge_c6) ggL_law_L_purge_c7) ggL_law_L_purge_c8) ggL_law_L_purge_c9) ggL_law_L_purge_c10) ggL_law_L_purge_c11) ggL_law_L_purge_c12)) (goodIn_sub (fun _ h => List.mem_append_left _ (List.mem_append_left _ (List.mem_append_left _ (List.mem_append_left _ (List.mem_append_right _ h))))) (by decide +kernel))) (goodIn_sub (fun _ h => List.mem_append_left _ (List.mem_append_left _ (List.mem_append_left _ (List.mem_append_left _ (List.mem_append_left _ (List.mem_append_right _ h)))))) (by decide +kernel))
set_option maxRecDepth 20000 in
theorem gL_law_L_purge : GoodIn wsL_law (va_wsS RL 156 yL_purge wsL_purge) := goodIn_app (goodIn_of _ (by decide +kernel)) ggL_law_L_purge
set_option maxRecDepth 20000 in
theorem ggL_law_X12_purge : GoodIn wsL_law wsX12_purge := goodIn_r _ [752, 431, 113, 552, 102, 107, 108, 99, 103, 109, 100, 413, 548, 549, 550, 5, 551, 351, 154, 155, 156, 157, 158, 553, 554, 555, 556, 1090, 1091, 1092, 1093, 1094, 1095, 1096, 1097, 1098, 1099, 1100, 1101, 1102, 1103, 1104, 1105, 1106, 1107, 1108, 1109, 1110, 1111, 1112, 1113, 1114, 1115, 1116, 1117, 1118, 1119, 1120, 1121, 1122, 1123, 1124, 1125, 1126, 1127, 1128, 1129, 1130, 1131, 1132, 1133, 1134, 1135, 1136, 1137, 1138, 1139, 1140, 1141, 1142, 1143, 1144, 1145, 1146] (by decide +kernel) (by decide +kernel)
set_option maxRecDepth 20000 in
theorem gL_law_X12_purge : GoodIn wsL_law (wsV RL 158 RX12 yX12_purge wsX12_purge) := goodIn_app (goodIn_of _ (by decide +kernel)) ggL_law_X12_purge
set_option maxRecDepth 20000 in
theorem ggL_law_L_changes : GoodIn wsL_law wsL_changes := goodIn_ca (goodIn_ca (goodIn_r _ [755, 166, 240, 756, 757, 758, 2, 759, 20, 760, 625, 761, 370, 762, 453, 454, 455, 456, 457, 458, 171, 172, 173, 174, 175, 246, 247, 248, 249, 250, 251, 252, 253, 254, 19, 255, 209, 41, 459, 460, 461, 462, 381, 763, 494, 495, 325, 496, 497, 327, 764, 765, 766, 767, 25, 1078, 1079, 1080, 1081, 1082, 1083, 1084, 1085, 1086, 1087, 1088, 1089, 1193, 1194, 1195, 1196, 1197, 1198, 1199, 1200, 1201, 1202, 1203, 1206, 1207, 1208, 1209, 1210, 1211, 1212, 1147, 1148, 1149, 1150, 1151, 1152, 1153, 1154] (by decide +kernel) (by decide +kernel)) (goodIn_sub (fun _ h => List.mem_append_left _ (List.mem_append_left _ (List.mem_append_left _ (List.mem_append_left _ (List.mem_append_left _ (List.mem_append_right _ h)))))) (by decide +kernel))) (goodIn_sub (fun _ h => List.mem_append_left _ (List.mem_append_left _ (List.mem_append_left _ (List.mem_append_right _ h)))) (by decide +kernel))
set_option maxRecDepth 20000 in
theorem gL_law_L_changes : GoodIn wsL_law (va_wsS RL 159 yL_changes wsL_changes) := goodIn_app (goodIn_of _ (by decide +kernel)) ggL_law_L_changes
set_option maxRecDepth 20000 in
theorem ggL_law_X12_changes : GoodIn wsL_law wsX12_changes := goodIn_r _ [771, 772, 99, 105, 109, 548, 549, 550, 5, 551, 552, 351, 302, 303, 304, 305, 236, 154, 155, 156, 157, 158, 553, 554, 555, 556, 352, 353, 354, 355, 106, 107, 773, 774, 775, 776, 121, 1090, 1091, 1092, 1093, 1094, 1095, 1096, 1097, 1098, 1099, 1100, 1101, 1102, 1103, 1104, 1105, 1106, 1107, 1108, 1109, 1110, 1111, 1112, 1113, 1114, 1115, 1116, 1117, 1118, 1119, 1120, 1121, 1122, 1123, 1124, 1125, 1126, 1127, 1128, 1129, 1130, 1131, 1132, 1133, 1134, 1135, 1136, 1137, 1138, 1139, 1140, 1141, 1142, 1143, 1144, 1145, 1146] (by decide +kernel) (by decide +kernel)
set_option maxRecDepth 20000 in
theorem gL_law_X12_changes : GoodIn wsL_law (wsV RL 161 RX12 yX12_changes wsX12_changes) := goodIn_app (goodIn_of _ (by decide +kernel)) ggL_law_X12_changes
set_option maxRecDepth 20000 in
theorem ggL_law_L_found : GoodIn wsL_law wsL_found := goodIn_ca (goodIn_r _ [779, 137, 780, 781, 782, 2, 783, 142, 143, 760, 25, 1078, 1079, 1080, 1081, 1082, 1083, 1084, 1085, 1086, 1087, 1088, 1089] (by decide +kernel) (by decide +kernel)) (goodIn_sub (fun _ h => List.mem_append_left _ (List.mem_append_left _ (List.mem_append_left _ (List.mem_append_left _ (List.mem_append_left _ (List.mem_append_left _ (List.mem_append_right _ h))))))) (by decide +kernel))
set_option maxRecDepth 20000 in
theorem gL_law_L_found : GoodIn wsL_law (va_wsS RL 162 yL_found wsL_found) := goodIn_app (goodIn_of _ (by decide +kernel)) ggL_law_L_found
set_option maxRecDepth 20000 in
theorem ggL_law_X12_found : GoodIn wsL_law wsX12_found := goodIn_r _ [787, 772, 121, 154, 155, 156, 5, 157, 158, 1090, 1091, 1092, 1093, 1094, 1095, 1096, 1097, 1098, 1099, 1100, 1101, 1102, 1103, 1104, 1105, 1106, 1107, 1108, 1109, 1110, 1111, 1112, 1113, 1114, 1115, 1116, 1117, 1118, 1119, 1120, 1121, 1122, 1123, 1124, 1125, 1126, 1127, 1128, 1129, 1130, 1131, 1132, 1133, 1134, 1135, 1136, 1137, 1138, 1139, 1140, 1141, 1142, 1143, 1144, 1145, 1146] (by decide +kernel) (by decide +kernel)
set_option maxRecDepth 20000 in
theorem gL_law_X12_found : GoodIn wsL_law (wsV RL 164 RX12 yX12_found wsX12_found) := goodIn_app (goodIn_of _ (by decide +kernel)) ggL_law_X12_found
set_option maxRecDepth 20000 in
theorem ggL_law_L_question_c1 : GoodIn wsL_law wsL_question_r2 := goodIn_r _ [172, 173, 174, 175, 799, 800, 801, 31, 802, 803, 804, 805, 806, 807, 64, 808, 809, 810, 811, 812, 813, 814, 815, 816] (by decide +kernel) (by decide +kernel)
set_option maxRecDepth 20000 in
theorem ggL_law_L_question_c2 : GoodIn wsL_law wsL_question_r3 := goodIn_r _ [817, 818, 819, 820, 821, 822, 823, 824, 825, 826, 827, 828, 829, 830, 831, 832, 833, 834, 835, 836, 837, 369, 65, 838] (by decide +kernel) (by decide +kernel)
set_option maxRecDepth 20000 in
theorem ggL_law_L_question_c3 : GoodIn wsL_law wsL_question_r4 := goodIn_r _ [839, 840, 841, 842, 253, 254, 19, 255, 209, 41, 843, 844, 845, 846, 847, 848, 849, 850, 851, 852, 853, 854, 855, 856] (by decide +kernel) (by decide +kernel)
set_option maxRecDepth 20000 in
theorem ggL_law_L_question_c4 : GoodIn wsL_law wsL_question_r5 := goodIn_r _ [336, 337, 857, 858, 859, 860, 861, 862, 863, 864, 865, 866, 867, 868, 869, 870, 871, 872, 873, 874, 875, 876, 877, 459] (by decide +kernel) (by decide +kernel)
set_option maxRecDepth 20000 in
theorem ggL_law_L_question_c5 : GoodIn wsL_law wsL_question_r6 := goodIn_r _ [460, 461, 462, 381, 878, 879, 880, 35, 881, 882, 883, 884, 81, 885, 886, 887, 80, 888, 889, 890, 891, 892, 84, 893] (by decide +kernel) (by decide +kernel)
set_option maxRecDepth 20000 in
theorem ggL_law_L_question_c6 : GoodIn wsL_law wsL_question_r7 := goodIn_r _ [894, 895, 896, 897, 79, 898, 899, 89, 900, 901, 902, 903, 904, 905, 906, 907, 908, 909, 910, 83, 911, 912, 913, 914] (by decide +kernel) (by decide +kernel)
set_option maxRecDepth 20000 in
theorem ggL_law_L_question_c7 : GoodIn wsL_law wsL_question_r8 := goodIn_r _ [915, 85, 916, 917, 918, 919, 920, 921, 922, 923, 924, 464, 465, 27, 466, 467, 468, 469, 470, 471, 472, 473, 58, 474] (by decide +kernel) (by decide +kernel)
set_option maxRecDepth 20000 in
theorem ggL_law_L_question_c8 : GoodIn wsL_law wsL_question_r9 := goodIn_r _ [314, 315, 211, 316, 224, 925, 926, 927, 928, 929, 930, 931, 932, 480, 481, 482, 483, 484, 485, 486, 487, 221, 488, 489] (by decide +kernel) (by decide +kernel)
set_option maxRecDepth 20000 in
theorem ggL_law_L_question_c9 : GoodIn wsL_law wsL_question_r10 := goodIn_r _ [490, 491, 219, 262, 492, 277, 278, 261, 279, 269, 280, 281, 493, 494, 495, 325, 496, 497, 327, 498, 332, 333, 334, 335] (by decide +kernel) (by decide +kernel)
set_option maxRecDepth 20000 in
theorem ggL_law_L_question_c10 : GoodIn wsL_law wsL_question_r11 := goodIn_r _ [933, 511, 512, 513, 934, 935, 936, 937, 938, 939, 940] (by decide +kernel) (by decide +kernel)
set_option maxRecDepth 20000 in
theorem ggL_law_L_question_c11 : GoodIn wsL_law wsX110 := goodIn_r _ [1078, 1079, 1080, 1081, 1082, 1083, 1084, 1085, 1086, 1087, 1088, 1089] (by decide +kernel) (by decide +kernel)
set_option maxRecDepth 20000 in
theorem ggL_law_L_question_c12 : GoodIn wsL_law wsX60 := goodIn_r _ [1163, 1164, 1165, 1166, 1167, 1168, 1169, 1170] (by decide +kernel) (by decide +kernel)
set_option maxRecDepth 20000 in
theorem ggL_law_L_question_c13 : GoodIn wsL_law wsX80 := goodIn_r _ [1171, 1172, 1173, 1174, 1175, 1176, 1177, 1178] (by decide +kernel) (by decide +kernel)
set_option maxRecDepth 20000 in
theorem ggL_law_L_question_c14 : GoodIn wsL_law wsX90 := goodIn_r _ [1147, 1148, 1149, 1150, 1151, 1152, 1153, 1154] (by decide +kernel) (by decide +kernel)
set_option maxRecDepth 20000 in
theorem ggL_law_L_question_c15 : GoodIn wsL_law wsX20 := goodIn_r _ [1184, 1185, 1186, 1187, 1188, 1189] (by decide +kernel) (by decide +kernel)
set_option maxRecDepth 20000 in
theorem ggL_law_L_question_c16 : GoodIn wsL_law wsX100 := goodIn_r _ [1193, 1194, 1195, 1196, 1197, 1198] (by decide +kernel) (by decide +kernel)
set_option maxRecDepth 20000 in
theorem ggL_law_L_question_c17 : GoodIn wsL_law wsX70 := goodIn_r _ [1190, 1191, 1192] (by decide +kernel) (by decide +kernel)
set_option maxRecDepth 20000 in
theorem ggL_law_L_question_c18 : GoodIn wsL_law wsX50 := goodIn_r _ [1155, 1156, 1157, 1158, 1159, 1160, 1161, 1162] (by decide +kernel) (by decide +kernel)
set_option maxRecDepth 20000 in
theorem ggL_law_L_question_c19 : GoodIn wsL_law wsX10 := goodIn_r _ [1206, 1207, 1208, 1209, 1210, 1211, 1212] (by decide +kernel) (by decide +kernel)
set_option maxRecDepth 20000 in
theorem ggL_law_L_question_c20 : GoodIn wsL_law wsX00 := goodIn_r _ [1199, 1200, 1201, 1202, 1203] (by decide +kernel) (by decide +kernel)
set_option maxRecDepth 20000 in
theorem ggL_law_L_question_c21 : GoodIn wsL_law wsX40 := goodIn_r _ [1204, 1205] (by decide +kernel) (by decide +kernel)
set_option maxRecDepth 20000 in
theorem ggL_law_L_question_c0 : GoodIn wsL_law (.codeWith yL_question cL_question 4 (some .int) [(0, 9, 12, 19), (0, 9, 15, 41), (0, 9, 18, 85)] :: wsL_question_r1) := goodIn_r _ [790, 166, 363, 791, 792, 793, 794, 2, 795, 144, 32, 796, 14, 20, 797, 444, 36, 798, 453, 454, 455, 456, 457, 458, 171] (by decide +kernel) (by decide +kernel)
theorem ggL_law_L_question : GoodIn wsL_law wsL_question := goodIn_ca (goodIn_ca (goodIn_ca ((goodIn_ca (goodIn_ca (goodIn_ca (goodIn_ca (goodIn_ca (goodIn_ca (goodIn_ca (goodIn_ca (goodIn_ca (goodIn_ca (goodIn_ca (goodIn_ca ggL_law_L_question_c0 (goodIn_app ggL_law_L_question_c1 (goodIn_app ggL_law_L_question_c2 (goodIn_app ggL_law_L_question_c3 (goodIn_app ggL_law_L_question_c4 (goodIn_app ggL_law_L_question_c5 (goodIn_app ggL_law_L_question_c6 (goodIn_app ggL_law_L_question_c7 (goodIn_app ggL_law_L_question_c8 (goodIn_app ggL_law_L_question_c9 ggL_law_L_question_c10)))))))))) ggL_law_L_question_c11) ggL_law_L_question_c12) ggL_law_L_question_c13) ggL_law_L_question_c14) ggL_law_L_question_c15) ggL_law_L_question_c16) ggL_law_L_question_c17) ggL_law_L_question_c18) ggL_law_L_question_c19) ggL_law_L_question_c20) ggL_law_L_question_c21)) (goodIn_sub (fun _ h => List.mem_append_left _ (List.mem_append_left _ (List.mem_append_left _ (List.mem_append_left _ (List.mem_append_left _ (List.mem_append_right _ h)))))) (by decide +kernel))) (goodIn_sub (fun _ h => List.mem_append_left _ (List.mem_append_right _ h)) (by decide +kernel))) (goodIn_sub (fun _ h => List.mem_append_right _ h) (by decide +kernel))
set_option maxRecDepth 20000 in
theorem gL_law_L_question : GoodIn wsL_law (va_wsS RL 165 yL_question wsL_question) := goodIn_app (goodIn_of _ (by decide +kernel)) ggL_law_L_question
