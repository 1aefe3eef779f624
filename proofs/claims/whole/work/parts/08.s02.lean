set_option maxRecDepth 20000 in
theorem ggL_law_X10_setRule : GoodIn wsL_law wsX10_setRule := goodIn_r _ [305, 125, 126, 286, 287, 288, 5, 289, 245, 246, 247, 248, 306, 307, 308, 309, 310, 311, 312, 313, 314, 122, 249, 250, 251, 252, 253, 1066, 1067, 1068, 1069, 1070, 1071, 1072, 1073, 1074, 1075, 1076, 1077, 1078, 1079, 1080, 1081, 1082, 1083, 1084, 1085, 1086, 1087, 1088, 1089, 1090] (by decide +kernel) (by decide +kernel)
set_option maxRecDepth 20000 in
theorem gL_law_X10_setRule : GoodIn wsL_law (wsV RL 120 RX10 yX10_setRule wsX10_setRule) := goodIn_app (goodIn_of _ (by decide +kernel)) ggL_law_X10_setRule
set_option maxRecDepth 20000 in
theorem ggL_law_L_setFloor : GoodIn wsL_law wsL_setFloor := goodIn_ca (goodIn_ca (goodIn_r _ [317, 265, 145, 318, 319, 320, 2, 321, 297, 298, 322, 270, 271, 272, 273, 274, 275, 16, 188, 276, 159, 160, 161, 23, 162, 68, 163, 164, 165, 166, 167, 168, 169, 170, 171, 172, 173, 174, 175, 176, 177, 178, 40, 179, 180, 181, 155, 156, 1111, 1112, 1113, 1114, 1115, 1116, 1117, 1118, 1119, 1120, 1121, 1122, 1065, 1091, 1092, 1093, 1094, 1095, 1096, 1097, 1098, 1099, 1100, 1101] (by decide +kernel) (by decide +kernel)) (goodIn_sub (fun _ h => List.mem_append_right _ h) (by decide +kernel))) (goodIn_sub (fun _ h => List.mem_append_left _ (List.mem_append_left _ (List.mem_append_right _ h))) (by decide +kernel))
set_option maxRecDepth 20000 in
theorem gL_law_L_setFloor : GoodIn wsL_law (va_wsS RL 121 yL_setFloor wsL_setFloor) := goodIn_app (goodIn_of _ (by decide +kernel)) ggL_law_L_setFloor
set_option maxRecDepth 20000 in
theorem ggL_law_X10_setFloor : GoodIn wsL_law wsX10_setFloor := goodIn_r _ [326, 127, 286, 287, 288, 5, 289, 245, 306, 307, 308, 309, 310, 246, 247, 248, 249, 250, 251, 252, 253, 1066, 1067, 1068, 1069, 1070, 1071, 1072, 1073, 1074, 1075, 1076, 1077, 1078, 1079, 1080, 1081, 1082, 1083, 1084, 1085, 1086, 1087, 1088, 1089, 1090] (by decide +kernel) (by decide +kernel)
set_option maxRecDepth 20000 in
theorem gL_law_X10_setFloor : GoodIn wsL_law (wsV RL 123 RX10 yX10_setFloor wsX10_setFloor) := goodIn_app (goodIn_of _ (by decide +kernel)) ggL_law_X10_setFloor
set_option maxRecDepth 20000 in
theorem ggL_law_L_addLine : GoodIn wsL_law wsL_addLine := goodIn_ca (goodIn_ca (goodIn_ca (goodIn_r _ [329, 265, 145, 146, 330, 331, 332, 2, 333, 186, 187, 334, 16, 335, 270, 271, 272, 273, 274, 275, 188, 276, 159, 160, 161, 23, 162, 68, 163, 164, 165, 166, 167, 168, 169, 170, 171, 172, 173, 174, 175, 176, 177, 178, 40, 179, 180, 181, 155, 156, 336, 337, 338, 299, 339, 340, 341, 15, 342, 343, 344, 345, 26, 239, 346, 347, 348, 349, 11, 12, 350, 351, 352, 62, 63, 64, 65, 66, 67, 69, 70, 71, 72, 73, 74, 75, 76, 77, 78, 79, 80, 39, 81, 82, 83, 84, 85, 86, 87, 88, 89, 90, 91, 92, 93, 94, 95, 96, 97, 98, 99, 100, 101, 102, 103, 104, 105, 106, 107, 108, 109, 110, 111, 112, 113, 114, 353, 354, 355, 195, 356, 206, 357, 358, 359, 360, 361, 362, 363, 364, 365, 366, 367, 368, 369, 199, 1065, 1091, 1092, 1093, 1094, 1095, 1096, 1097, 1098, 1099, 1100, 1101, 1111, 1112, 1113, 1114, 1115, 1116, 1117, 1118, 1119, 1120, 1121, 1122, 1133, 1134, 1135, 1136, 1137, 1138, 1139, 1140, 1141, 1106, 1107, 1108, 1109, 1110] (by decide +kernel) (by decide +kernel)) (goodIn_sub (fun _ h => List.mem_append_left _ (List.mem_append_right _ h)) (by decide +kernel))) (goodIn_sub (fun _ h => List.mem_append_right _ h) (by decide +kernel))) (goodIn_sub (fun _ h => List.mem_append_left _ (List.mem_append_left _ (List.mem_append_right _ h))) (by decide +kernel))
set_option maxRecDepth 20000 in
theorem gL_law_L_addLine : GoodIn wsL_law (va_wsS RL 124 yL_addLine wsL_addLine) := goodIn_app (goodIn_of _ (by decide +kernel)) ggL_law_L_addLine
set_option maxRecDepth 20000 in
theorem ggL_law_X10_addLine : GoodIn wsL_law wsX10_addLine := goodIn_r _ [373, 374, 375, 130, 131, 132, 286, 287, 288, 5, 289, 245, 246, 247, 248, 311, 312, 313, 314, 122, 249, 250, 251, 252, 253, 1066, 1067, 1068, 1069, 1070, 1071, 1072, 1073, 1074, 1075, 1076, 1077, 1078, 1079, 1080, 1081, 1082, 1083, 1084, 1085, 1086, 1087, 1088, 1089, 1090] (by decide +kernel) (by decide +kernel)
set_option maxRecDepth 20000 in
theorem gL_law_X10_addLine : GoodIn wsL_law (wsV RL 126 RX10 yX10_addLine wsX10_addLine) := goodIn_app (goodIn_of _ (by decide +kernel)) ggL_law_X10_addLine
set_option maxRecDepth 20000 in
theorem ggL_law_L_setBankLimit : GoodIn wsL_law wsL_setBankLimit := goodIn_ca (goodIn_r _ [378, 145, 379, 380, 381, 2, 382, 383, 384, 151, 152, 153, 154, 155, 156, 16, 157, 158, 159, 160, 161, 23, 162, 68, 163, 164, 165, 166, 167, 168, 169, 170, 171, 172, 173, 174, 175, 176, 177, 178, 40, 179, 180, 181, 1103, 1104, 1105, 1065, 1091, 1092, 1093, 1094, 1095, 1096, 1097, 1098, 1099, 1100, 1101] (by decide +kernel) (by decide +kernel)) (goodIn_sub (fun _ h => List.mem_append_left _ (List.mem_append_left _ (List.mem_append_right _ h))) (by decide +kernel))
set_option maxRecDepth 20000 in
theorem gL_law_L_setBankLimit : GoodIn wsL_law (va_wsS RL 127 yL_setBankLimit wsL_setBankLimit) := goodIn_app (goodIn_of _ (by decide +kernel)) ggL_law_L_setBankLimit
set_option maxRecDepth 20000 in
theorem ggL_law_X10_setBankLimit : GoodIn wsL_law wsX10_setBankLimit := goodIn_r _ [388, 389, 133, 246, 247, 5, 248, 249, 250, 251, 252, 253, 1066, 1067, 1068, 1069, 1070, 1071, 1072, 1073, 1074, 1075, 1076, 1077, 1078, 1079, 1080, 1081, 1082, 1083, 1084, 1085, 1086, 1087, 1088, 1089, 1090] (by decide +kernel) (by decide +kernel)
set_option maxRecDepth 20000 in
theorem gL_law_X10_setBankLimit : GoodIn wsL_law (wsV RL 129 RX10 yX10_setBankLimit wsX10_setBankLimit) := goodIn_app (goodIn_of _ (by decide +kernel)) ggL_law_X10_setBankLimit
set_option maxRecDepth 20000 in
theorem ggL_law_X9_today : GoodIn wsL_law wsX9_today := goodIn_r _ [393, 16, 394, 1065, 1091, 1092, 1093, 1094, 1095, 1096, 1097, 1098] (by decide +kernel) (by decide +kernel)
set_option maxRecDepth 20000 in
theorem gL_law_X9_today : GoodIn wsL_law (wsV RL 130 RX9 yX9_today wsX9_today) := goodIn_app (goodIn_of _ (by decide +kernel)) ggL_law_X9_today
