set_option maxRecDepth 20000 in
theorem ggL_law_X10_total : GoodIn wsL_law wsX10_total := goodIn_r _ [863, 123, 835, 836, 837, 5, 838, 286, 287, 288, 289, 245, 249, 250, 251, 252, 253, 701, 702, 703, 704, 119, 705, 706, 707, 708, 122, 1066, 1067, 1068, 1069, 1070, 1071, 1072, 1073, 1074, 1075, 1076, 1077, 1078, 1079, 1080, 1081, 1082, 1083, 1084, 1085, 1086, 1087, 1088, 1089, 1090] (by decide +kernel) (by decide +kernel)
set_option maxRecDepth 20000 in
theorem gL_law_X10_total : GoodIn wsL_law (wsV RL 172 RX10 yX10_total wsX10_total) := goodIn_app (goodIn_of _ (by decide +kernel)) ggL_law_X10_total
set_option maxRecDepth 20000 in
theorem ggL_law_L_exposure : GoodIn wsL_law wsL_exposure := goodIn_ca (goodIn_r _ [866, 145, 867, 868, 869, 2, 870, 16, 871, 151, 152, 153, 154, 155, 156, 157, 158, 159, 160, 161, 23, 162, 68, 163, 164, 165, 166, 167, 168, 169, 170, 171, 172, 173, 174, 175, 176, 177, 178, 40, 872, 538, 539, 15, 540, 28, 541, 542, 24, 480, 543, 544, 545, 492, 83, 493, 199, 464, 1065, 1103, 1104, 1105, 1091, 1092, 1093, 1094, 1095, 1096, 1097, 1098, 1099, 1100, 1101, 1111, 1112, 1113, 1114, 1115, 1116, 1117, 1118, 1119, 1120, 1121, 1122] (by decide +kernel) (by decide +kernel)) (goodIn_sub (fun _ h => List.mem_append_left _ (List.mem_append_left _ (List.mem_append_right _ h))) (by decide +kernel))
set_option maxRecDepth 20000 in
theorem gL_law_L_exposure : GoodIn wsL_law (va_wsS RL 173 yL_exposure wsL_exposure) := goodIn_app (goodIn_of _ (by decide +kernel)) ggL_law_L_exposure
set_option maxRecDepth 20000 in
theorem ggL_law_X10_exposure : GoodIn wsL_law wsX10_exposure := goodIn_r _ [876, 246, 247, 5, 248, 249, 250, 251, 252, 253, 680, 681, 682, 683, 245, 124, 119, 1066, 1067, 1068, 1069, 1070, 1071, 1072, 1073, 1074, 1075, 1076, 1077, 1078, 1079, 1080, 1081, 1082, 1083, 1084, 1085, 1086, 1087, 1088, 1089, 1090] (by decide +kernel) (by decide +kernel)
set_option maxRecDepth 20000 in
theorem gL_law_X10_exposure : GoodIn wsL_law (wsV RL 175 RX10 yX10_exposure wsX10_exposure) := goodIn_app (goodIn_of _ (by decide +kernel)) ggL_law_X10_exposure
set_option maxRecDepth 20000 in
theorem ggL_law_L_drawn : GoodIn wsL_law wsL_drawn := goodIn_ca (goodIn_r _ [879, 265, 880, 881, 882, 2, 883, 884, 885, 886, 887, 888, 274, 275, 16, 335, 889, 159, 160, 161, 23, 162, 68, 163, 164, 165, 166, 167, 168, 169, 170, 171, 172, 173, 174, 175, 176, 177, 178, 40, 1133, 1134, 1135, 1136, 1137, 1138, 1139, 1140, 1141, 1065, 1091, 1092, 1093, 1094, 1095, 1096, 1097, 1098, 1099, 1100, 1101] (by decide +kernel) (by decide +kernel)) (goodIn_sub (fun _ h => List.mem_append_right _ h) (by decide +kernel))
set_option maxRecDepth 20000 in
theorem gL_law_L_drawn : GoodIn wsL_law (va_wsS RL 176 yL_drawn wsL_drawn) := goodIn_app (goodIn_of _ (by decide +kernel)) ggL_law_L_drawn
set_option maxRecDepth 20000 in
theorem ggL_law_X10_drawn : GoodIn wsL_law wsX10_drawn := goodIn_r _ [893, 119, 894, 895, 896, 5, 897, 375, 249, 250, 251, 252, 253, 1066, 1067, 1068, 1069, 1070, 1071, 1072, 1073, 1074, 1075, 1076, 1077, 1078, 1079, 1080, 1081, 1082, 1083, 1084, 1085, 1086, 1087, 1088, 1089, 1090] (by decide +kernel) (by decide +kernel)
set_option maxRecDepth 20000 in
theorem gL_law_X10_drawn : GoodIn wsL_law (wsV RL 178 RX10 yX10_drawn wsX10_drawn) := goodIn_app (goodIn_of _ (by decide +kernel)) ggL_law_X10_drawn
set_option maxRecDepth 20000 in
theorem ggL_law_L_costOf : GoodIn wsL_law wsL_costOf := goodIn_ca (goodIn_r _ [900, 265, 901, 902, 903, 2, 904, 905, 885, 886, 887, 888, 274, 275, 16, 335, 889, 159, 160, 161, 23, 162, 68, 163, 164, 165, 166, 167, 168, 169, 170, 171, 172, 173, 174, 175, 176, 177, 178, 40, 1133, 1134, 1135, 1136, 1137, 1138, 1139, 1140, 1141, 1065, 1091, 1092, 1093, 1094, 1095, 1096, 1097, 1098, 1099, 1100, 1101] (by decide +kernel) (by decide +kernel)) (goodIn_sub (fun _ h => List.mem_append_right _ h) (by decide +kernel))
set_option maxRecDepth 20000 in
theorem gL_law_L_costOf : GoodIn wsL_law (va_wsS RL 179 yL_costOf wsL_costOf) := goodIn_app (goodIn_of _ (by decide +kernel)) ggL_law_L_costOf
set_option maxRecDepth 20000 in
theorem ggL_law_X10_costOf : GoodIn wsL_law wsX10_costOf := goodIn_r _ [909, 119, 894, 895, 896, 5, 897, 375, 249, 250, 251, 252, 253, 1066, 1067, 1068, 1069, 1070, 1071, 1072, 1073, 1074, 1075, 1076, 1077, 1078, 1079, 1080, 1081, 1082, 1083, 1084, 1085, 1086, 1087, 1088, 1089, 1090] (by decide +kernel) (by decide +kernel)
set_option maxRecDepth 20000 in
theorem gL_law_X10_costOf : GoodIn wsL_law (wsV RL 181 RX10 yX10_costOf wsX10_costOf) := goodIn_app (goodIn_of _ (by decide +kernel)) ggL_law_X10_costOf
set_option maxRecDepth 20000 in
theorem ggL_law_L_interestOf : GoodIn wsL_law wsL_interestOf := goodIn_ca (goodIn_r _ [912, 265, 913, 914, 915, 2, 916, 917, 270, 271, 272, 273, 274, 275, 16, 188, 276, 159, 160, 161, 23, 162, 68, 163, 164, 165, 166, 167, 168, 169, 170, 171, 172, 173, 174, 175, 176, 177, 178, 40, 1111, 1112, 1113, 1114, 1115, 1116, 1117, 1118, 1119, 1120, 1121, 1122, 1065, 1091, 1092, 1093, 1094, 1095, 1096, 1097, 1098, 1099, 1100, 1101] (by decide +kernel) (by decide +kernel)) (goodIn_sub (fun _ h => List.mem_append_right _ h) (by decide +kernel))
set_option maxRecDepth 20000 in
theorem gL_law_L_interestOf : GoodIn wsL_law (va_wsS RL 182 yL_interestOf wsL_interestOf) := goodIn_app (goodIn_of _ (by decide +kernel)) ggL_law_L_interestOf
