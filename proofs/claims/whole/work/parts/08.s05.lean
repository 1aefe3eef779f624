set_option maxRecDepth 20000 in
theorem ggL_law_X10_scheduled : GoodIn wsL_law wsX10_scheduled := goodIn_r _ [813, 119, 643, 138, 134, 135, 286, 287, 288, 5, 289, 245, 249, 250, 251, 252, 253, 644, 645, 646, 647, 136, 137, 442, 443, 444, 445, 423, 424, 425, 426, 139, 1066, 1067, 1068, 1069, 1070, 1071, 1072, 1073, 1074, 1075, 1076, 1077, 1078, 1079, 1080, 1081, 1082, 1083, 1084, 1085, 1086, 1087, 1088, 1089, 1090] (by decide +kernel) (by decide +kernel)
set_option maxRecDepth 20000 in
theorem gL_law_X10_scheduled : GoodIn wsL_law (wsV RL 159 RX10 yX10_scheduled wsX10_scheduled) := goodIn_app (goodIn_of _ (by decide +kernel)) ggL_law_X10_scheduled
set_option maxRecDepth 20000 in
theorem ggL_law_X9_accounts : GoodIn wsL_law wsX9_accounts := goodIn_r _ [817, 16, 188, 159, 160, 161, 23, 162, 68, 1065, 1091, 1092, 1093, 1094, 1095, 1096, 1097, 1098, 1099, 1100, 1101] (by decide +kernel) (by decide +kernel)
set_option maxRecDepth 20000 in
theorem gL_law_X9_accounts : GoodIn wsL_law (wsV RL 160 RX9 yX9_accounts wsX9_accounts) := goodIn_app (goodIn_of _ (by decide +kernel)) ggL_law_X9_accounts
set_option maxRecDepth 20000 in
theorem ggL_law_X10_accounts : GoodIn wsL_law wsX10_accounts := goodIn_r _ [821, 253, 245, 1066, 1067, 1068, 1069, 1070, 1071, 1072, 1073, 1074, 1075, 1076, 1077, 1078, 1079, 1080, 1081, 1082, 1083, 1084, 1085, 1086, 1087, 1088, 1089, 1090] (by decide +kernel) (by decide +kernel)
set_option maxRecDepth 20000 in
theorem gL_law_X10_accounts : GoodIn wsL_law (wsV RL 163 RX10 yX10_accounts wsX10_accounts) := goodIn_app (goodIn_of _ (by decide +kernel)) ggL_law_X10_accounts
set_option maxRecDepth 20000 in
theorem ggL_law_L_poolOf : GoodIn wsL_law wsL_poolOf := goodIn_ca (goodIn_r _ [824, 265, 825, 826, 827, 2, 828, 829, 830, 270, 271, 272, 273, 274, 275, 16, 188, 276, 159, 160, 161, 23, 162, 68, 163, 164, 165, 166, 167, 168, 169, 170, 171, 172, 173, 174, 175, 176, 177, 178, 40, 1111, 1112, 1113, 1114, 1115, 1116, 1117, 1118, 1119, 1120, 1121, 1122, 1106, 1107, 1108, 1109, 1110, 1065, 1091, 1092, 1093, 1094, 1095, 1096, 1097, 1098, 1099, 1100, 1101] (by decide +kernel) (by decide +kernel)) (goodIn_sub (fun _ h => List.mem_append_right _ h) (by decide +kernel))
set_option maxRecDepth 20000 in
theorem gL_law_L_poolOf : GoodIn wsL_law (va_wsS RL 164 yL_poolOf wsL_poolOf) := goodIn_app (goodIn_of _ (by decide +kernel)) ggL_law_L_poolOf
set_option maxRecDepth 20000 in
theorem ggL_law_X10_poolOf : GoodIn wsL_law wsX10_poolOf := goodIn_r _ [834, 123, 835, 836, 837, 5, 838, 286, 287, 288, 289, 245, 249, 250, 251, 252, 253, 1066, 1067, 1068, 1069, 1070, 1071, 1072, 1073, 1074, 1075, 1076, 1077, 1078, 1079, 1080, 1081, 1082, 1083, 1084, 1085, 1086, 1087, 1088, 1089, 1090] (by decide +kernel) (by decide +kernel)
set_option maxRecDepth 20000 in
theorem gL_law_X10_poolOf : GoodIn wsL_law (wsV RL 166 RX10 yX10_poolOf wsX10_poolOf) := goodIn_app (goodIn_of _ (by decide +kernel)) ggL_law_X10_poolOf
set_option maxRecDepth 20000 in
theorem ggL_law_L_balance : GoodIn wsL_law wsL_balance := goodIn_ca (goodIn_r _ [841, 265, 842, 843, 844, 2, 845, 730, 270, 271, 272, 273, 274, 275, 16, 188, 276, 159, 160, 161, 23, 162, 68, 163, 164, 165, 166, 167, 168, 169, 170, 171, 172, 173, 174, 175, 176, 177, 178, 40, 1111, 1112, 1113, 1114, 1115, 1116, 1117, 1118, 1119, 1120, 1121, 1122, 1065, 1091, 1092, 1093, 1094, 1095, 1096, 1097, 1098, 1099, 1100, 1101] (by decide +kernel) (by decide +kernel)) (goodIn_sub (fun _ h => List.mem_append_right _ h) (by decide +kernel))
set_option maxRecDepth 20000 in
theorem gL_law_L_balance : GoodIn wsL_law (va_wsS RL 167 yL_balance wsL_balance) := goodIn_app (goodIn_of _ (by decide +kernel)) ggL_law_L_balance
set_option maxRecDepth 20000 in
theorem ggL_law_X10_balance : GoodIn wsL_law wsX10_balance := goodIn_r _ [849, 119, 835, 836, 837, 5, 838, 286, 287, 288, 289, 245, 249, 250, 251, 252, 253, 1066, 1067, 1068, 1069, 1070, 1071, 1072, 1073, 1074, 1075, 1076, 1077, 1078, 1079, 1080, 1081, 1082, 1083, 1084, 1085, 1086, 1087, 1088, 1089, 1090] (by decide +kernel) (by decide +kernel)
set_option maxRecDepth 20000 in
theorem gL_law_X10_balance : GoodIn wsL_law (wsV RL 169 RX10 yX10_balance wsX10_balance) := goodIn_app (goodIn_of _ (by decide +kernel)) ggL_law_X10_balance
set_option maxRecDepth 20000 in
theorem ggL_law_L_total : GoodIn wsL_law wsL_total := goodIn_ca (goodIn_r _ [852, 265, 853, 854, 855, 2, 856, 270, 271, 272, 273, 274, 275, 16, 188, 276, 159, 160, 161, 23, 162, 68, 163, 164, 165, 166, 167, 168, 169, 170, 171, 172, 173, 174, 175, 176, 177, 178, 40, 857, 483, 858, 490, 488, 489, 495, 496, 859, 1065, 1091, 1092, 1093, 1094, 1095, 1096, 1097, 1098, 1099, 1100, 1101, 1111, 1112, 1113, 1114, 1115, 1116, 1117, 1118, 1119, 1120, 1121, 1122] (by decide +kernel) (by decide +kernel)) (goodIn_sub (fun _ h => List.mem_append_right _ h) (by decide +kernel))
set_option maxRecDepth 20000 in
theorem gL_law_L_total : GoodIn wsL_law (va_wsS RL 170 yL_total wsL_total) := goodIn_app (goodIn_of _ (by decide +kernel)) ggL_law_L_total
