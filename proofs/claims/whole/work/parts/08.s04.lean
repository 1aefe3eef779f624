set_option maxRecDepth 20000 in
theorem ggL_law_X10_book : GoodIn wsL_law wsX10_book := goodIn_r _ [737, 119, 286, 287, 288, 5, 289, 245, 306, 307, 308, 309, 310, 246, 247, 248, 249, 250, 251, 252, 253, 1066, 1067, 1068, 1069, 1070, 1071, 1072, 1073, 1074, 1075, 1076, 1077, 1078, 1079, 1080, 1081, 1082, 1083, 1084, 1085, 1086, 1087, 1088, 1089, 1090] (by decide +kernel) (by decide +kernel)
set_option maxRecDepth 20000 in
theorem gL_law_X10_book : GoodIn wsL_law (wsV RL 146 RX10 yX10_book wsX10_book) := goodIn_app (goodIn_of _ (by decide +kernel)) ggL_law_X10_book
set_option maxRecDepth 20000 in
theorem ggL_law_L_schedule : GoodIn wsL_law wsL_schedule := goodIn_ca (goodIn_ca (goodIn_ca (goodIn_r _ [740, 265, 145, 146, 741, 742, 743, 2, 744, 186, 187, 16, 394, 745, 746, 747, 468, 270, 271, 272, 273, 274, 275, 188, 276, 159, 160, 161, 23, 162, 68, 163, 164, 165, 166, 167, 168, 169, 170, 171, 172, 173, 174, 175, 176, 177, 178, 40, 731, 732, 733, 155, 156, 297, 298, 179, 180, 181, 748, 749, 750, 751, 11, 12, 472, 474, 475, 471, 470, 752, 63, 64, 65, 66, 67, 69, 70, 71, 72, 73, 74, 75, 76, 77, 78, 79, 80, 39, 81, 82, 83, 84, 85, 86, 87, 88, 89, 90, 91, 92, 93, 94, 95, 96, 97, 98, 99, 100, 101, 102, 103, 104, 105, 106, 107, 108, 109, 110, 111, 112, 113, 114, 1065, 1091, 1092, 1093, 1094, 1095, 1096, 1097, 1098, 1142, 1143, 1144, 1145, 1146, 1147, 1148, 1099, 1100, 1101] (by decide +kernel) (by decide +kernel)) (goodIn_sub (fun _ h => List.mem_append_left _ (List.mem_append_right _ h)) (by decide +kernel))) (goodIn_sub (fun _ h => List.mem_append_right _ h) (by decide +kernel))) (goodIn_sub (fun _ h => List.mem_append_left _ (List.mem_append_left _ (List.mem_append_right _ h))) (by decide +kernel))
set_option maxRecDepth 20000 in
theorem gL_law_L_schedule : GoodIn wsL_law (va_wsS RL 147 yL_schedule wsL_schedule) := goodIn_app (goodIn_of _ (by decide +kernel)) ggL_law_L_schedule
set_option maxRecDepth 20000 in
theorem ggL_law_X10_schedule : GoodIn wsL_law wsX10_schedule := goodIn_r _ [756, 119, 643, 134, 135, 136, 137, 138, 306, 307, 5, 308, 309, 310, 246, 247, 248, 286, 287, 288, 289, 245, 249, 250, 251, 252, 253, 1066, 1067, 1068, 1069, 1070, 1071, 1072, 1073, 1074, 1075, 1076, 1077, 1078, 1079, 1080, 1081, 1082, 1083, 1084, 1085, 1086, 1087, 1088, 1089, 1090] (by decide +kernel) (by decide +kernel)
set_option maxRecDepth 20000 in
theorem gL_law_X10_schedule : GoodIn wsL_law (wsV RL 150 RX10 yX10_schedule wsX10_schedule) := goodIn_app (goodIn_of _ (by decide +kernel)) ggL_law_X10_schedule
set_option maxRecDepth 20000 in
theorem ggL_law_L_cancel : GoodIn wsL_law wsL_cancel := goodIn_ca (goodIn_r _ [759, 265, 760, 761, 762, 2, 763, 764, 765, 766, 767, 768, 274, 275, 16, 745, 769, 159, 160, 161, 23, 162, 68, 163, 164, 165, 166, 167, 168, 169, 170, 171, 172, 173, 174, 175, 176, 177, 178, 40, 1142, 1143, 1144, 1145, 1146, 1147, 1148, 1065, 1091, 1092, 1093, 1094, 1095, 1096, 1097, 1098, 1099, 1100, 1101] (by decide +kernel) (by decide +kernel)) (goodIn_sub (fun _ h => List.mem_append_right _ h) (by decide +kernel))
set_option maxRecDepth 20000 in
theorem gL_law_L_cancel : GoodIn wsL_law (va_wsS RL 151 yL_cancel wsL_cancel) := goodIn_app (goodIn_of _ (by decide +kernel)) ggL_law_L_cancel
set_option maxRecDepth 20000 in
theorem ggL_law_X10_cancel : GoodIn wsL_law wsX10_cancel := goodIn_r _ [773, 138, 774, 775, 776, 5, 777, 643, 249, 250, 251, 252, 253, 778, 779, 780, 781, 119, 1066, 1067, 1068, 1069, 1070, 1071, 1072, 1073, 1074, 1075, 1076, 1077, 1078, 1079, 1080, 1081, 1082, 1083, 1084, 1085, 1086, 1087, 1088, 1089, 1090] (by decide +kernel) (by decide +kernel)
set_option maxRecDepth 20000 in
theorem gL_law_X10_cancel : GoodIn wsL_law (wsV RL 153 RX10 yX10_cancel wsX10_cancel) := goodIn_app (goodIn_of _ (by decide +kernel)) ggL_law_X10_cancel
set_option maxRecDepth 20000 in
theorem ggL_law_L_timesLeft : GoodIn wsL_law wsL_timesLeft := goodIn_ca (goodIn_r _ [784, 265, 785, 786, 787, 2, 788, 764, 765, 766, 767, 768, 274, 275, 16, 745, 769, 159, 160, 161, 23, 162, 68, 163, 164, 165, 166, 167, 168, 169, 170, 171, 172, 173, 174, 175, 176, 177, 178, 40, 1142, 1143, 1144, 1145, 1146, 1147, 1148, 1065, 1091, 1092, 1093, 1094, 1095, 1096, 1097, 1098, 1099, 1100, 1101] (by decide +kernel) (by decide +kernel)) (goodIn_sub (fun _ h => List.mem_append_right _ h) (by decide +kernel))
set_option maxRecDepth 20000 in
theorem gL_law_L_timesLeft : GoodIn wsL_law (va_wsS RL 154 yL_timesLeft wsL_timesLeft) := goodIn_app (goodIn_of _ (by decide +kernel)) ggL_law_L_timesLeft
set_option maxRecDepth 20000 in
theorem ggL_law_X10_timesLeft : GoodIn wsL_law wsX10_timesLeft := goodIn_r _ [792, 774, 775, 776, 5, 777, 643, 249, 250, 251, 252, 253, 778, 779, 780, 781, 138, 119, 1066, 1067, 1068, 1069, 1070, 1071, 1072, 1073, 1074, 1075, 1076, 1077, 1078, 1079, 1080, 1081, 1082, 1083, 1084, 1085, 1086, 1087, 1088, 1089, 1090] (by decide +kernel) (by decide +kernel)
set_option maxRecDepth 20000 in
theorem gL_law_X10_timesLeft : GoodIn wsL_law (wsV RL 156 RX10 yX10_timesLeft wsX10_timesLeft) := goodIn_app (goodIn_of _ (by decide +kernel)) ggL_law_X10_timesLeft
set_option maxRecDepth 20000 in
theorem ggL_law_L_scheduled : GoodIn wsL_law wsL_scheduled := goodIn_ca (goodIn_ca (goodIn_r _ [795, 265, 145, 796, 797, 798, 2, 799, 16, 394, 270, 271, 272, 273, 274, 275, 188, 276, 159, 160, 161, 23, 162, 68, 163, 164, 165, 166, 167, 168, 169, 170, 171, 172, 173, 174, 175, 176, 177, 178, 40, 179, 180, 181, 155, 156, 800, 801, 802, 15, 803, 27, 463, 804, 32, 199, 464, 805, 806, 807, 468, 808, 470, 471, 475, 474, 809, 435, 436, 31, 437, 415, 416, 417, 418, 55, 1065, 1091, 1092, 1093, 1094, 1095, 1096, 1097, 1098, 1099, 1100, 1101, 1142, 1143, 1144, 1145, 1146, 1147, 1148, 1102] (by decide +kernel) (by decide +kernel)) (goodIn_sub (fun _ h => List.mem_append_right _ h) (by decide +kernel))) (goodIn_sub (fun _ h => List.mem_append_left _ (List.mem_append_left _ (List.mem_append_right _ h))) (by decide +kernel))
set_option maxRecDepth 20000 in
theorem gL_law_L_scheduled : GoodIn wsL_law (va_wsS RL 157 yL_scheduled wsL_scheduled) := goodIn_app (goodIn_of _ (by decide +kernel)) ggL_law_L_scheduled
