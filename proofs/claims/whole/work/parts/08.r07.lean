theorem dL_setFloor_19 : decode cL_setFloor 19 = .ok (.iconst 2, 1) := by decide +kernel
theorem dL_setFloor_20 : decode cL_setFloor 20 = .ok (.ireturn, 1) := by decide +kernel
theorem dL_setFloor_21 : decode cL_setFloor 21 = .ok (.iconst 0, 1) := by decide +kernel
theorem dL_setFloor_22 : decode cL_setFloor 22 = .ok (.ireturn, 1) := by decide +kernel
set_option maxRecDepth 20000 in
theorem ggL_addLine_X9_addLine : GoodIn wsL_addLine wsX9_addLine := goodIn_ca (goodIn_ca (goodIn_ca (goodIn_r _ [8, 9, 10, 11, 12, 13, 14, 15, 16, 7, 17, 18, 19, 20, 21, 22, 23, 24, 25, 26, 27, 28, 29, 30, 31, 32, 33, 34, 35, 36, 37, 38, 39, 40, 41, 42, 43, 44, 45, 46, 47, 48, 49, 50, 51, 52, 53, 54, 55, 56, 57, 58, 59, 60, 61, 62, 63, 64, 65, 66, 67, 68, 69, 70, 71, 72, 73, 74, 75, 76, 77, 78, 79, 80, 81, 82, 83, 84, 85, 86, 87, 88, 89, 90, 91, 92, 93, 94, 95, 96, 97, 98, 99, 100, 101, 102, 103, 104, 105, 106, 107, 108, 109, 110, 111, 112, 113, 114, 115, 116, 117, 118, 119, 120, 121, 122, 123, 124, 125, 126, 127, 128, 129, 130, 131, 132, 133, 134, 135, 136, 137, 138, 139, 140, 141, 142, 143, 144, 145, 146, 147, 148, 149, 150, 151, 152, 153, 154, 155, 156, 157, 158, 159, 160, 161, 162, 163, 164, 165, 166, 167, 168, 169, 170, 171, 172, 173, 174, 175, 176, 177, 178, 179, 180, 181, 182, 183] (by decide +kernel) (by decide +kernel)) (goodIn_sub (fun _ h => List.mem_cons_of_mem _ (List.mem_append_left _ (List.mem_append_left _ (List.mem_append_right _ h)))) (by decide +kernel))) (goodIn_sub (fun _ h => List.mem_cons_of_mem _ (List.mem_append_left _ (List.mem_append_right _ h))) (by decide +kernel))) (goodIn_sub (fun _ h => List.mem_cons_of_mem _ (List.mem_append_right _ h)) (by decide +kernel))
set_option maxRecDepth 20000 in
theorem gL_addLine_X9_addLine : GoodIn wsL_addLine (wsV RL 29 RX9 yX9_addLine wsX9_addLine) := goodIn_app (goodIn_of _ (by decide +kernel)) ggL_addLine_X9_addLine
theorem dL_addLine_0 : decode cL_addLine 0 = .ok (.aload 4, 2) := by decide +kernel
theorem dL_addLine_2 : decode cL_addLine 2 = .ok (.iconst 0, 1) := by decide +kernel
theorem dL_addLine_3 : decode cL_addLine 3 = .ok (.aload_n 0, 1) := by decide +kernel
theorem dL_addLine_4 : decode cL_addLine 4 = .ok (.iload_n 1, 1) := by decide +kernel
theorem dL_addLine_5 : decode cL_addLine 5 = .ok (.iload_n 2, 1) := by decide +kernel
theorem dL_addLine_6 : decode cL_addLine 6 = .ok (.iload_n 3, 1) := by decide +kernel
theorem dL_addLine_7 : decode cL_addLine 7 = .ok (.invokevirtual 29, 3) := by decide +kernel
theorem dL_addLine_10 : decode cL_addLine 10 = .ok (.i2l, 1) := by decide +kernel
theorem dL_addLine_11 : decode cL_addLine 11 = .ok (.lastore, 1) := by decide +kernel
theorem dL_addLine_12 : decode cL_addLine 12 = .ok (.goto 15, 3) := by decide +kernel
theorem dL_addLine_15 : decode cL_addLine 15 = .ok (.astore 5, 2) := by decide +kernel
theorem dL_addLine_17 : decode cL_addLine 17 = .ok (.iconst 1, 1) := by decide +kernel
theorem dL_addLine_18 : decode cL_addLine 18 = .ok (.ireturn, 1) := by decide +kernel
theorem dL_addLine_19 : decode cL_addLine 19 = .ok (.astore 5, 2) := by decide +kernel
theorem dL_addLine_21 : decode cL_addLine 21 = .ok (.iconst 2, 1) := by decide +kernel
theorem dL_addLine_22 : decode cL_addLine 22 = .ok (.ireturn, 1) := by decide +kernel
theorem dL_addLine_23 : decode cL_addLine 23 = .ok (.astore 5, 2) := by decide +kernel
theorem dL_addLine_25 : decode cL_addLine 25 = .ok (.iconst 3, 1) := by decide +kernel
theorem dL_addLine_26 : decode cL_addLine 26 = .ok (.ireturn, 1) := by decide +kernel
theorem dL_addLine_27 : decode cL_addLine 27 = .ok (.iconst 0, 1) := by decide +kernel
theorem dL_addLine_28 : decode cL_addLine 28 = .ok (.ireturn, 1) := by decide +kernel
set_option maxRecDepth 20000 in
theorem ggL_setBankLimit_X9_setBankLimit : GoodIn wsL_setBankLimit wsX9_setBankLimit := goodIn_ca (goodIn_r _ [6, 7, 8, 9, 10, 11, 5, 12, 13, 14, 15, 16, 17, 18, 19, 20, 21, 22, 23, 24, 25, 26, 27, 28, 29, 30, 31, 32, 33, 34, 35, 36, 37, 38, 39, 40, 41, 42, 43, 44, 45, 46, 47, 48, 49, 50, 51, 52, 53, 54, 55, 56, 57, 58] (by decide +kernel) (by decide +kernel)) (goodIn_sub (fun _ h => List.mem_cons_of_mem _ (List.mem_append_right _ h)) (by decide +kernel))
set_option maxRecDepth 20000 in
theorem gL_setBankLimit_X9_setBankLimit : GoodIn wsL_setBankLimit (wsV RL 32 RX9 yX9_setBankLimit wsX9_setBankLimit) := goodIn_app (goodIn_of _ (by decide +kernel)) ggL_setBankLimit_X9_setBankLimit
theorem dL_setBankLimit_0 : decode cL_setBankLimit 0 = .ok (.aload_n 3, 1) := by decide +kernel
theorem dL_setBankLimit_1 : decode cL_setBankLimit 1 = .ok (.iconst 0, 1) := by decide +kernel
theorem dL_setBankLimit_2 : decode cL_setBankLimit 2 = .ok (.aload_n 0, 1) := by decide +kernel
theorem dL_setBankLimit_3 : decode cL_setBankLimit 3 = .ok (.iload_n 1, 1) := by decide +kernel
theorem dL_setBankLimit_4 : decode cL_setBankLimit 4 = .ok (.iload_n 2, 1) := by decide +kernel
theorem dL_setBankLimit_5 : decode cL_setBankLimit 5 = .ok (.invokevirtual 32, 3) := by decide +kernel
theorem dL_setBankLimit_8 : decode cL_setBankLimit 8 = .ok (.i2l, 1) := by decide +kernel
theorem dL_setBankLimit_9 : decode cL_setBankLimit 9 = .ok (.lastore, 1) := by decide +kernel
theorem dL_setBankLimit_10 : decode cL_setBankLimit 10 = .ok (.goto 7, 3) := by decide +kernel
theorem dL_setBankLimit_13 : decode cL_setBankLimit 13 = .ok (.astore 4, 2) := by decide +kernel
theorem dL_setBankLimit_15 : decode cL_setBankLimit 15 = .ok (.iconst 1, 1) := by decide +kernel
theorem dL_setBankLimit_16 : decode cL_setBankLimit 16 = .ok (.ireturn, 1) := by decide +kernel
theorem dL_setBankLimit_17 : decode cL_setBankLimit 17 = .ok (.iconst 0, 1) := by decide +kernel
theorem dL_setBankLimit_18 : decode cL_setBankLimit 18 = .ok (.ireturn, 1) := by decide +kernel
set_option maxRecDepth 20000 in
theorem ggL_addHoliday_X9_addHoliday : GoodIn wsL_addHoliday wsX9_addHoliday := goodIn_ca (goodIn_r _ [6, 7, 8, 9, 10, 5, 11, 12, 13, 14, 15, 16, 17, 18, 19, 20, 21, 22, 23, 24, 25, 26, 27, 28, 29, 30, 31, 32, 33, 34, 35, 36, 37] (by decide +kernel) (by decide +kernel)) (goodIn_sub (fun _ h => List.mem_cons_of_mem _ (List.mem_append_right _ h)) (by decide +kernel))
set_option maxRecDepth 20000 in
theorem gL_addHoliday_X9_addHoliday : GoodIn wsL_addHoliday (wsV RL 35 RX9 yX9_addHoliday wsX9_addHoliday) := goodIn_app (goodIn_of _ (by decide +kernel)) ggL_addHoliday_X9_addHoliday
theorem dL_addHoliday_0 : decode cL_addHoliday 0 = .ok (.aload_n 2, 1) := by decide +kernel
theorem dL_addHoliday_1 : decode cL_addHoliday 1 = .ok (.iconst 0, 1) := by decide +kernel
theorem dL_addHoliday_2 : decode cL_addHoliday 2 = .ok (.aload_n 0, 1) := by decide +kernel
theorem dL_addHoliday_3 : decode cL_addHoliday 3 = .ok (.iload_n 1, 1) := by decide +kernel
theorem dL_addHoliday_4 : decode cL_addHoliday 4 = .ok (.invokevirtual 35, 3) := by decide +kernel
theorem dL_addHoliday_7 : decode cL_addHoliday 7 = .ok (.i2l, 1) := by decide +kernel
theorem dL_addHoliday_8 : decode cL_addHoliday 8 = .ok (.lastore, 1) := by decide +kernel
theorem dL_addHoliday_9 : decode cL_addHoliday 9 = .ok (.goto 6, 3) := by decide +kernel
theorem dL_addHoliday_12 : decode cL_addHoliday 12 = .ok (.astore_n 3, 1) := by decide +kernel
theorem dL_addHoliday_13 : decode cL_addHoliday 13 = .ok (.iconst 1, 1) := by decide +kernel
theorem dL_addHoliday_14 : decode cL_addHoliday 14 = .ok (.ireturn, 1) := by decide +kernel
theorem dL_addHoliday_15 : decode cL_addHoliday 15 = .ok (.iconst 0, 1) := by decide +kernel
theorem dL_addHoliday_16 : decode cL_addHoliday 16 = .ok (.ireturn, 1) := by decide +kernel
set_option maxRecDepth 20000 in
theorem ggL_settlementDay_X9_settlementDay : GoodIn wsL_settlementDay wsX9_settlementDay := goodIn_ca (goodIn_r _ [6, 7, 8, 9, 10, 5, 11, 12, 13, 14, 15, 16, 17, 18, 19, 20, 21, 22, 23, 24, 25, 26, 27, 28, 29, 30, 31, 32, 33] (by decide +kernel) (by decide +kernel)) (goodIn_sub (fun _ h => List.mem_cons_of_mem _ (List.mem_append_right _ h)) (by decide +kernel))
set_option maxRecDepth 20000 in
theorem gL_settlementDay_X9_settlementDay : GoodIn wsL_settlementDay (wsV RL 39 RX9 yX9_settlementDay wsX9_settlementDay) := goodIn_app (goodIn_of _ (by decide +kernel)) ggL_settlementDay_X9_settlementDay
theorem dL_settlementDay_0 : decode cL_settlementDay 0 = .ok (.aload_n 2, 1) := by decide +kernel
theorem dL_settlementDay_1 : decode cL_settlementDay 1 = .ok (.iconst 0, 1) := by decide +kernel
theorem dL_settlementDay_2 : decode cL_settlementDay 2 = .ok (.aload_n 0, 1) := by decide +kernel
theorem dL_settlementDay_3 : decode cL_settlementDay 3 = .ok (.iload_n 1, 1) := by decide +kernel
theorem dL_settlementDay_4 : decode cL_settlementDay 4 = .ok (.invokevirtual 39, 3) := by decide +kernel
theorem dL_settlementDay_7 : decode cL_settlementDay 7 = .ok (.i2l, 1) := by decide +kernel
theorem dL_settlementDay_8 : decode cL_settlementDay 8 = .ok (.lastore, 1) := by decide +kernel
theorem dL_settlementDay_9 : decode cL_settlementDay 9 = .ok (.goto 6, 3) := by decide +kernel
theorem dL_settlementDay_12 : decode cL_settlementDay 12 = .ok (.astore_n 3, 1) := by decide +kernel
theorem dL_settlementDay_13 : decode cL_settlementDay 13 = .ok (.iconst 1, 1) := by decide +kernel
theorem dL_settlementDay_14 : decode cL_settlementDay 14 = .ok (.ireturn, 1) := by decide +kernel
theorem dL_settlementDay_15 : decode cL_settlementDay 15 = .ok (.iconst 0, 1) := by decide +kernel
theorem dL_settlementDay_16 : decode cL_settlementDay 16 = .ok (.ireturn, 1) := by decide +kernel
set_option maxRecDepth 20000 in
theorem ggL_passDays_X9_passDays : GoodIn wsL_passDays wsX9_passDays := goodIn_ca (goodIn_ca (goodIn_r _ [7, 8, 9, 10, 11, 12, 13, 6, 14, 15, 16, 17, 18, 19, 20, 21, 22, 23, 24, 25, 26, 27, 28, 29, 30, 31, 32, 33, 34, 35, 36, 37, 38, 39, 40, 41, 42, 43, 44, 45, 46, 47, 48, 49, 50, 51, 52, 53, 54, 55, 56, 57, 58, 59, 60, 61, 62, 63, 64, 65, 66, 67, 68, 69, 70, 71, 72, 73, 74, 75, 76, 77, 78, 79, 80, 81, 82, 83, 84, 85, 86, 87, 88, 89, 90, 91, 92, 93, 94, 95, 96, 97, 98, 99, 100, 101, 102, 103, 104, 105, 106, 107, 108, 109, 110, 111, 112, 113, 114, 115, 116, 117, 118, 119, 120, 121, 122, 123, 124, 125, 126, 127, 128, 129, 130, 131, 132, 133, 134, 135, 136, 137, 138, 139, 140, 141, 142, 143, 144, 145, 146, 147, 148, 149, 150, 151, 152, 153, 154, 155, 156, 157, 158, 159, 160, 161, 162, 163, 164, 165, 166, 167, 168, 169, 170, 171, 172, 173, 174, 175, 176, 177, 178, 179, 180, 181, 182, 183, 184, 185, 186, 187, 188, 189, 190, 191, 192, 193, 194, 195, 196, 197, 198, 199, 200, 201, 202, 203, 204, 205, 206, 207, 208, 209, 210, 211, 212, 213, 214, 215, 216, 217, 218, 219, 220, 221, 222, 223, 224, 225, 226, 227, 228, 229, 230, 231, 232, 233, 234, 235, 236, 237, 238, 239, 240, 241, 242, 243, 244, 245, 246, 247, 248, 249, 250, 251, 252, 253, 254, 255, 256, 257, 258, 259, 260, 261, 262, 263, 264, 265, 266, 267, 268, 269, 270, 271, 272, 273, 274, 275, 276, 277, 278, 279, 280, 281, 282, 283, 284, 285, 286, 287, 288, 289, 290, 291, 292, 293, 294, 295, 296, 297, 298, 299, 300, 301, 302, 303, 304, 305, 306, 307, 308, 309, 310, 311, 312, 313] (by decide +kernel) (by decide +kernel)) (goodIn_sub (fun _ h => List.mem_cons_of_mem _ (List.mem_append_left _ (List.mem_append_right _ h))) (by decide +kernel))) (goodIn_sub (fun _ h => List.mem_cons_of_mem _ (List.mem_append_right _ h)) (by decide +kernel))
set_option maxRecDepth 20000 in
theorem gL_passDays_X9_passDays : GoodIn wsL_passDays (wsV RL 42 RX9 yX9_passDays wsX9_passDays) := goodIn_app (goodIn_of _ (by decide +kernel)) ggL_passDays_X9_passDays
theorem dL_passDays_0 : decode cL_passDays 0 = .ok (.aload_n 2, 1) := by decide +kernel
theorem dL_passDays_1 : decode cL_passDays 1 = .ok (.iconst 0, 1) := by decide +kernel
theorem dL_passDays_2 : decode cL_passDays 2 = .ok (.aload_n 0, 1) := by decide +kernel
theorem dL_passDays_3 : decode cL_passDays 3 = .ok (.iload_n 1, 1) := by decide +kernel
theorem dL_passDays_4 : decode cL_passDays 4 = .ok (.invokevirtual 42, 3) := by decide +kernel
theorem dL_passDays_7 : decode cL_passDays 7 = .ok (.i2l, 1) := by decide +kernel
theorem dL_passDays_8 : decode cL_passDays 8 = .ok (.lastore, 1) := by decide +kernel
theorem dL_passDays_9 : decode cL_passDays 9 = .ok (.goto 9, 3) := by decide +kernel
theorem dL_passDays_12 : decode cL_passDays 12 = .ok (.astore_n 3, 1) := by decide +kernel
theorem dL_passDays_13 : decode cL_passDays 13 = .ok (.iconst 1, 1) := by decide +kernel
theorem dL_passDays_14 : decode cL_passDays 14 = .ok (.ireturn, 1) := by decide +kernel
theorem dL_passDays_15 : decode cL_passDays 15 = .ok (.astore_n 3, 1) := by decide +kernel
theorem dL_passDays_16 : decode cL_passDays 16 = .ok (.iconst 2, 1) := by decide +kernel
theorem dL_passDays_17 : decode cL_passDays 17 = .ok (.ireturn, 1) := by decide +kernel
theorem dL_passDays_18 : decode cL_passDays 18 = .ok (.iconst 0, 1) := by decide +kernel
theorem dL_passDays_19 : decode cL_passDays 19 = .ok (.ireturn, 1) := by decide +kernel
set_option maxRecDepth 20000 in
theorem ggL_book_X9_book : GoodIn wsL_book wsX9_book := goodIn_ca (goodIn_ca (goodIn_r _ [7, 8, 9, 10, 11, 6, 12, 13, 14, 15, 16, 17, 18, 19, 20, 21, 22, 23, 24, 25, 26, 27, 28, 29, 30, 31, 32, 33, 34, 35, 36, 37, 38, 39, 40, 41, 42, 43, 44, 45, 46, 47, 48, 49, 50, 51, 52, 53, 54, 55, 56, 57, 58, 59, 60, 61, 62, 63, 64, 65, 66, 67, 68, 69, 70, 71, 72, 73, 74] (by decide +kernel) (by decide +kernel)) (goodIn_sub (fun _ h => List.mem_cons_of_mem _ (List.mem_append_left _ (List.mem_append_right _ h))) (by decide +kernel))) (goodIn_sub (fun _ h => List.mem_cons_of_mem _ (List.mem_append_right _ h)) (by decide +kernel))
set_option maxRecDepth 20000 in
theorem gL_book_X9_book : GoodIn wsL_book (wsV RL 45 RX9 yX9_book wsX9_book) := goodIn_app (goodIn_of _ (by decide +kernel)) ggL_book_X9_book
theorem dL_book_0 : decode cL_book 0 = .ok (.aload_n 3, 1) := by decide +kernel
theorem dL_book_1 : decode cL_book 1 = .ok (.iconst 0, 1) := by decide +kernel
theorem dL_book_2 : decode cL_book 2 = .ok (.aload_n 0, 1) := by decide +kernel
theorem dL_book_3 : decode cL_book 3 = .ok (.iload_n 1, 1) := by decide +kernel
theorem dL_book_4 : decode cL_book 4 = .ok (.iload_n 2, 1) := by decide +kernel
theorem dL_book_5 : decode cL_book 5 = .ok (.invokevirtual 45, 3) := by decide +kernel
theorem dL_book_8 : decode cL_book 8 = .ok (.lastore, 1) := by decide +kernel
theorem dL_book_9 : decode cL_book 9 = .ok (.goto 11, 3) := by decide +kernel
theorem dL_book_12 : decode cL_book 12 = .ok (.astore 4, 2) := by decide +kernel
theorem dL_book_14 : decode cL_book 14 = .ok (.iconst 1, 1) := by decide +kernel
theorem dL_book_15 : decode cL_book 15 = .ok (.ireturn, 1) := by decide +kernel
theorem dL_book_16 : decode cL_book 16 = .ok (.astore 4, 2) := by decide +kernel
theorem dL_book_18 : decode cL_book 18 = .ok (.iconst 2, 1) := by decide +kernel
theorem dL_book_19 : decode cL_book 19 = .ok (.ireturn, 1) := by decide +kernel
theorem dL_book_20 : decode cL_book 20 = .ok (.iconst 0, 1) := by decide +kernel
theorem dL_book_21 : decode cL_book 21 = .ok (.ireturn, 1) := by decide +kernel
set_option maxRecDepth 20000 in
theorem ggL_schedule_X9_schedule : GoodIn wsL_schedule wsX9_schedule := goodIn_ca (goodIn_ca (goodIn_ca (goodIn_r _ [8, 9, 10, 11, 12, 13, 14, 15, 16, 17, 18, 19, 7, 20, 21, 22, 23, 24, 25, 26, 27, 28, 29, 30, 31, 32, 33, 34, 35, 36, 37, 38, 39, 40, 41, 42, 43, 44, 45, 46, 47, 48, 49, 50, 51, 52, 53, 54, 55, 56, 57, 58, 59, 60, 61, 62, 63, 64, 65, 66, 67, 68, 69, 70, 71, 72, 73, 74, 75, 76, 77, 78, 79, 80, 81, 82, 83, 84, 85, 86, 87, 88, 89, 90, 91, 92, 93, 94, 95, 96, 97, 98, 99, 100, 101, 102, 103, 104, 105, 106, 107, 108, 109, 110, 111, 112, 113, 114, 115, 116, 117, 118, 119, 120, 121, 122, 123, 124, 125, 126, 127, 128, 129, 130, 131, 132, 133, 134, 135, 136, 137, 138, 139, 140] (by decide +kernel) (by decide +kernel)) (goodIn_sub (fun _ h => List.mem_cons_of_mem _ (List.mem_append_left _ (List.mem_append_left _ (List.mem_append_right _ h)))) (by decide +kernel))) (goodIn_sub (fun _ h => List.mem_cons_of_mem _ (List.mem_append_left _ (List.mem_append_right _ h))) (by decide +kernel))) (goodIn_sub (fun _ h => List.mem_cons_of_mem _ (List.mem_append_right _ h)) (by decide +kernel))
set_option maxRecDepth 20000 in
theorem gL_schedule_X9_schedule : GoodIn wsL_schedule (wsV RL 49 RX9 yX9_schedule wsX9_schedule) := goodIn_app (goodIn_of _ (by decide +kernel)) ggL_schedule_X9_schedule
theorem dL_schedule_0 : decode cL_schedule 0 = .ok (.aload 6, 2) := by decide +kernel
theorem dL_schedule_2 : decode cL_schedule 2 = .ok (.iconst 0, 1) := by decide +kernel
theorem dL_schedule_3 : decode cL_schedule 3 = .ok (.aload_n 0, 1) := by decide +kernel
theorem dL_schedule_4 : decode cL_schedule 4 = .ok (.iload_n 1, 1) := by decide +kernel
theorem dL_schedule_5 : decode cL_schedule 5 = .ok (.iload_n 2, 1) := by decide +kernel
theorem dL_schedule_6 : decode cL_schedule 6 = .ok (.iload_n 3, 1) := by decide +kernel
theorem dL_schedule_7 : decode cL_schedule 7 = .ok (.iload 4, 2) := by decide +kernel
theorem dL_schedule_9 : decode cL_schedule 9 = .ok (.iload 5, 2) := by decide +kernel
theorem dL_schedule_11 : decode cL_schedule 11 = .ok (.invokevirtual 49, 3) := by decide +kernel
theorem dL_schedule_14 : decode cL_schedule 14 = .ok (.i2l, 1) := by decide +kernel
theorem dL_schedule_15 : decode cL_schedule 15 = .ok (.lastore, 1) := by decide +kernel
theorem dL_schedule_16 : decode cL_schedule 16 = .ok (.goto 15, 3) := by decide +kernel
theorem dL_schedule_19 : decode cL_schedule 19 = .ok (.astore 7, 2) := by decide +kernel
theorem dL_schedule_21 : decode cL_schedule 21 = .ok (.iconst 1, 1) := by decide +kernel
theorem dL_schedule_22 : decode cL_schedule 22 = .ok (.ireturn, 1) := by decide +kernel
theorem dL_schedule_23 : decode cL_schedule 23 = .ok (.astore 7, 2) := by decide +kernel
theorem dL_schedule_25 : decode cL_schedule 25 = .ok (.iconst 2, 1) := by decide +kernel
theorem dL_schedule_26 : decode cL_schedule 26 = .ok (.ireturn, 1) := by decide +kernel
theorem dL_schedule_27 : decode cL_schedule 27 = .ok (.astore 7, 2) := by decide +kernel
theorem dL_schedule_29 : decode cL_schedule 29 = .ok (.iconst 3, 1) := by decide +kernel
theorem dL_schedule_30 : decode cL_schedule 30 = .ok (.ireturn, 1) := by decide +kernel
theorem dL_schedule_31 : decode cL_schedule 31 = .ok (.iconst 0, 1) := by decide +kernel
theorem dL_schedule_32 : decode cL_schedule 32 = .ok (.ireturn, 1) := by decide +kernel
set_option maxRecDepth 20000 in
theorem ggL_cancel_X9_cancel : GoodIn wsL_cancel wsX9_cancel := goodIn_ca (goodIn_r _ [6, 7, 8, 9, 10, 5, 11, 12, 13, 14, 15, 16, 17, 18, 19, 20, 21, 22, 23, 24, 25, 26, 27, 28, 29, 30, 31, 32, 33, 34, 35, 36, 37, 38, 39, 40, 41, 42, 43, 44, 45, 46, 47, 48, 49, 50, 51, 52, 53, 54, 55, 56, 57, 58] (by decide +kernel) (by decide +kernel)) (goodIn_sub (fun _ h => List.mem_cons_of_mem _ (List.mem_append_right _ h)) (by decide +kernel))
set_option maxRecDepth 20000 in
theorem gL_cancel_X9_cancel : GoodIn wsL_cancel (wsV RL 53 RX9 yX9_cancel wsX9_cancel) := goodIn_app (goodIn_of _ (by decide +kernel)) ggL_cancel_X9_cancel
theorem dL_cancel_0 : decode cL_cancel 0 = .ok (.aload_n 2, 1) := by decide +kernel
theorem dL_cancel_1 : decode cL_cancel 1 = .ok (.iconst 0, 1) := by decide +kernel
theorem dL_cancel_2 : decode cL_cancel 2 = .ok (.aload_n 0, 1) := by decide +kernel
theorem dL_cancel_3 : decode cL_cancel 3 = .ok (.iload_n 1, 1) := by decide +kernel
theorem dL_cancel_4 : decode cL_cancel 4 = .ok (.invokevirtual 53, 3) := by decide +kernel
theorem dL_cancel_7 : decode cL_cancel 7 = .ok (.i2l, 1) := by decide +kernel
theorem dL_cancel_8 : decode cL_cancel 8 = .ok (.lastore, 1) := by decide +kernel
theorem dL_cancel_9 : decode cL_cancel 9 = .ok (.goto 6, 3) := by decide +kernel
theorem dL_cancel_12 : decode cL_cancel 12 = .ok (.astore_n 3, 1) := by decide +kernel
theorem dL_cancel_13 : decode cL_cancel 13 = .ok (.iconst 1, 1) := by decide +kernel
theorem dL_cancel_14 : decode cL_cancel 14 = .ok (.ireturn, 1) := by decide +kernel
theorem dL_cancel_15 : decode cL_cancel 15 = .ok (.iconst 0, 1) := by decide +kernel
theorem dL_cancel_16 : decode cL_cancel 16 = .ok (.ireturn, 1) := by decide +kernel
set_option maxRecDepth 20000 in
theorem ggL_timesLeft_X9_timesLeft : GoodIn wsL_timesLeft wsX9_timesLeft := goodIn_ca (goodIn_r _ [6, 7, 8, 9, 10, 5, 11, 12, 13, 14, 15, 16, 17, 18, 19, 20, 21, 22, 23, 24, 25, 26, 27, 28, 29, 30, 31, 32, 33, 34, 35, 36, 37, 38, 39, 40, 41, 42, 43, 44, 45, 46, 47, 48, 49, 50, 51, 52, 53, 54, 55, 56, 57, 58] (by decide +kernel) (by decide +kernel)) (goodIn_sub (fun _ h => List.mem_cons_of_mem _ (List.mem_append_right _ h)) (by decide +kernel))
set_option maxRecDepth 20000 in
theorem gL_timesLeft_X9_timesLeft : GoodIn wsL_timesLeft (wsV RL 56 RX9 yX9_timesLeft wsX9_timesLeft) := goodIn_app (goodIn_of _ (by decide +kernel)) ggL_timesLeft_X9_timesLeft
theorem dL_timesLeft_0 : decode cL_timesLeft 0 = .ok (.aload_n 2, 1) := by decide +kernel
theorem dL_timesLeft_1 : decode cL_timesLeft 1 = .ok (.iconst 0, 1) := by decide +kernel
theorem dL_timesLeft_2 : decode cL_timesLeft 2 = .ok (.aload_n 0, 1) := by decide +kernel
theorem dL_timesLeft_3 : decode cL_timesLeft 3 = .ok (.iload_n 1, 1) := by decide +kernel
theorem dL_timesLeft_4 : decode cL_timesLeft 4 = .ok (.invokevirtual 56, 3) := by decide +kernel
theorem dL_timesLeft_7 : decode cL_timesLeft 7 = .ok (.i2l, 1) := by decide +kernel
theorem dL_timesLeft_8 : decode cL_timesLeft 8 = .ok (.lastore, 1) := by decide +kernel
theorem dL_timesLeft_9 : decode cL_timesLeft 9 = .ok (.goto 6, 3) := by decide +kernel
theorem dL_timesLeft_12 : decode cL_timesLeft 12 = .ok (.astore_n 3, 1) := by decide +kernel
theorem dL_timesLeft_13 : decode cL_timesLeft 13 = .ok (.iconst 1, 1) := by decide +kernel
theorem dL_timesLeft_14 : decode cL_timesLeft 14 = .ok (.ireturn, 1) := by decide +kernel
theorem dL_timesLeft_15 : decode cL_timesLeft 15 = .ok (.iconst 0, 1) := by decide +kernel
theorem dL_timesLeft_16 : decode cL_timesLeft 16 = .ok (.ireturn, 1) := by decide +kernel
set_option maxRecDepth 20000 in
theorem ggL_scheduled_X9_scheduled : GoodIn wsL_scheduled wsX9_scheduled := goodIn_ca (goodIn_ca (goodIn_r _ [7, 8, 9, 10, 11, 12, 6, 13, 14, 15, 16, 17, 18, 19, 20, 21, 22, 23, 24, 25, 26, 27, 28, 29, 30, 31, 32, 33, 34, 35, 36, 37, 38, 39, 40, 41, 42, 43, 44, 45, 46, 47, 48, 49, 50, 51, 52, 53, 54, 55, 56, 57, 58, 59, 60, 61, 62, 63, 64, 65, 66, 67, 68, 69, 70, 71, 72, 73, 74, 75, 76, 77, 78, 79, 80, 81, 82, 83, 84, 85, 86, 87, 88, 89, 90, 91, 92, 93, 94, 95] (by decide +kernel) (by decide +kernel)) (goodIn_sub (fun _ h => List.mem_cons_of_mem _ (List.mem_append_left _ (List.mem_append_right _ h))) (by decide +kernel))) (goodIn_sub (fun _ h => List.mem_cons_of_mem _ (List.mem_append_right _ h)) (by decide +kernel))
set_option maxRecDepth 20000 in
theorem gL_scheduled_X9_scheduled : GoodIn wsL_scheduled (wsV RL 59 RX9 yX9_scheduled wsX9_scheduled) := goodIn_app (goodIn_of _ (by decide +kernel)) ggL_scheduled_X9_scheduled
theorem dL_scheduled_0 : decode cL_scheduled 0 = .ok (.aload 4, 2) := by decide +kernel
theorem dL_scheduled_2 : decode cL_scheduled 2 = .ok (.iconst 0, 1) := by decide +kernel
theorem dL_scheduled_3 : decode cL_scheduled 3 = .ok (.aload_n 0, 1) := by decide +kernel
theorem dL_scheduled_4 : decode cL_scheduled 4 = .ok (.iload_n 1, 1) := by decide +kernel
theorem dL_scheduled_5 : decode cL_scheduled 5 = .ok (.iload_n 2, 1) := by decide +kernel
theorem dL_scheduled_6 : decode cL_scheduled 6 = .ok (.iload_n 3, 1) := by decide +kernel
theorem dL_scheduled_7 : decode cL_scheduled 7 = .ok (.invokevirtual 59, 3) := by decide +kernel
theorem dL_scheduled_10 : decode cL_scheduled 10 = .ok (.lastore, 1) := by decide +kernel
theorem dL_scheduled_11 : decode cL_scheduled 11 = .ok (.goto 11, 3) := by decide +kernel
theorem dL_scheduled_14 : decode cL_scheduled 14 = .ok (.astore 5, 2) := by decide +kernel
theorem dL_scheduled_16 : decode cL_scheduled 16 = .ok (.iconst 1, 1) := by decide +kernel
theorem dL_scheduled_17 : decode cL_scheduled 17 = .ok (.ireturn, 1) := by decide +kernel
theorem dL_scheduled_18 : decode cL_scheduled 18 = .ok (.astore 5, 2) := by decide +kernel
theorem dL_scheduled_20 : decode cL_scheduled 20 = .ok (.iconst 2, 1) := by decide +kernel
theorem dL_scheduled_21 : decode cL_scheduled 21 = .ok (.ireturn, 1) := by decide +kernel
theorem dL_scheduled_22 : decode cL_scheduled 22 = .ok (.iconst 0, 1) := by decide +kernel
theorem dL_scheduled_23 : decode cL_scheduled 23 = .ok (.ireturn, 1) := by decide +kernel
set_option maxRecDepth 20000 in
theorem ggL_poolOf_X9_poolOf : GoodIn wsL_poolOf wsX9_poolOf := goodIn_ca (goodIn_r _ [6, 7, 8, 9, 10, 11, 5, 12, 13, 14, 15, 16, 17, 18, 19, 20, 21, 22, 23, 24, 25, 26, 27, 28, 29, 30, 31, 32, 33, 34, 35, 36, 37, 38, 39, 40, 41, 42, 43, 44, 45, 46, 47, 48, 49, 50, 51, 52, 53, 54, 55, 56, 57, 58, 59, 60, 61, 62, 63, 64, 65, 66, 67, 68, 69] (by decide +kernel) (by decide +kernel)) (goodIn_sub (fun _ h => List.mem_cons_of_mem _ (List.mem_append_right _ h)) (by decide +kernel))
set_option maxRecDepth 20000 in
theorem gL_poolOf_X9_poolOf : GoodIn wsL_poolOf (wsV RL 63 RX9 yX9_poolOf wsX9_poolOf) := goodIn_app (goodIn_of _ (by decide +kernel)) ggL_poolOf_X9_poolOf
theorem dL_poolOf_0 : decode cL_poolOf 0 = .ok (.aload_n 2, 1) := by decide +kernel
theorem dL_poolOf_1 : decode cL_poolOf 1 = .ok (.iconst 0, 1) := by decide +kernel
theorem dL_poolOf_2 : decode cL_poolOf 2 = .ok (.aload_n 0, 1) := by decide +kernel
theorem dL_poolOf_3 : decode cL_poolOf 3 = .ok (.iload_n 1, 1) := by decide +kernel
theorem dL_poolOf_4 : decode cL_poolOf 4 = .ok (.invokevirtual 63, 3) := by decide +kernel
theorem dL_poolOf_7 : decode cL_poolOf 7 = .ok (.i2l, 1) := by decide +kernel
theorem dL_poolOf_8 : decode cL_poolOf 8 = .ok (.lastore, 1) := by decide +kernel
theorem dL_poolOf_9 : decode cL_poolOf 9 = .ok (.goto 6, 3) := by decide +kernel
theorem dL_poolOf_12 : decode cL_poolOf 12 = .ok (.astore_n 3, 1) := by decide +kernel
theorem dL_poolOf_13 : decode cL_poolOf 13 = .ok (.iconst 1, 1) := by decide +kernel
theorem dL_poolOf_14 : decode cL_poolOf 14 = .ok (.ireturn, 1) := by decide +kernel
theorem dL_poolOf_15 : decode cL_poolOf 15 = .ok (.iconst 0, 1) := by decide +kernel
theorem dL_poolOf_16 : decode cL_poolOf 16 = .ok (.ireturn, 1) := by decide +kernel
set_option maxRecDepth 20000 in
theorem ggL_balance_X9_balance : GoodIn wsL_balance wsX9_balance := goodIn_ca (goodIn_r _ [6, 7, 8, 9, 10, 5, 11, 12, 13, 14, 15, 16, 17, 18, 19, 20, 21, 22, 23, 24, 25, 26, 27, 28, 29, 30, 31, 32, 33, 34, 35, 36, 37, 38, 39, 40, 41, 42, 43, 44, 45, 46, 47, 48, 49, 50, 51, 52, 53, 54, 55, 56, 57, 58, 59, 60, 61, 62, 63] (by decide +kernel) (by decide +kernel)) (goodIn_sub (fun _ h => List.mem_cons_of_mem _ (List.mem_append_right _ h)) (by decide +kernel))
set_option maxRecDepth 20000 in
theorem gL_balance_X9_balance : GoodIn wsL_balance (wsV RL 66 RX9 yX9_balance wsX9_balance) := goodIn_app (goodIn_of _ (by decide +kernel)) ggL_balance_X9_balance
theorem dL_balance_0 : decode cL_balance 0 = .ok (.aload_n 2, 1) := by decide +kernel
theorem dL_balance_1 : decode cL_balance 1 = .ok (.iconst 0, 1) := by decide +kernel
theorem dL_balance_2 : decode cL_balance 2 = .ok (.aload_n 0, 1) := by decide +kernel
theorem dL_balance_3 : decode cL_balance 3 = .ok (.iload_n 1, 1) := by decide +kernel
theorem dL_balance_4 : decode cL_balance 4 = .ok (.invokevirtual 66, 3) := by decide +kernel
theorem dL_balance_7 : decode cL_balance 7 = .ok (.lastore, 1) := by decide +kernel
theorem dL_balance_8 : decode cL_balance 8 = .ok (.goto 6, 3) := by decide +kernel
theorem dL_balance_11 : decode cL_balance 11 = .ok (.astore_n 3, 1) := by decide +kernel
theorem dL_balance_12 : decode cL_balance 12 = .ok (.iconst 1, 1) := by decide +kernel
theorem dL_balance_13 : decode cL_balance 13 = .ok (.ireturn, 1) := by decide +kernel
theorem dL_balance_14 : decode cL_balance 14 = .ok (.iconst 0, 1) := by decide +kernel
theorem dL_balance_15 : decode cL_balance 15 = .ok (.ireturn, 1) := by decide +kernel
set_option maxRecDepth 20000 in
theorem ggL_total_X9_total : GoodIn wsL_total wsX9_total := goodIn_ca (goodIn_r _ [6, 7, 8, 9, 5, 10, 11, 12, 13, 14, 15, 16, 17, 18, 19, 20, 21, 22, 23, 24, 25, 26, 27, 28, 29, 30, 31, 32, 33, 34, 35, 36, 37, 38, 39, 40, 41, 42, 43, 44, 45, 46, 47, 48, 49, 50, 51, 52, 53, 54, 55, 56, 57, 58, 59, 60, 61, 62, 63, 64, 65, 66, 67, 68, 69, 70, 71] (by decide +kernel) (by decide +kernel)) (goodIn_sub (fun _ h => List.mem_cons_of_mem _ (List.mem_append_right _ h)) (by decide +kernel))
set_option maxRecDepth 20000 in
theorem gL_total_X9_total : GoodIn wsL_total (wsV RL 70 RX9 yX9_total wsX9_total) := goodIn_app (goodIn_of _ (by decide +kernel)) ggL_total_X9_total
theorem dL_total_0 : decode cL_total 0 = .ok (.aload_n 2, 1) := by decide +kernel
theorem dL_total_1 : decode cL_total 1 = .ok (.iconst 0, 1) := by decide +kernel
theorem dL_total_2 : decode cL_total 2 = .ok (.aload_n 0, 1) := by decide +kernel
theorem dL_total_3 : decode cL_total 3 = .ok (.iload_n 1, 1) := by decide +kernel
theorem dL_total_4 : decode cL_total 4 = .ok (.invokevirtual 70, 3) := by decide +kernel
theorem dL_total_7 : decode cL_total 7 = .ok (.lastore, 1) := by decide +kernel
theorem dL_total_8 : decode cL_total 8 = .ok (.goto 6, 3) := by decide +kernel
theorem dL_total_11 : decode cL_total 11 = .ok (.astore_n 3, 1) := by decide +kernel
theorem dL_total_12 : decode cL_total 12 = .ok (.iconst 1, 1) := by decide +kernel
theorem dL_total_13 : decode cL_total 13 = .ok (.ireturn, 1) := by decide +kernel
theorem dL_total_14 : decode cL_total 14 = .ok (.iconst 0, 1) := by decide +kernel
theorem dL_total_15 : decode cL_total 15 = .ok (.ireturn, 1) := by decide +kernel
set_option maxRecDepth 20000 in
theorem ggL_exposure_X9_exposure : GoodIn wsL_exposure wsX9_exposure := goodIn_ca (goodIn_r _ [6, 7, 8, 9, 10, 11, 5, 12, 13, 14, 15, 16, 17, 18, 19, 20, 21, 22, 23, 24, 25, 26, 27, 28, 29, 30, 31, 32, 33, 34, 35, 36, 37, 38, 39, 40, 41, 42, 43, 44, 45, 46, 47, 48, 49, 50, 51, 52, 53, 54, 55, 56, 57, 58, 59, 60, 61, 62, 63, 64, 65, 66, 67, 68, 69, 70, 71, 72, 73, 74, 75, 76, 77, 78, 79, 80, 81, 82, 83, 84] (by decide +kernel) (by decide +kernel)) (goodIn_sub (fun _ h => List.mem_cons_of_mem _ (List.mem_append_right _ h)) (by decide +kernel))
set_option maxRecDepth 20000 in
theorem gL_exposure_X9_exposure : GoodIn wsL_exposure (wsV RL 73 RX9 yX9_exposure wsX9_exposure) := goodIn_app (goodIn_of _ (by decide +kernel)) ggL_exposure_X9_exposure
theorem dL_exposure_0 : decode cL_exposure 0 = .ok (.aload_n 2, 1) := by decide +kernel
theorem dL_exposure_1 : decode cL_exposure 1 = .ok (.iconst 0, 1) := by decide +kernel
theorem dL_exposure_2 : decode cL_exposure 2 = .ok (.aload_n 0, 1) := by decide +kernel
theorem dL_exposure_3 : decode cL_exposure 3 = .ok (.iload_n 1, 1) := by decide +kernel
theorem dL_exposure_4 : decode cL_exposure 4 = .ok (.invokevirtual 73, 3) := by decide +kernel
theorem dL_exposure_7 : decode cL_exposure 7 = .ok (.lastore, 1) := by decide +kernel
theorem dL_exposure_8 : decode cL_exposure 8 = .ok (.goto 6, 3) := by decide +kernel
theorem dL_exposure_11 : decode cL_exposure 11 = .ok (.astore_n 3, 1) := by decide +kernel
theorem dL_exposure_12 : decode cL_exposure 12 = .ok (.iconst 1, 1) := by decide +kernel
theorem dL_exposure_13 : decode cL_exposure 13 = .ok (.ireturn, 1) := by decide +kernel
theorem dL_exposure_14 : decode cL_exposure 14 = .ok (.iconst 0, 1) := by decide +kernel
theorem dL_exposure_15 : decode cL_exposure 15 = .ok (.ireturn, 1) := by decide +kernel
set_option maxRecDepth 20000 in
theorem ggL_drawn_X9_drawn : GoodIn wsL_drawn wsX9_drawn := goodIn_ca (goodIn_r _ [6, 7, 8, 9, 10, 5, 11, 12, 13, 14, 15, 16, 17, 18, 19, 20, 21, 22, 23, 24, 25, 26, 27, 28, 29, 30, 31, 32, 33, 34, 35, 36, 37, 38, 39, 40, 41, 42, 43, 44, 45, 46, 47, 48, 49, 50, 51, 52, 53, 54, 55, 56, 57, 58, 59, 60] (by decide +kernel) (by decide +kernel)) (goodIn_sub (fun _ h => List.mem_cons_of_mem _ (List.mem_append_right _ h)) (by decide +kernel))
set_option maxRecDepth 20000 in
theorem gL_drawn_X9_drawn : GoodIn wsL_drawn (wsV RL 76 RX9 yX9_drawn wsX9_drawn) := goodIn_app (goodIn_of _ (by decide +kernel)) ggL_drawn_X9_drawn
theorem dL_drawn_0 : decode cL_drawn 0 = .ok (.aload_n 2, 1) := by decide +kernel
theorem dL_drawn_1 : decode cL_drawn 1 = .ok (.iconst 0, 1) := by decide +kernel
theorem dL_drawn_2 : decode cL_drawn 2 = .ok (.aload_n 0, 1) := by decide +kernel
theorem dL_drawn_3 : decode cL_drawn 3 = .ok (.iload_n 1, 1) := by decide +kernel
theorem dL_drawn_4 : decode cL_drawn 4 = .ok (.invokevirtual 76, 3) := by decide +kernel
theorem dL_drawn_7 : decode cL_drawn 7 = .ok (.i2l, 1) := by decide +kernel
theorem dL_drawn_8 : decode cL_drawn 8 = .ok (.lastore, 1) := by decide +kernel
theorem dL_drawn_9 : decode cL_drawn 9 = .ok (.goto 6, 3) := by decide +kernel
theorem dL_drawn_12 : decode cL_drawn 12 = .ok (.astore_n 3, 1) := by decide +kernel
theorem dL_drawn_13 : decode cL_drawn 13 = .ok (.iconst 1, 1) := by decide +kernel
theorem dL_drawn_14 : decode cL_drawn 14 = .ok (.ireturn, 1) := by decide +kernel
theorem dL_drawn_15 : decode cL_drawn 15 = .ok (.iconst 0, 1) := by decide +kernel
theorem dL_drawn_16 : decode cL_drawn 16 = .ok (.ireturn, 1) := by decide +kernel
set_option maxRecDepth 20000 in
theorem ggL_costOf_X9_costOf : GoodIn wsL_costOf wsX9_costOf := goodIn_ca (goodIn_r _ [6, 7, 8, 9, 10, 5, 11, 12, 13, 14, 15, 16, 17, 18, 19, 20, 21, 22, 23, 24, 25, 26, 27, 28, 29, 30, 31, 32, 33, 34, 35, 36, 37, 38, 39, 40, 41, 42, 43, 44, 45, 46, 47, 48, 49, 50, 51, 52, 53, 54, 55, 56, 57, 58, 59, 60] (by decide +kernel) (by decide +kernel)) (goodIn_sub (fun _ h => List.mem_cons_of_mem _ (List.mem_append_right _ h)) (by decide +kernel))
set_option maxRecDepth 20000 in
theorem gL_costOf_X9_costOf : GoodIn wsL_costOf (wsV RL 79 RX9 yX9_costOf wsX9_costOf) := goodIn_app (goodIn_of _ (by decide +kernel)) ggL_costOf_X9_costOf
theorem dL_costOf_0 : decode cL_costOf 0 = .ok (.aload_n 2, 1) := by decide +kernel
theorem dL_costOf_1 : decode cL_costOf 1 = .ok (.iconst 0, 1) := by decide +kernel
theorem dL_costOf_2 : decode cL_costOf 2 = .ok (.aload_n 0, 1) := by decide +kernel
theorem dL_costOf_3 : decode cL_costOf 3 = .ok (.iload_n 1, 1) := by decide +kernel
theorem dL_costOf_4 : decode cL_costOf 4 = .ok (.invokevirtual 79, 3) := by decide +kernel
theorem dL_costOf_7 : decode cL_costOf 7 = .ok (.lastore, 1) := by decide +kernel
theorem dL_costOf_8 : decode cL_costOf 8 = .ok (.goto 6, 3) := by decide +kernel
theorem dL_costOf_11 : decode cL_costOf 11 = .ok (.astore_n 3, 1) := by decide +kernel
theorem dL_costOf_12 : decode cL_costOf 12 = .ok (.iconst 1, 1) := by decide +kernel
theorem dL_costOf_13 : decode cL_costOf 13 = .ok (.ireturn, 1) := by decide +kernel
theorem dL_costOf_14 : decode cL_costOf 14 = .ok (.iconst 0, 1) := by decide +kernel
theorem dL_costOf_15 : decode cL_costOf 15 = .ok (.ireturn, 1) := by decide +kernel
set_option maxRecDepth 20000 in
theorem ggL_interestOf_X9_interestOf : GoodIn wsL_interestOf wsX9_interestOf := goodIn_ca (goodIn_r _ [6, 7, 8, 9, 10, 5, 11, 12, 13, 14, 15, 16, 17, 18, 19, 20, 21, 22, 23, 24, 25, 26, 27, 28, 29, 30, 31, 32, 33, 34, 35, 36, 37, 38, 39, 40, 41, 42, 43, 44, 45, 46, 47, 48, 49, 50, 51, 52, 53, 54, 55, 56, 57, 58, 59, 60, 61, 62, 63] (by decide +kernel) (by decide +kernel)) (goodIn_sub (fun _ h => List.mem_cons_of_mem _ (List.mem_append_right _ h)) (by decide +kernel))
set_option maxRecDepth 20000 in
theorem gL_interestOf_X9_interestOf : GoodIn wsL_interestOf (wsV RL 82 RX9 yX9_interestOf wsX9_interestOf) := goodIn_app (goodIn_of _ (by decide +kernel)) ggL_interestOf_X9_interestOf
theorem dL_interestOf_0 : decode cL_interestOf 0 = .ok (.aload_n 2, 1) := by decide +kernel
theorem dL_interestOf_1 : decode cL_interestOf 1 = .ok (.iconst 0, 1) := by decide +kernel
theorem dL_interestOf_2 : decode cL_interestOf 2 = .ok (.aload_n 0, 1) := by decide +kernel
theorem dL_interestOf_3 : decode cL_interestOf 3 = .ok (.iload_n 1, 1) := by decide +kernel
theorem dL_interestOf_4 : decode cL_interestOf 4 = .ok (.invokevirtual 82, 3) := by decide +kernel
theorem dL_interestOf_7 : decode cL_interestOf 7 = .ok (.lastore, 1) := by decide +kernel
theorem dL_interestOf_8 : decode cL_interestOf 8 = .ok (.goto 6, 3) := by decide +kernel
theorem dL_interestOf_11 : decode cL_interestOf 11 = .ok (.astore_n 3, 1) := by decide +kernel
theorem dL_interestOf_12 : decode cL_interestOf 12 = .ok (.iconst 1, 1) := by decide +kernel
theorem dL_interestOf_13 : decode cL_interestOf 13 = .ok (.ireturn, 1) := by decide +kernel
theorem dL_interestOf_14 : decode cL_interestOf 14 = .ok (.iconst 0, 1) := by decide +kernel
theorem dL_interestOf_15 : decode cL_interestOf 15 = .ok (.ireturn, 1) := by decide +kernel
set_option maxRecDepth 20000 in
theorem ggL_poolInterest_X9_poolInterest : GoodIn wsL_poolInterest wsX9_poolInterest := goodIn_ca (goodIn_ca (goodIn_r _ [7, 8, 9, 10, 11, 12, 13, 14, 6, 15, 16, 17, 18, 19, 20, 21, 22, 23, 24, 25, 26, 27, 28, 29, 30, 31, 32, 33, 34, 35, 36, 37, 38, 39, 40, 41, 42, 43, 44, 45, 46, 47, 48, 49, 50, 51, 52, 53, 54, 55, 56, 57, 58, 59, 60, 61, 62, 63, 64, 65, 66, 67, 68, 69, 70, 71, 72, 73, 74, 75, 76, 77, 78, 79, 80, 81, 82, 83, 84, 85, 86, 87, 88] (by decide +kernel) (by decide +kernel)) (goodIn_sub (fun _ h => List.mem_cons_of_mem _ (List.mem_append_left _ (List.mem_append_right _ h))) (by decide +kernel))) (goodIn_sub (fun _ h => List.mem_cons_of_mem _ (List.mem_append_right _ h)) (by decide +kernel))
set_option maxRecDepth 20000 in
theorem gL_poolInterest_X9_poolInterest : GoodIn wsL_poolInterest (wsV RL 85 RX9 yX9_poolInterest wsX9_poolInterest) := goodIn_app (goodIn_of _ (by decide +kernel)) ggL_poolInterest_X9_poolInterest
theorem dL_poolInterest_0 : decode cL_poolInterest 0 = .ok (.aload_n 2, 1) := by decide +kernel
theorem dL_poolInterest_1 : decode cL_poolInterest 1 = .ok (.iconst 0, 1) := by decide +kernel
theorem dL_poolInterest_2 : decode cL_poolInterest 2 = .ok (.aload_n 0, 1) := by decide +kernel
theorem dL_poolInterest_3 : decode cL_poolInterest 3 = .ok (.iload_n 1, 1) := by decide +kernel
theorem dL_poolInterest_4 : decode cL_poolInterest 4 = .ok (.invokevirtual 85, 3) := by decide +kernel
theorem dL_poolInterest_7 : decode cL_poolInterest 7 = .ok (.lastore, 1) := by decide +kernel
theorem dL_poolInterest_8 : decode cL_poolInterest 8 = .ok (.goto 9, 3) := by decide +kernel
theorem dL_poolInterest_11 : decode cL_poolInterest 11 = .ok (.astore_n 3, 1) := by decide +kernel
theorem dL_poolInterest_12 : decode cL_poolInterest 12 = .ok (.iconst 1, 1) := by decide +kernel
theorem dL_poolInterest_13 : decode cL_poolInterest 13 = .ok (.ireturn, 1) := by decide +kernel
theorem dL_poolInterest_14 : decode cL_poolInterest 14 = .ok (.astore_n 3, 1) := by decide +kernel
theorem dL_poolInterest_15 : decode cL_poolInterest 15 = .ok (.iconst 2, 1) := by decide +kernel
theorem dL_poolInterest_16 : decode cL_poolInterest 16 = .ok (.ireturn, 1) := by decide +kernel
theorem dL_poolInterest_17 : decode cL_poolInterest 17 = .ok (.iconst 0, 1) := by decide +kernel
theorem dL_poolInterest_18 : decode cL_poolInterest 18 = .ok (.ireturn, 1) := by decide +kernel
set_option maxRecDepth 20000 in
theorem ggL_afterSweep_X9_afterSweep : GoodIn wsL_afterSweep wsX9_afterSweep := goodIn_ca (goodIn_r _ [6, 7, 8, 9, 5, 10, 11, 12, 13, 14, 15, 16, 17, 18, 19, 20, 21, 22, 23, 24, 25, 26, 27, 28, 29, 30, 31, 32, 33, 34, 35, 36, 37, 38, 39, 40, 41, 42, 43, 44, 45, 46, 47, 48, 49, 50, 51, 52, 53, 54, 55, 56, 57, 58, 59, 60, 61, 62, 63, 64, 65, 66, 67, 68, 69, 70, 71, 72, 73, 74, 75, 76, 77, 78, 79, 80, 81, 82, 83, 84, 85, 86, 87, 88, 89, 90, 91, 92, 93, 94, 95, 96, 97, 98, 99, 100, 101, 102] (by decide +kernel) (by decide +kernel)) (goodIn_sub (fun _ h => List.mem_cons_of_mem _ (List.mem_append_right _ h)) (by decide +kernel))
set_option maxRecDepth 20000 in
theorem gL_afterSweep_X9_afterSweep : GoodIn wsL_afterSweep (wsV RL 88 RX9 yX9_afterSweep wsX9_afterSweep) := goodIn_app (goodIn_of _ (by decide +kernel)) ggL_afterSweep_X9_afterSweep
theorem dL_afterSweep_0 : decode cL_afterSweep 0 = .ok (.aload_n 2, 1) := by decide +kernel
theorem dL_afterSweep_1 : decode cL_afterSweep 1 = .ok (.iconst 0, 1) := by decide +kernel
theorem dL_afterSweep_2 : decode cL_afterSweep 2 = .ok (.aload_n 0, 1) := by decide +kernel
theorem dL_afterSweep_3 : decode cL_afterSweep 3 = .ok (.iload_n 1, 1) := by decide +kernel
theorem dL_afterSweep_4 : decode cL_afterSweep 4 = .ok (.invokevirtual 88, 3) := by decide +kernel
theorem dL_afterSweep_7 : decode cL_afterSweep 7 = .ok (.lastore, 1) := by decide +kernel
theorem dL_afterSweep_8 : decode cL_afterSweep 8 = .ok (.goto 6, 3) := by decide +kernel
theorem dL_afterSweep_11 : decode cL_afterSweep 11 = .ok (.astore_n 3, 1) := by decide +kernel
theorem dL_afterSweep_12 : decode cL_afterSweep 12 = .ok (.iconst 1, 1) := by decide +kernel
theorem dL_afterSweep_13 : decode cL_afterSweep 13 = .ok (.ireturn, 1) := by decide +kernel
theorem dL_afterSweep_14 : decode cL_afterSweep 14 = .ok (.iconst 0, 1) := by decide +kernel
theorem dL_afterSweep_15 : decode cL_afterSweep 15 = .ok (.ireturn, 1) := by decide +kernel
set_option maxRecDepth 20000 in
theorem ggL_afterSweepByMoves_X9_afterSweepByMoves : GoodIn wsL_afterSweepByMoves wsX9_afterSweepByMoves := goodIn_ca (goodIn_r _ [6, 7, 8, 9, 10, 11, 5, 12, 13, 14, 15, 16, 17, 18, 19, 20, 21, 22, 23, 24, 25, 26, 27, 28, 29, 30, 31, 32, 33, 34, 35, 36, 37, 38, 39, 40, 41, 42, 43, 44, 45, 46, 47, 48, 49, 50, 51, 52, 53, 54, 55, 56, 57, 58, 59, 60, 61, 62, 63, 64, 65, 66, 67, 68, 69, 70, 71, 72, 73, 74, 75, 76, 77, 78, 79, 80, 81, 82, 83, 84, 85, 86, 87, 88, 89, 90, 91, 92, 93, 94, 95, 96, 97, 98, 99, 100, 101, 102, 103, 104, 105, 106, 107, 108, 109, 110, 111, 112, 113, 114, 115, 116, 117, 118, 119, 120, 121, 122, 123, 124, 125, 126, 127, 128, 129, 130, 131, 132, 133, 134, 135, 136, 137, 138, 139, 140, 141, 142, 143, 144, 145, 146, 147, 148, 149, 150, 151, 152, 153, 154, 155, 156, 157, 158, 159, 160, 161, 162, 163, 164, 165, 166, 167, 168, 169, 170, 171, 172, 173, 174, 175, 176, 177, 178, 179, 180, 181, 182, 183, 184, 185, 186, 187, 188, 189, 190, 191, 192, 193, 194, 195, 196, 197, 198, 199, 200, 201, 202, 203, 204, 205, 206, 207, 208, 209, 210, 211, 212, 213, 214, 215, 216, 217, 218, 219, 220, 221, 222, 223, 224, 225] (by decide +kernel) (by decide +kernel)) (goodIn_sub (fun _ h => List.mem_cons_of_mem _ (List.mem_append_right _ h)) (by decide +kernel))
set_option maxRecDepth 20000 in
theorem gL_afterSweepByMoves_X9_afterSweepByMoves : GoodIn wsL_afterSweepByMoves (wsV RL 91 RX9 yX9_afterSweepByMoves wsX9_afterSweepByMoves) := goodIn_app (goodIn_of _ (by decide +kernel)) ggL_afterSweepByMoves_X9_afterSweepByMoves
theorem dL_afterSweepByMoves_0 : decode cL_afterSweepByMoves 0 = .ok (.aload_n 2, 1) := by decide +kernel
theorem dL_afterSweepByMoves_1 : decode cL_afterSweepByMoves 1 = .ok (.iconst 0, 1) := by decide +kernel
theorem dL_afterSweepByMoves_2 : decode cL_afterSweepByMoves 2 = .ok (.aload_n 0, 1) := by decide +kernel
theorem dL_afterSweepByMoves_3 : decode cL_afterSweepByMoves 3 = .ok (.iload_n 1, 1) := by decide +kernel
theorem dL_afterSweepByMoves_4 : decode cL_afterSweepByMoves 4 = .ok (.invokevirtual 91, 3) := by decide +kernel
theorem dL_afterSweepByMoves_7 : decode cL_afterSweepByMoves 7 = .ok (.lastore, 1) := by decide +kernel
theorem dL_afterSweepByMoves_8 : decode cL_afterSweepByMoves 8 = .ok (.goto 6, 3) := by decide +kernel
theorem dL_afterSweepByMoves_11 : decode cL_afterSweepByMoves 11 = .ok (.astore_n 3, 1) := by decide +kernel
theorem dL_afterSweepByMoves_12 : decode cL_afterSweepByMoves 12 = .ok (.iconst 1, 1) := by decide +kernel
theorem dL_afterSweepByMoves_13 : decode cL_afterSweepByMoves 13 = .ok (.ireturn, 1) := by decide +kernel
theorem dL_afterSweepByMoves_14 : decode cL_afterSweepByMoves 14 = .ok (.iconst 0, 1) := by decide +kernel
theorem dL_afterSweepByMoves_15 : decode cL_afterSweepByMoves 15 = .ok (.ireturn, 1) := by decide +kernel
set_option maxRecDepth 20000 in
theorem ggL_forecast_X9_forecast : GoodIn wsL_forecast wsX9_forecast := goodIn_ca (goodIn_ca (goodIn_r _ [7, 8, 9, 10, 11, 12, 6, 13, 14, 15, 16, 17, 18, 19, 20, 21, 22, 23, 24, 25, 26, 27, 28, 29, 30, 31, 32, 33, 34, 35, 36, 37, 38, 39, 40, 41, 42, 43, 44, 45, 46, 47, 48, 49, 50, 51, 52, 53, 54, 55, 56, 57, 58, 59, 60, 61, 62, 63, 64, 65, 66, 67, 68, 69, 70, 71, 72, 73, 74, 75, 76, 77, 78, 79, 80, 81, 82, 83, 84, 85, 86, 87, 88, 89, 90, 91, 92, 93, 94, 95, 96, 97, 98, 99, 100, 101, 102, 103, 104, 105, 106, 107, 108, 109, 110, 111, 112, 113, 114, 115, 116, 117, 118, 119, 120, 121, 122, 123, 124, 125, 126, 127, 128, 129, 130, 131, 132, 133, 134, 135, 136, 137, 138, 139, 140, 141, 142, 143, 144, 145, 146, 147, 148, 149, 150, 151, 152, 153, 154, 155, 156, 157, 158, 159, 160, 161, 162, 163, 164, 165, 166, 167, 168, 169, 170, 171, 172, 173, 174, 175, 176, 177, 178, 179, 180, 181, 182, 183, 184, 185, 186, 187, 188, 189, 190, 191, 192, 193, 194, 195, 196, 197, 198, 199, 200, 201, 202, 203, 204, 205, 206, 207, 208, 209, 210, 211, 212, 213, 214, 215, 216, 217, 218, 219, 220, 221, 222, 223, 224, 225, 226, 227, 228, 229, 230, 231, 232, 233, 234, 235, 236, 237, 238, 239, 240, 241, 242, 243, 244, 245, 246, 247, 248, 249, 250, 251, 252, 253, 254, 255, 256, 257, 258, 259, 260, 261, 262, 263, 264, 265, 266, 267, 268, 269, 270, 271, 272, 273, 274, 275, 276, 277, 278, 279, 280, 281, 282, 283, 284, 285, 286, 287, 288, 289, 290, 291, 292, 293, 294, 295, 296, 297, 298, 299, 300, 301, 302, 303, 304, 305, 306, 307, 308, 309, 310, 311, 312, 313, 314, 315, 316, 317, 318, 319, 320, 321, 322, 323, 324, 325, 326, 327, 328, 329, 330, 331, 332, 333, 334, 335, 336, 337, 338, 339, 340, 341, 342, 343, 344, 345, 346, 347, 348, 349, 350, 351, 352, 353, 354, 355, 356, 357, 358, 359, 360, 361, 362, 363, 364, 365, 366, 367, 368, 369, 370, 371, 372, 373, 374, 375, 376, 377, 378, 379, 380, 381, 382, 383, 384] (by decide +kernel) (by decide +kernel)) (goodIn_sub (fun _ h => List.mem_cons_of_mem _ (List.mem_append_left _ (List.mem_append_right _ h))) (by decide +kernel))) (goodIn_sub (fun _ h => List.mem_cons_of_mem _ (List.mem_append_right _ h)) (by decide +kernel))
set_option maxRecDepth 20000 in
theorem gL_forecast_X9_forecast : GoodIn wsL_forecast (wsV RL 94 RX9 yX9_forecast wsX9_forecast) := goodIn_app (goodIn_of _ (by decide +kernel)) ggL_forecast_X9_forecast
theorem dL_forecast_0 : decode cL_forecast 0 = .ok (.aload_n 3, 1) := by decide +kernel
theorem dL_forecast_1 : decode cL_forecast 1 = .ok (.iconst 0, 1) := by decide +kernel
theorem dL_forecast_2 : decode cL_forecast 2 = .ok (.aload_n 0, 1) := by decide +kernel
theorem dL_forecast_3 : decode cL_forecast 3 = .ok (.iload_n 1, 1) := by decide +kernel
theorem dL_forecast_4 : decode cL_forecast 4 = .ok (.iload_n 2, 1) := by decide +kernel
theorem dL_forecast_5 : decode cL_forecast 5 = .ok (.invokevirtual 94, 3) := by decide +kernel
theorem dL_forecast_8 : decode cL_forecast 8 = .ok (.lastore, 1) := by decide +kernel
theorem dL_forecast_9 : decode cL_forecast 9 = .ok (.goto 11, 3) := by decide +kernel
theorem dL_forecast_12 : decode cL_forecast 12 = .ok (.astore 4, 2) := by decide +kernel
theorem dL_forecast_14 : decode cL_forecast 14 = .ok (.iconst 1, 1) := by decide +kernel
theorem dL_forecast_15 : decode cL_forecast 15 = .ok (.ireturn, 1) := by decide +kernel
theorem dL_forecast_16 : decode cL_forecast 16 = .ok (.astore 4, 2) := by decide +kernel
theorem dL_forecast_18 : decode cL_forecast 18 = .ok (.iconst 2, 1) := by decide +kernel
theorem dL_forecast_19 : decode cL_forecast 19 = .ok (.ireturn, 1) := by decide +kernel
theorem dL_forecast_20 : decode cL_forecast 20 = .ok (.iconst 0, 1) := by decide +kernel
theorem dL_forecast_21 : decode cL_forecast 21 = .ok (.ireturn, 1) := by decide +kernel
set_option maxRecDepth 20000 in
theorem ggL_daysToShort_X9_daysToShort : GoodIn wsL_daysToShort wsX9_daysToShort := goodIn_ca (goodIn_ca (goodIn_ca (goodIn_r _ [8, 9, 10, 11, 12, 13, 7, 14, 15, 16, 17, 18, 19, 20, 21, 22, 23, 24, 25, 26, 27, 28, 29, 30, 31, 32, 33, 34, 35, 36, 37, 38, 39, 40, 41, 42, 43, 44, 45, 46, 47, 48, 49, 50, 51, 52, 53, 54, 55, 56, 57, 58, 59, 60, 61, 62, 63, 64, 65, 66, 67, 68, 69, 70, 71, 72, 73, 74, 75, 76, 77, 78, 79, 80, 81, 82, 83, 84, 85, 86, 87, 88, 89, 90, 91, 92, 93, 94, 95, 96, 97, 98, 99, 100, 101, 102, 103, 104, 105, 106, 107, 108, 109, 110, 111, 112, 113, 114, 115, 116, 117, 118, 119, 120, 121, 122, 123, 124, 125, 126, 127, 128, 129, 130, 131, 132, 133, 134, 135, 136, 137, 138, 139, 140, 141, 142, 143, 144, 145, 146, 147, 148, 149, 150, 151, 152, 153, 154, 155, 156, 157, 158, 159, 160, 161, 162, 163, 164, 165, 166, 167, 168, 169, 170, 171, 172, 173, 174, 175, 176, 177, 178, 179, 180, 181, 182, 183, 184, 185, 186, 187, 188, 189, 190, 191, 192, 193, 194, 195, 196, 197, 198, 199, 200, 201, 202, 203, 204, 205, 206, 207, 208, 209, 210, 211, 212, 213, 214, 215, 216, 217, 218, 219, 220, 221, 222, 223, 224, 225, 226, 227, 228, 229, 230, 231, 232, 233, 234, 235, 236, 237, 238, 239, 240, 241, 242, 243, 244, 245, 246, 247, 248, 249, 250, 251, 252, 253, 254, 255, 256, 257, 258, 259, 260, 261, 262, 263, 264, 265, 266, 267, 268, 269, 270, 271, 272, 273, 274, 275, 276, 277, 278, 279, 280, 281, 282, 283, 284, 285, 286, 287, 288, 289, 290, 291, 292, 293, 294, 295, 296, 297, 298, 299, 300, 301, 302, 303, 304, 305, 306, 307, 308, 309, 310, 311, 312, 313, 314, 315, 316, 317, 318, 319, 320, 321, 322, 323, 324, 325, 326, 327, 328, 329, 330, 331, 332, 333, 334, 335, 336, 337, 338, 339, 340, 341, 342, 343, 344, 345, 346, 347, 348, 349, 350, 351, 352, 353, 354, 355, 356, 357, 358, 359, 360, 361, 362, 363, 364, 365, 366, 367, 368, 369, 370, 371, 372, 373, 374, 375, 376, 377, 378, 379, 380, 381, 382, 383, 384, 385, 386, 387, 388, 389, 390, 391] (by decide +kernel) (by decide +kernel)) (goodIn_sub (fun _ h => List.mem_cons_of_mem _ (List.mem_append_left _ (List.mem_append_left _ (List.mem_append_right _ h)))) (by decide +kernel))) (goodIn_sub (fun _ h => List.mem_cons_of_mem _ (List.mem_append_left _ (List.mem_append_right _ h))) (by decide +kernel))) (goodIn_sub (fun _ h => List.mem_cons_of_mem _ (List.mem_append_right _ h)) (by decide +kernel))
set_option maxRecDepth 20000 in
theorem gL_daysToShort_X9_daysToShort : GoodIn wsL_daysToShort (wsV RL 97 RX9 yX9_daysToShort wsX9_daysToShort) := goodIn_app (goodIn_of _ (by decide +kernel)) ggL_daysToShort_X9_daysToShort
theorem dL_daysToShort_0 : decode cL_daysToShort 0 = .ok (.aload_n 3, 1) := by decide +kernel
theorem dL_daysToShort_1 : decode cL_daysToShort 1 = .ok (.iconst 0, 1) := by decide +kernel
theorem dL_daysToShort_2 : decode cL_daysToShort 2 = .ok (.aload_n 0, 1) := by decide +kernel
theorem dL_daysToShort_3 : decode cL_daysToShort 3 = .ok (.iload_n 1, 1) := by decide +kernel
theorem dL_daysToShort_4 : decode cL_daysToShort 4 = .ok (.iload_n 2, 1) := by decide +kernel
theorem dL_daysToShort_5 : decode cL_daysToShort 5 = .ok (.invokevirtual 97, 3) := by decide +kernel
theorem dL_daysToShort_8 : decode cL_daysToShort 8 = .ok (.i2l, 1) := by decide +kernel
theorem dL_daysToShort_9 : decode cL_daysToShort 9 = .ok (.lastore, 1) := by decide +kernel
theorem dL_daysToShort_10 : decode cL_daysToShort 10 = .ok (.goto 15, 3) := by decide +kernel
theorem dL_daysToShort_13 : decode cL_daysToShort 13 = .ok (.astore 4, 2) := by decide +kernel
theorem dL_daysToShort_15 : decode cL_daysToShort 15 = .ok (.iconst 1, 1) := by decide +kernel
theorem dL_daysToShort_16 : decode cL_daysToShort 16 = .ok (.ireturn, 1) := by decide +kernel
theorem dL_daysToShort_17 : decode cL_daysToShort 17 = .ok (.astore 4, 2) := by decide +kernel
theorem dL_daysToShort_19 : decode cL_daysToShort 19 = .ok (.iconst 2, 1) := by decide +kernel
theorem dL_daysToShort_20 : decode cL_daysToShort 20 = .ok (.ireturn, 1) := by decide +kernel
theorem dL_daysToShort_21 : decode cL_daysToShort 21 = .ok (.astore 4, 2) := by decide +kernel
theorem dL_daysToShort_23 : decode cL_daysToShort 23 = .ok (.iconst 3, 1) := by decide +kernel
theorem dL_daysToShort_24 : decode cL_daysToShort 24 = .ok (.ireturn, 1) := by decide +kernel
theorem dL_daysToShort_25 : decode cL_daysToShort 25 = .ok (.iconst 0, 1) := by decide +kernel
theorem dL_daysToShort_26 : decode cL_daysToShort 26 = .ok (.ireturn, 1) := by decide +kernel
