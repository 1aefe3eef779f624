theorem dX9_passDays_0 : decode cX9_passDays 0 = .ok (.iload_n 1, 1) := by decide +kernel
theorem dX9_passDays_1 : decode cX9_passDays 1 = .ok (.iconst 1, 1) := by decide +kernel
theorem dX9_passDays_2 : decode cX9_passDays 2 = .ok (.bipush 60, 2) := by decide +kernel
theorem dX9_passDays_4 : decode cX9_passDays 4 = .ok (.invokestatic 20, 3) := by decide +kernel
theorem dX9_passDays_7 : decode cX9_passDays 7 = .ok (.aload_n 0, 1) := by decide +kernel
theorem dX9_passDays_8 : decode cX9_passDays 8 = .ok (.getfield 10, 3) := by decide +kernel
theorem dX9_passDays_11 : decode cX9_passDays 11 = .ok (.getfield 91, 3) := by decide +kernel
theorem dX9_passDays_14 : decode cX9_passDays 14 = .ok (.iload_n 1, 1) := by decide +kernel
theorem dX9_passDays_15 : decode cX9_passDays 15 = .ok (.iadd, 1) := by decide +kernel
theorem dX9_passDays_16 : decode cX9_passDays 16 = .ok (.sipush 400, 3) := by decide +kernel
theorem dX9_passDays_19 : decode cX9_passDays 19 = .ok (.if_icmp .le 13, 3) := by decide +kernel
theorem dX9_passDays_22 : decode cX9_passDays 22 = .ok (.new 47, 3) := by decide +kernel
theorem dX9_passDays_25 : decode cX9_passDays 25 = .ok (.dup, 1) := by decide +kernel
theorem dX9_passDays_26 : decode cX9_passDays 26 = .ok (.ldc 111, 2) := by decide +kernel
theorem dX9_passDays_28 : decode cX9_passDays 28 = .ok (.invokespecial 51, 3) := by decide +kernel
theorem dX9_passDays_31 : decode cX9_passDays 31 = .ok (.athrow, 1) := by decide +kernel
theorem dX9_passDays_32 : decode cX9_passDays 32 = .ok (.iconst 0, 1) := by decide +kernel
theorem dX9_passDays_33 : decode cX9_passDays 33 = .ok (.istore_n 2, 1) := by decide +kernel
theorem dX9_passDays_34 : decode cX9_passDays 34 = .ok (.iload_n 2, 1) := by decide +kernel
theorem dX9_passDays_35 : decode cX9_passDays 35 = .ok (.iload_n 1, 1) := by decide +kernel
theorem dX9_passDays_36 : decode cX9_passDays 36 = .ok (.if_icmp .ge 16, 3) := by decide +kernel
theorem dX9_passDays_39 : decode cX9_passDays 39 = .ok (.aload_n 0, 1) := by decide +kernel
theorem dX9_passDays_40 : decode cX9_passDays 40 = .ok (.getfield 10, 3) := by decide +kernel
theorem dX9_passDays_43 : decode cX9_passDays 43 = .ok (.invokevirtual 113, 3) := by decide +kernel
theorem dX9_passDays_46 : decode cX9_passDays 46 = .ok (.iinc 2 1, 3) := by decide +kernel
theorem dX9_passDays_49 : decode cX9_passDays 49 = .ok (.goto (-15), 3) := by decide +kernel
theorem dX9_passDays_52 : decode cX9_passDays 52 = .ok (.aload_n 0, 1) := by decide +kernel
theorem dX9_passDays_53 : decode cX9_passDays 53 = .ok (.getfield 10, 3) := by decide +kernel
theorem dX9_passDays_56 : decode cX9_passDays 56 = .ok (.getfield 91, 3) := by decide +kernel
theorem dX9_passDays_59 : decode cX9_passDays 59 = .ok (.ireturn, 1) := by decide +kernel
set_option maxRecDepth 20000 in
theorem ggX9_book_X9_accountAt : GoodIn wsX9_book wsX9_accountAt := goodIn_ca (goodIn_r _ [6, 7, 8, 9, 10, 11, 12, 13, 14, 15, 16, 17, 18, 19, 20, 21, 22, 23, 24, 25, 26, 27, 28, 29, 30, 31, 32, 33, 34, 57, 58, 59, 60, 61, 62, 63, 64, 65, 66, 67, 68] (by decide +kernel) (by decide +kernel)) (goodIn_sub (fun _ h => List.mem_cons_of_mem _ (List.mem_append_left _ (List.mem_append_right _ h))) (by decide +kernel))
set_option maxRecDepth 20000 in
theorem gX9_book_X9_accountAt : GoodIn wsX9_book (wsV RX9 31 RX9 yX9_accountAt wsX9_accountAt) := goodIn_app (goodIn_of _ (by decide +kernel)) ggX9_book_X9_accountAt
set_option maxRecDepth 20000 in
theorem ggX9_book_X9_requireAmount : GoodIn wsX9_book wsX9_requireAmount := goodIn_ca (goodIn_r _ [37, 38, 39, 40, 41, 42, 43, 5, 44] (by decide +kernel) (by decide +kernel)) (goodIn_sub (fun _ h => List.mem_cons_of_mem _ (List.mem_append_right _ h)) (by decide +kernel))
set_option maxRecDepth 20000 in
theorem gX9_book_X9_requireAmount : GoodIn wsX9_book (va_wsS RX9 116 yX9_requireAmount wsX9_requireAmount) := goodIn_app (goodIn_of _ (by decide +kernel)) ggX9_book_X9_requireAmount
theorem dX9_book_0 : decode cX9_book 0 = .ok (.aload_n 0, 1) := by decide +kernel
theorem dX9_book_1 : decode cX9_book 1 = .ok (.iload_n 1, 1) := by decide +kernel
theorem dX9_book_2 : decode cX9_book 2 = .ok (.invokevirtual 31, 3) := by decide +kernel
theorem dX9_book_5 : decode cX9_book 5 = .ok (.astore_n 3, 1) := by decide +kernel
theorem dX9_book_6 : decode cX9_book 6 = .ok (.iload_n 2, 1) := by decide +kernel
theorem dX9_book_7 : decode cX9_book 7 = .ok (.invokestatic 116, 3) := by decide +kernel
theorem dX9_book_10 : decode cX9_book 10 = .ok (.aload_n 3, 1) := by decide +kernel
theorem dX9_book_11 : decode cX9_book 11 = .ok (.dup, 1) := by decide +kernel
theorem dX9_book_12 : decode cX9_book 12 = .ok (.getfield 119, 3) := by decide +kernel
theorem dX9_book_15 : decode cX9_book 15 = .ok (.iload_n 2, 1) := by decide +kernel
theorem dX9_book_16 : decode cX9_book 16 = .ok (.i2l, 1) := by decide +kernel
theorem dX9_book_17 : decode cX9_book 17 = .ok (.ladd, 1) := by decide +kernel
theorem dX9_book_18 : decode cX9_book 18 = .ok (.putfield 119, 3) := by decide +kernel
theorem dX9_book_21 : decode cX9_book 21 = .ok (.aload_n 3, 1) := by decide +kernel
theorem dX9_book_22 : decode cX9_book 22 = .ok (.getfield 119, 3) := by decide +kernel
theorem dX9_book_25 : decode cX9_book 25 = .ok (.lreturn, 1) := by decide +kernel
set_option maxRecDepth 20000 in
theorem ggX9_schedule_X9_accountAt : GoodIn wsX9_schedule wsX9_accountAt := goodIn_ca (goodIn_r _ [13, 14, 15, 3, 16, 17, 18, 19, 20, 21, 22, 23, 24, 25, 26, 27, 28, 29, 30, 31, 32, 33, 34, 35, 36, 37, 38, 39, 40, 115, 116, 117, 118, 119, 120, 121, 122, 123, 131, 132, 133] (by decide +kernel) (by decide +kernel)) (goodIn_sub (fun _ h => List.mem_cons_of_mem _ (List.mem_append_left _ (List.mem_append_right _ h))) (by decide +kernel))
set_option maxRecDepth 20000 in
theorem gX9_schedule_X9_accountAt : GoodIn wsX9_schedule (wsV RX9 31 RX9 yX9_accountAt wsX9_accountAt) := goodIn_app (goodIn_of _ (by decide +kernel)) ggX9_schedule_X9_accountAt
set_option maxRecDepth 20000 in
theorem ggX9_schedule_X9_requireAmount : GoodIn wsX9_schedule wsX9_requireAmount := goodIn_ca (goodIn_r _ [43, 44, 45, 46, 47, 48, 49, 12, 50] (by decide +kernel) (by decide +kernel)) (goodIn_sub (fun _ h => List.mem_cons_of_mem _ (List.mem_append_right _ h)) (by decide +kernel))
set_option maxRecDepth 20000 in
theorem gX9_schedule_X9_requireAmount : GoodIn wsX9_schedule (va_wsS RX9 116 yX9_requireAmount wsX9_requireAmount) := goodIn_app (goodIn_of _ (by decide +kernel)) ggX9_schedule_X9_requireAmount
set_option maxRecDepth 20000 in
theorem ggX9_schedule_X9_requireWithin : GoodIn wsX9_schedule wsX9_requireWithin := goodIn_ca (goodIn_r _ [50, 44, 45] (by decide +kernel) (by decide +kernel)) (goodIn_sub (fun _ h => List.mem_cons_of_mem _ (List.mem_append_right _ h)) (by decide +kernel))
set_option maxRecDepth 20000 in
theorem gX9_schedule_X9_requireWithin : GoodIn wsX9_schedule (va_wsS RX9 20 yX9_requireWithin wsX9_requireWithin) := goodIn_app (goodIn_of _ (by decide +kernel)) ggX9_schedule_X9_requireWithin
set_option maxRecDepth 20000 in
theorem ggX9_schedule_Jx4a65c_size_8abf5 : GoodIn wsX9_schedule wsJx4a65c_size_8abf5 := goodIn_r _ [22, 23, 131, 132, 133] (by decide +kernel) (by decide +kernel)
set_option maxRecDepth 20000 in
theorem gX9_schedule_Jx4a65c_size_8abf5 : GoodIn wsX9_schedule (wsV RX9 73 RJx4a65c yJx4a65c_size_8abf5 wsJx4a65c_size_8abf5) := goodIn_app (goodIn_of _ (by decide +kernel)) ggX9_schedule_Jx4a65c_size_8abf5
set_option maxRecDepth 20000 in
theorem ggX9_schedule_X4_init : GoodIn wsX9_schedule wsX4_init := goodIn_r _ [53, 54, 55, 56, 57, 58, 59, 60, 61, 124, 125, 126, 127, 128, 129, 130] (by decide +kernel) (by decide +kernel)
set_option maxRecDepth 20000 in
theorem gX9_schedule_X4_init : GoodIn wsX9_schedule (wsX4_init) := ggX9_schedule_X4_init
set_option maxRecDepth 20000 in
theorem ggX9_schedule_Jx4a65c_add_9ea2d : GoodIn wsX9_schedule wsJx4a65c_add_9ea2d := goodIn_r _ [65, 66, 67, 40, 23, 68, 69, 70, 21, 71, 72, 73, 74, 75, 76, 77, 78, 79, 80, 81, 82, 83, 84, 85, 86, 87, 88, 89, 90, 91, 92, 93, 94, 95, 96, 97, 98, 99, 100, 101, 102, 103, 104, 105, 106, 107, 108, 109, 110, 111, 112, 113, 114, 131, 132, 133] (by decide +kernel) (by decide +kernel)
set_option maxRecDepth 20000 in
theorem gX9_schedule_Jx4a65c_add_9ea2d : GoodIn wsX9_schedule (wsV RX9 133 RJx4a65c yJx4a65c_add_9ea2d wsJx4a65c_add_9ea2d) := goodIn_app (goodIn_of _ (by decide +kernel)) ggX9_schedule_Jx4a65c_add_9ea2d
theorem dX9_schedule_0 : decode cX9_schedule 0 = .ok (.aload_n 0, 1) := by decide +kernel
theorem dX9_schedule_1 : decode cX9_schedule 1 = .ok (.iload_n 1, 1) := by decide +kernel
theorem dX9_schedule_2 : decode cX9_schedule 2 = .ok (.invokevirtual 31, 3) := by decide +kernel
theorem dX9_schedule_5 : decode cX9_schedule 5 = .ok (.astore 6, 2) := by decide +kernel
theorem dX9_schedule_7 : decode cX9_schedule 7 = .ok (.iload_n 2, 1) := by decide +kernel
theorem dX9_schedule_8 : decode cX9_schedule 8 = .ok (.invokestatic 116, 3) := by decide +kernel
theorem dX9_schedule_11 : decode cX9_schedule 11 = .ok (.iload_n 3, 1) := by decide +kernel
theorem dX9_schedule_12 : decode cX9_schedule 12 = .ok (.aload_n 0, 1) := by decide +kernel
theorem dX9_schedule_13 : decode cX9_schedule 13 = .ok (.getfield 10, 3) := by decide +kernel
theorem dX9_schedule_16 : decode cX9_schedule 16 = .ok (.getfield 91, 3) := by decide +kernel
theorem dX9_schedule_19 : decode cX9_schedule 19 = .ok (.sipush 450, 3) := by decide +kernel
theorem dX9_schedule_22 : decode cX9_schedule 22 = .ok (.invokestatic 20, 3) := by decide +kernel
theorem dX9_schedule_25 : decode cX9_schedule 25 = .ok (.iload 4, 2) := by decide +kernel
theorem dX9_schedule_27 : decode cX9_schedule 27 = .ok (.iconst 1, 1) := by decide +kernel
theorem dX9_schedule_28 : decode cX9_schedule 28 = .ok (.bipush 100, 2) := by decide +kernel
theorem dX9_schedule_30 : decode cX9_schedule 30 = .ok (.invokestatic 20, 3) := by decide +kernel
theorem dX9_schedule_33 : decode cX9_schedule 33 = .ok (.iload 5, 2) := by decide +kernel
theorem dX9_schedule_35 : decode cX9_schedule 35 = .ok (.iconst 1, 1) := by decide +kernel
theorem dX9_schedule_36 : decode cX9_schedule 36 = .ok (.bipush 30, 2) := by decide +kernel
theorem dX9_schedule_38 : decode cX9_schedule 38 = .ok (.invokestatic 20, 3) := by decide +kernel
theorem dX9_schedule_41 : decode cX9_schedule 41 = .ok (.aload_n 0, 1) := by decide +kernel
theorem dX9_schedule_42 : decode cX9_schedule 42 = .ok (.getfield 10, 3) := by decide +kernel
theorem dX9_schedule_45 : decode cX9_schedule 45 = .ok (.getfield 123, 3) := by decide +kernel
theorem dX9_schedule_48 : decode cX9_schedule 48 = .ok (.invokevirtual 73, 3) := by decide +kernel
theorem dX9_schedule_51 : decode cX9_schedule 51 = .ok (.bipush 20, 2) := by decide +kernel
theorem dX9_schedule_53 : decode cX9_schedule 53 = .ok (.if_icmp .lt 13, 3) := by decide +kernel
theorem dX9_schedule_56 : decode cX9_schedule 56 = .ok (.new 47, 3) := by decide +kernel
theorem dX9_schedule_59 : decode cX9_schedule 59 = .ok (.dup, 1) := by decide +kernel
theorem dX9_schedule_60 : decode cX9_schedule 60 = .ok (.ldc 126, 2) := by decide +kernel
theorem dX9_schedule_62 : decode cX9_schedule 62 = .ok (.invokespecial 51, 3) := by decide +kernel
theorem dX9_schedule_65 : decode cX9_schedule 65 = .ok (.athrow, 1) := by decide +kernel
theorem dX9_schedule_66 : decode cX9_schedule 66 = .ok (.aload_n 0, 1) := by decide +kernel
theorem dX9_schedule_67 : decode cX9_schedule 67 = .ok (.getfield 10, 3) := by decide +kernel
theorem dX9_schedule_70 : decode cX9_schedule 70 = .ok (.getfield 123, 3) := by decide +kernel
theorem dX9_schedule_73 : decode cX9_schedule 73 = .ok (.new 128, 3) := by decide +kernel
theorem dX9_schedule_76 : decode cX9_schedule 76 = .ok (.dup, 1) := by decide +kernel
theorem dX9_schedule_77 : decode cX9_schedule 77 = .ok (.aload 6, 2) := by decide +kernel
theorem dX9_schedule_79 : decode cX9_schedule 79 = .ok (.iload_n 2, 1) := by decide +kernel
theorem dX9_schedule_80 : decode cX9_schedule 80 = .ok (.iload_n 3, 1) := by decide +kernel
theorem dX9_schedule_81 : decode cX9_schedule 81 = .ok (.iload 4, 2) := by decide +kernel
theorem dX9_schedule_83 : decode cX9_schedule 83 = .ok (.iload 5, 2) := by decide +kernel
theorem dX9_schedule_85 : decode cX9_schedule 85 = .ok (.invokespecial 130, 3) := by decide +kernel
theorem dX9_schedule_88 : decode cX9_schedule 88 = .ok (.invokevirtual 133, 3) := by decide +kernel
theorem dX9_schedule_91 : decode cX9_schedule 91 = .ok (.pop, 1) := by decide +kernel
theorem dX9_schedule_92 : decode cX9_schedule 92 = .ok (.aload_n 0, 1) := by decide +kernel
theorem dX9_schedule_93 : decode cX9_schedule 93 = .ok (.getfield 10, 3) := by decide +kernel
theorem dX9_schedule_96 : decode cX9_schedule 96 = .ok (.getfield 123, 3) := by decide +kernel
theorem dX9_schedule_99 : decode cX9_schedule 99 = .ok (.invokevirtual 73, 3) := by decide +kernel
theorem dX9_schedule_102 : decode cX9_schedule 102 = .ok (.iconst 1, 1) := by decide +kernel
theorem dX9_schedule_103 : decode cX9_schedule 103 = .ok (.isub, 1) := by decide +kernel
theorem dX9_schedule_104 : decode cX9_schedule 104 = .ok (.ireturn, 1) := by decide +kernel
set_option maxRecDepth 20000 in
theorem ggX9_cancel_X9_flowAt : GoodIn wsX9_cancel wsX9_flowAt := goodIn_ca (goodIn_r _ [6, 7, 8, 9, 10, 11, 12, 13, 14, 15, 16, 17, 18, 19, 20, 21, 22, 23, 24, 25, 26, 27, 28, 29, 30, 31, 32, 33, 34, 42, 43, 44, 45, 46, 47, 48, 49, 50, 51, 52, 53] (by decide +kernel) (by decide +kernel)) (goodIn_sub (fun _ h => List.mem_cons_of_mem _ (List.mem_append_right _ h)) (by decide +kernel))
set_option maxRecDepth 20000 in
theorem gX9_cancel_X9_flowAt : GoodIn wsX9_cancel (wsV RX9 137 RX9 yX9_flowAt wsX9_flowAt) := goodIn_app (goodIn_of _ (by decide +kernel)) ggX9_cancel_X9_flowAt
theorem dX9_cancel_0 : decode cX9_cancel 0 = .ok (.aload_n 0, 1) := by decide +kernel
theorem dX9_cancel_1 : decode cX9_cancel 1 = .ok (.iload_n 1, 1) := by decide +kernel
theorem dX9_cancel_2 : decode cX9_cancel 2 = .ok (.invokevirtual 137, 3) := by decide +kernel
theorem dX9_cancel_5 : decode cX9_cancel 5 = .ok (.astore_n 2, 1) := by decide +kernel
theorem dX9_cancel_6 : decode cX9_cancel 6 = .ok (.aload_n 2, 1) := by decide +kernel
theorem dX9_cancel_7 : decode cX9_cancel 7 = .ok (.getfield 141, 3) := by decide +kernel
theorem dX9_cancel_10 : decode cX9_cancel 10 = .ok (.istore_n 3, 1) := by decide +kernel
theorem dX9_cancel_11 : decode cX9_cancel 11 = .ok (.aload_n 2, 1) := by decide +kernel
theorem dX9_cancel_12 : decode cX9_cancel 12 = .ok (.iconst 0, 1) := by decide +kernel
theorem dX9_cancel_13 : decode cX9_cancel 13 = .ok (.putfield 141, 3) := by decide +kernel
theorem dX9_cancel_16 : decode cX9_cancel 16 = .ok (.iload_n 3, 1) := by decide +kernel
theorem dX9_cancel_17 : decode cX9_cancel 17 = .ok (.ireturn, 1) := by decide +kernel
set_option maxRecDepth 20000 in
theorem ggX9_timesLeft_X9_flowAt : GoodIn wsX9_timesLeft wsX9_flowAt := goodIn_ca (goodIn_r _ [6, 7, 8, 9, 10, 11, 12, 13, 14, 15, 16, 17, 18, 19, 20, 21, 22, 23, 24, 25, 26, 27, 28, 29, 30, 31, 32, 33, 34, 42, 43, 44, 45, 46, 47, 48, 49, 50, 51, 52, 53] (by decide +kernel) (by decide +kernel)) (goodIn_sub (fun _ h => List.mem_cons_of_mem _ (List.mem_append_right _ h)) (by decide +kernel))
set_option maxRecDepth 20000 in
theorem gX9_timesLeft_X9_flowAt : GoodIn wsX9_timesLeft (wsV RX9 137 RX9 yX9_flowAt wsX9_flowAt) := goodIn_app (goodIn_of _ (by decide +kernel)) ggX9_timesLeft_X9_flowAt
theorem dX9_timesLeft_0 : decode cX9_timesLeft 0 = .ok (.aload_n 0, 1) := by decide +kernel
theorem dX9_timesLeft_1 : decode cX9_timesLeft 1 = .ok (.iload_n 1, 1) := by decide +kernel
theorem dX9_timesLeft_2 : decode cX9_timesLeft 2 = .ok (.invokevirtual 137, 3) := by decide +kernel
theorem dX9_timesLeft_5 : decode cX9_timesLeft 5 = .ok (.getfield 141, 3) := by decide +kernel
theorem dX9_timesLeft_8 : decode cX9_timesLeft 8 = .ok (.ireturn, 1) := by decide +kernel
set_option maxRecDepth 20000 in
theorem ggX9_scheduled_X9_accountAt : GoodIn wsX9_scheduled wsX9_accountAt := goodIn_ca (goodIn_r _ [7, 8, 9, 1, 10, 11, 12, 13, 14, 15, 16, 17, 18, 19, 20, 21, 22, 23, 24, 25, 26, 27, 28, 29, 30, 31, 32, 33, 34, 70, 71, 72, 73, 74, 75, 76, 77, 78, 79, 80, 81] (by decide +kernel) (by decide +kernel)) (goodIn_sub (fun _ h => List.mem_cons_of_mem _ (List.mem_append_left _ (List.mem_append_right _ h))) (by decide +kernel))
set_option maxRecDepth 20000 in
theorem gX9_scheduled_X9_accountAt : GoodIn wsX9_scheduled (wsV RX9 31 RX9 yX9_accountAt wsX9_accountAt) := goodIn_app (goodIn_of _ (by decide +kernel)) ggX9_scheduled_X9_accountAt
set_option maxRecDepth 20000 in
theorem ggX9_scheduled_X9_requireWithin : GoodIn wsX9_scheduled wsX9_requireWithin := goodIn_ca (goodIn_r _ [37, 38, 39] (by decide +kernel) (by decide +kernel)) (goodIn_sub (fun _ h => List.mem_cons_of_mem _ (List.mem_append_right _ h)) (by decide +kernel))
set_option maxRecDepth 20000 in
theorem gX9_scheduled_X9_requireWithin : GoodIn wsX9_scheduled (va_wsS RX9 20 yX9_requireWithin wsX9_requireWithin) := goodIn_app (goodIn_of _ (by decide +kernel)) ggX9_scheduled_X9_requireWithin
set_option maxRecDepth 20000 in
theorem ggX9_scheduled_X3_sumOfFlows : GoodIn wsX9_scheduled wsX3_sumOfFlows := goodIn_r _ [44, 45, 46, 47, 48, 49, 13, 14, 15, 16, 17, 50, 19, 20, 21, 22, 23, 24, 25, 26, 27, 28, 29, 30, 31, 32, 33, 34, 51, 52, 53, 54, 55, 56, 57, 58, 59, 60, 61, 62, 63, 64, 65, 66, 67, 68, 69, 71, 72, 73, 74, 75, 76, 77, 78, 82, 83, 84, 85, 86, 87, 88, 79, 80, 81, 89] (by decide +kernel) (by decide +kernel)
set_option maxRecDepth 20000 in
theorem gX9_scheduled_X3_sumOfFlows : GoodIn wsX9_scheduled (wsV RX9 144 RX3 yX3_sumOfFlows wsX3_sumOfFlows) := goodIn_app (goodIn_of _ (by decide +kernel)) ggX9_scheduled_X3_sumOfFlows
theorem dX9_scheduled_0 : decode cX9_scheduled 0 = .ok (.aload_n 0, 1) := by decide +kernel
theorem dX9_scheduled_1 : decode cX9_scheduled 1 = .ok (.iload_n 1, 1) := by decide +kernel
theorem dX9_scheduled_2 : decode cX9_scheduled 2 = .ok (.invokevirtual 31, 3) := by decide +kernel
theorem dX9_scheduled_5 : decode cX9_scheduled 5 = .ok (.astore 4, 2) := by decide +kernel
theorem dX9_scheduled_7 : decode cX9_scheduled 7 = .ok (.iload_n 2, 1) := by decide +kernel
theorem dX9_scheduled_8 : decode cX9_scheduled 8 = .ok (.aload_n 0, 1) := by decide +kernel
theorem dX9_scheduled_9 : decode cX9_scheduled 9 = .ok (.getfield 10, 3) := by decide +kernel
theorem dX9_scheduled_12 : decode cX9_scheduled 12 = .ok (.getfield 91, 3) := by decide +kernel
theorem dX9_scheduled_15 : decode cX9_scheduled 15 = .ok (.sipush 450, 3) := by decide +kernel
theorem dX9_scheduled_18 : decode cX9_scheduled 18 = .ok (.invokestatic 20, 3) := by decide +kernel
theorem dX9_scheduled_21 : decode cX9_scheduled 21 = .ok (.iload_n 3, 1) := by decide +kernel
theorem dX9_scheduled_22 : decode cX9_scheduled 22 = .ok (.iload_n 2, 1) := by decide +kernel
theorem dX9_scheduled_23 : decode cX9_scheduled 23 = .ok (.sipush 450, 3) := by decide +kernel
theorem dX9_scheduled_26 : decode cX9_scheduled 26 = .ok (.invokestatic 20, 3) := by decide +kernel
theorem dX9_scheduled_29 : decode cX9_scheduled 29 = .ok (.aload_n 0, 1) := by decide +kernel
theorem dX9_scheduled_30 : decode cX9_scheduled 30 = .ok (.getfield 10, 3) := by decide +kernel
theorem dX9_scheduled_33 : decode cX9_scheduled 33 = .ok (.aload 4, 2) := by decide +kernel
theorem dX9_scheduled_35 : decode cX9_scheduled 35 = .ok (.iload_n 2, 1) := by decide +kernel
theorem dX9_scheduled_36 : decode cX9_scheduled 36 = .ok (.iload_n 3, 1) := by decide +kernel
theorem dX9_scheduled_37 : decode cX9_scheduled 37 = .ok (.invokevirtual 144, 3) := by decide +kernel
theorem dX9_scheduled_40 : decode cX9_scheduled 40 = .ok (.lreturn, 1) := by decide +kernel
set_option maxRecDepth 20000 in
theorem ggX9_accounts_Jx4a65c_size_8abf5 : GoodIn wsX9_accounts wsJx4a65c_size_8abf5 := goodIn_r _ [7, 8, 18, 19, 20] (by decide +kernel) (by decide +kernel)
set_option maxRecDepth 20000 in
theorem gX9_accounts_Jx4a65c_size_8abf5 : GoodIn wsX9_accounts (wsV RX9 73 RJx4a65c yJx4a65c_size_8abf5 wsJx4a65c_size_8abf5) := goodIn_app (goodIn_of _ (by decide +kernel)) ggX9_accounts_Jx4a65c_size_8abf5
theorem dX9_accounts_0 : decode cX9_accounts 0 = .ok (.aload_n 0, 1) := by decide +kernel
theorem dX9_accounts_1 : decode cX9_accounts 1 = .ok (.getfield 10, 3) := by decide +kernel
theorem dX9_accounts_4 : decode cX9_accounts 4 = .ok (.getfield 148, 3) := by decide +kernel
theorem dX9_accounts_7 : decode cX9_accounts 7 = .ok (.invokevirtual 73, 3) := by decide +kernel
theorem dX9_accounts_10 : decode cX9_accounts 10 = .ok (.ireturn, 1) := by decide +kernel
set_option maxRecDepth 20000 in
theorem ggX9_poolOf_X9_accountAt : GoodIn wsX9_poolOf wsX9_accountAt := goodIn_ca (goodIn_r _ [7, 8, 9, 10, 11, 12, 13, 14, 15, 16, 17, 18, 19, 20, 21, 22, 23, 24, 25, 26, 27, 28, 29, 30, 31, 32, 33, 34, 35, 53, 54, 55, 56, 57, 58, 59, 60, 61, 62, 63, 64] (by decide +kernel) (by decide +kernel)) (goodIn_sub (fun _ h => List.mem_cons_of_mem _ (List.mem_append_right _ h)) (by decide +kernel))
set_option maxRecDepth 20000 in
theorem gX9_poolOf_X9_accountAt : GoodIn wsX9_poolOf (wsV RX9 31 RX9 yX9_accountAt wsX9_accountAt) := goodIn_app (goodIn_of _ (by decide +kernel)) ggX9_poolOf_X9_accountAt
theorem dX9_poolOf_0 : decode cX9_poolOf 0 = .ok (.aload_n 0, 1) := by decide +kernel
theorem dX9_poolOf_1 : decode cX9_poolOf 1 = .ok (.iload_n 1, 1) := by decide +kernel
theorem dX9_poolOf_2 : decode cX9_poolOf 2 = .ok (.invokevirtual 31, 3) := by decide +kernel
theorem dX9_poolOf_5 : decode cX9_poolOf 5 = .ok (.getfield 151, 3) := by decide +kernel
theorem dX9_poolOf_8 : decode cX9_poolOf 8 = .ok (.getfield 155, 3) := by decide +kernel
theorem dX9_poolOf_11 : decode cX9_poolOf 11 = .ok (.ireturn, 1) := by decide +kernel
set_option maxRecDepth 20000 in
theorem ggX9_balance_X9_accountAt : GoodIn wsX9_balance wsX9_accountAt := goodIn_ca (goodIn_r _ [6, 7, 8, 9, 10, 11, 12, 13, 14, 15, 16, 17, 18, 19, 20, 21, 22, 23, 24, 25, 26, 27, 28, 29, 30, 31, 32, 33, 34, 47, 48, 49, 50, 51, 52, 53, 54, 55, 56, 57, 58] (by decide +kernel) (by decide +kernel)) (goodIn_sub (fun _ h => List.mem_cons_of_mem _ (List.mem_append_right _ h)) (by decide +kernel))
set_option maxRecDepth 20000 in
theorem gX9_balance_X9_accountAt : GoodIn wsX9_balance (wsV RX9 31 RX9 yX9_accountAt wsX9_accountAt) := goodIn_app (goodIn_of _ (by decide +kernel)) ggX9_balance_X9_accountAt
theorem dX9_balance_0 : decode cX9_balance 0 = .ok (.aload_n 0, 1) := by decide +kernel
theorem dX9_balance_1 : decode cX9_balance 1 = .ok (.iload_n 1, 1) := by decide +kernel
theorem dX9_balance_2 : decode cX9_balance 2 = .ok (.invokevirtual 31, 3) := by decide +kernel
theorem dX9_balance_5 : decode cX9_balance 5 = .ok (.getfield 119, 3) := by decide +kernel
theorem dX9_balance_8 : decode cX9_balance 8 = .ok (.lreturn, 1) := by decide +kernel
set_option maxRecDepth 20000 in
theorem ggX9_total_X9_accountAt : GoodIn wsX9_total wsX9_accountAt := goodIn_ca (goodIn_r _ [5, 6, 7, 8, 9, 10, 11, 12, 13, 14, 15, 16, 17, 18, 19, 20, 21, 22, 23, 24, 25, 26, 27, 28, 29, 30, 31, 32, 33, 43, 44, 45, 46, 47, 48, 49, 50, 51, 52, 53, 54] (by decide +kernel) (by decide +kernel)) (goodIn_sub (fun _ h => List.mem_cons_of_mem _ (List.mem_append_right _ h)) (by decide +kernel))
set_option maxRecDepth 20000 in
theorem gX9_total_X9_accountAt : GoodIn wsX9_total (wsV RX9 31 RX9 yX9_accountAt wsX9_accountAt) := goodIn_app (goodIn_of _ (by decide +kernel)) ggX9_total_X9_accountAt
set_option maxRecDepth 20000 in
theorem ggX9_total_X8_sumFrom : GoodIn wsX9_total wsX8_sumFrom := goodIn_r _ [36, 37, 38, 39, 40, 12, 13, 14, 15, 16, 41, 18, 19, 20, 21, 22, 23, 24, 25, 26, 27, 28, 29, 30, 31, 32, 33, 42, 34, 35, 55, 56, 57, 58, 59, 60, 61, 62, 63, 64, 65, 66, 52, 53, 54] (by decide +kernel) (by decide +kernel)
set_option maxRecDepth 20000 in
theorem gX9_total_X8_sumFrom_n160 : GoodIn wsX9_total (wsX8_sumFrom) := ggX9_total_X8_sumFrom
theorem dX9_total_0 : decode cX9_total 0 = .ok (.aload_n 0, 1) := by decide +kernel
theorem dX9_total_1 : decode cX9_total 1 = .ok (.iload_n 1, 1) := by decide +kernel
theorem dX9_total_2 : decode cX9_total 2 = .ok (.invokevirtual 31, 3) := by decide +kernel
theorem dX9_total_5 : decode cX9_total 5 = .ok (.iconst 0, 1) := by decide +kernel
theorem dX9_total_6 : decode cX9_total 6 = .ok (.invokestatic 160, 3) := by decide +kernel
theorem dX9_total_9 : decode cX9_total 9 = .ok (.lreturn, 1) := by decide +kernel
set_option maxRecDepth 20000 in
theorem ggX9_exposure_X9_bankAt : GoodIn wsX9_exposure wsX9_bankAt := goodIn_ca (goodIn_r _ [7, 8, 9, 1, 10, 11, 12, 13, 14, 15, 16, 17, 18, 19, 20, 21, 22, 23, 24, 25, 26, 27, 28, 29, 30, 31, 32, 33, 34, 53, 57, 58, 59, 60, 61, 62, 63, 64, 65, 66, 67] (by decide +kernel) (by decide +kernel)) (goodIn_sub (fun _ h => List.mem_cons_of_mem _ (List.mem_append_right _ h)) (by decide +kernel))
set_option maxRecDepth 20000 in
theorem gX9_exposure_X9_bankAt : GoodIn wsX9_exposure (wsV RX9 16 RX9 yX9_bankAt wsX9_bankAt) := goodIn_app (goodIn_of _ (by decide +kernel)) ggX9_exposure_X9_bankAt
set_option maxRecDepth 20000 in
theorem ggX9_exposure_X3_measureBanks : GoodIn wsX9_exposure wsX3_measureBanks := goodIn_r _ [39, 40, 41, 42, 43, 44, 45, 46, 47, 48, 49, 50, 51, 13, 14, 15, 16, 17, 52, 19, 20, 21, 22, 23, 24, 25, 26, 27, 28, 29, 30, 31, 32, 33, 34, 57, 58, 59, 60, 61, 62, 63, 64, 54, 55, 56, 68, 69, 70, 71, 72, 73, 74, 75, 76, 77, 78, 79, 65, 66, 67] (by decide +kernel) (by decide +kernel)
set_option maxRecDepth 20000 in
theorem gX9_exposure_X3_measureBanks : GoodIn wsX9_exposure (wsV RX9 166 RX3 yX3_measureBanks wsX3_measureBanks) := goodIn_app (goodIn_of _ (by decide +kernel)) ggX9_exposure_X3_measureBanks
theorem dX9_exposure_0 : decode cX9_exposure 0 = .ok (.aload_n 0, 1) := by decide +kernel
theorem dX9_exposure_1 : decode cX9_exposure 1 = .ok (.iload_n 1, 1) := by decide +kernel
theorem dX9_exposure_2 : decode cX9_exposure 2 = .ok (.invokevirtual 16, 3) := by decide +kernel
theorem dX9_exposure_5 : decode cX9_exposure 5 = .ok (.astore_n 2, 1) := by decide +kernel
theorem dX9_exposure_6 : decode cX9_exposure 6 = .ok (.aload_n 0, 1) := by decide +kernel
theorem dX9_exposure_7 : decode cX9_exposure 7 = .ok (.getfield 10, 3) := by decide +kernel
theorem dX9_exposure_10 : decode cX9_exposure 10 = .ok (.invokevirtual 166, 3) := by decide +kernel
theorem dX9_exposure_13 : decode cX9_exposure 13 = .ok (.aload_n 2, 1) := by decide +kernel
theorem dX9_exposure_14 : decode cX9_exposure 14 = .ok (.getfield 169, 3) := by decide +kernel
theorem dX9_exposure_17 : decode cX9_exposure 17 = .ok (.lreturn, 1) := by decide +kernel
set_option maxRecDepth 20000 in
theorem ggX9_drawn_X9_lineAt : GoodIn wsX9_drawn wsX9_lineAt := goodIn_ca (goodIn_r _ [6, 7, 8, 9, 10, 11, 12, 13, 14, 15, 16, 17, 18, 19, 20, 21, 22, 23, 24, 25, 26, 27, 28, 29, 30, 31, 32, 33, 34, 44, 45, 46, 47, 48, 49, 50, 51, 52, 53, 54, 55] (by decide +kernel) (by decide +kernel)) (goodIn_sub (fun _ h => List.mem_cons_of_mem _ (List.mem_append_right _ h)) (by decide +kernel))
set_option maxRecDepth 20000 in
theorem gX9_drawn_X9_lineAt : GoodIn wsX9_drawn (wsV RX9 172 RX9 yX9_lineAt wsX9_lineAt) := goodIn_app (goodIn_of _ (by decide +kernel)) ggX9_drawn_X9_lineAt
theorem dX9_drawn_0 : decode cX9_drawn 0 = .ok (.aload_n 0, 1) := by decide +kernel
theorem dX9_drawn_1 : decode cX9_drawn 1 = .ok (.iload_n 1, 1) := by decide +kernel
theorem dX9_drawn_2 : decode cX9_drawn 2 = .ok (.invokevirtual 172, 3) := by decide +kernel
theorem dX9_drawn_5 : decode cX9_drawn 5 = .ok (.getfield 176, 3) := by decide +kernel
theorem dX9_drawn_8 : decode cX9_drawn 8 = .ok (.l2i, 1) := by decide +kernel
theorem dX9_drawn_9 : decode cX9_drawn 9 = .ok (.ireturn, 1) := by decide +kernel
set_option maxRecDepth 20000 in
theorem ggX9_costOf_X9_lineAt : GoodIn wsX9_costOf wsX9_lineAt := goodIn_ca (goodIn_r _ [6, 7, 8, 9, 10, 11, 12, 13, 14, 15, 16, 17, 18, 19, 20, 21, 22, 23, 24, 25, 26, 27, 28, 29, 30, 31, 32, 33, 34, 44, 45, 46, 47, 48, 49, 50, 51, 52, 53, 54, 55] (by decide +kernel) (by decide +kernel)) (goodIn_sub (fun _ h => List.mem_cons_of_mem _ (List.mem_append_right _ h)) (by decide +kernel))
set_option maxRecDepth 20000 in
theorem gX9_costOf_X9_lineAt : GoodIn wsX9_costOf (wsV RX9 172 RX9 yX9_lineAt wsX9_lineAt) := goodIn_app (goodIn_of _ (by decide +kernel)) ggX9_costOf_X9_lineAt
theorem dX9_costOf_0 : decode cX9_costOf 0 = .ok (.aload_n 0, 1) := by decide +kernel
theorem dX9_costOf_1 : decode cX9_costOf 1 = .ok (.iload_n 1, 1) := by decide +kernel
theorem dX9_costOf_2 : decode cX9_costOf 2 = .ok (.invokevirtual 172, 3) := by decide +kernel
theorem dX9_costOf_5 : decode cX9_costOf 5 = .ok (.getfield 181, 3) := by decide +kernel
theorem dX9_costOf_8 : decode cX9_costOf 8 = .ok (.lreturn, 1) := by decide +kernel
set_option maxRecDepth 20000 in
theorem ggX9_interestOf_X9_accountAt : GoodIn wsX9_interestOf wsX9_accountAt := goodIn_ca (goodIn_r _ [6, 7, 8, 9, 10, 11, 12, 13, 14, 15, 16, 17, 18, 19, 20, 21, 22, 23, 24, 25, 26, 27, 28, 29, 30, 31, 32, 33, 34, 47, 48, 49, 50, 51, 52, 53, 54, 55, 56, 57, 58] (by decide +kernel) (by decide +kernel)) (goodIn_sub (fun _ h => List.mem_cons_of_mem _ (List.mem_append_right _ h)) (by decide +kernel))
set_option maxRecDepth 20000 in
theorem gX9_interestOf_X9_accountAt : GoodIn wsX9_interestOf (wsV RX9 31 RX9 yX9_accountAt wsX9_accountAt) := goodIn_app (goodIn_of _ (by decide +kernel)) ggX9_interestOf_X9_accountAt
theorem dX9_interestOf_0 : decode cX9_interestOf 0 = .ok (.aload_n 0, 1) := by decide +kernel
theorem dX9_interestOf_1 : decode cX9_interestOf 1 = .ok (.iload_n 1, 1) := by decide +kernel
theorem dX9_interestOf_2 : decode cX9_interestOf 2 = .ok (.invokevirtual 31, 3) := by decide +kernel
theorem dX9_interestOf_5 : decode cX9_interestOf 5 = .ok (.getfield 184, 3) := by decide +kernel
theorem dX9_interestOf_8 : decode cX9_interestOf 8 = .ok (.lreturn, 1) := by decide +kernel
set_option maxRecDepth 20000 in
theorem ggX9_poolInterest_X9_accountAt : GoodIn wsX9_poolInterest wsX9_accountAt := goodIn_ca (goodIn_r _ [9, 10, 11, 12, 13, 14, 15, 16, 17, 18, 19, 20, 21, 22, 23, 24, 25, 26, 27, 28, 29, 30, 31, 32, 33, 34, 35, 36, 37, 71, 72, 73, 74, 75, 76, 77, 78, 79, 80, 81, 82] (by decide +kernel) (by decide +kernel)) (goodIn_sub (fun _ h => List.mem_cons_of_mem _ (List.mem_append_left _ (List.mem_append_right _ h))) (by decide +kernel))
set_option maxRecDepth 20000 in
theorem gX9_poolInterest_X9_accountAt : GoodIn wsX9_poolInterest (wsV RX9 31 RX9 yX9_accountAt wsX9_accountAt) := goodIn_app (goodIn_of _ (by decide +kernel)) ggX9_poolInterest_X9_accountAt
set_option maxRecDepth 20000 in
theorem ggX9_poolInterest_X9_requireTop : GoodIn wsX9_poolInterest wsX9_requireTop := goodIn_ca (goodIn_r _ [40, 41, 42, 43, 44, 45, 46, 47, 48, 49, 50, 51, 52, 53, 54, 55] (by decide +kernel) (by decide +kernel)) (goodIn_sub (fun _ h => List.mem_cons_of_mem _ (List.mem_append_right _ h)) (by decide +kernel))
set_option maxRecDepth 20000 in
theorem gX9_poolInterest_X9_requireTop : GoodIn wsX9_poolInterest (va_wsS RX9 65 yX9_requireTop wsX9_requireTop) := goodIn_app (goodIn_of _ (by decide +kernel)) ggX9_poolInterest_X9_requireTop
theorem dX9_poolInterest_0 : decode cX9_poolInterest 0 = .ok (.aload_n 0, 1) := by decide +kernel
theorem dX9_poolInterest_1 : decode cX9_poolInterest 1 = .ok (.iload_n 1, 1) := by decide +kernel
theorem dX9_poolInterest_2 : decode cX9_poolInterest 2 = .ok (.invokevirtual 31, 3) := by decide +kernel
theorem dX9_poolInterest_5 : decode cX9_poolInterest 5 = .ok (.astore_n 2, 1) := by decide +kernel
theorem dX9_poolInterest_6 : decode cX9_poolInterest 6 = .ok (.aload_n 2, 1) := by decide +kernel
theorem dX9_poolInterest_7 : decode cX9_poolInterest 7 = .ok (.invokestatic 65, 3) := by decide +kernel
theorem dX9_poolInterest_10 : decode cX9_poolInterest 10 = .ok (.aload_n 2, 1) := by decide +kernel
theorem dX9_poolInterest_11 : decode cX9_poolInterest 11 = .ok (.getfield 151, 3) := by decide +kernel
theorem dX9_poolInterest_14 : decode cX9_poolInterest 14 = .ok (.getfield 187, 3) := by decide +kernel
theorem dX9_poolInterest_17 : decode cX9_poolInterest 17 = .ok (.getfield 191, 3) := by decide +kernel
theorem dX9_poolInterest_20 : decode cX9_poolInterest 20 = .ok (.aload_n 2, 1) := by decide +kernel
theorem dX9_poolInterest_21 : decode cX9_poolInterest 21 = .ok (.getfield 151, 3) := by decide +kernel
theorem dX9_poolInterest_24 : decode cX9_poolInterest 24 = .ok (.getfield 196, 3) := by decide +kernel
theorem dX9_poolInterest_27 : decode cX9_poolInterest 27 = .ok (.getfield 191, 3) := by decide +kernel
theorem dX9_poolInterest_30 : decode cX9_poolInterest 30 = .ok (.lsub, 1) := by decide +kernel
theorem dX9_poolInterest_31 : decode cX9_poolInterest 31 = .ok (.lreturn, 1) := by decide +kernel
set_option maxRecDepth 20000 in
theorem ggX9_afterSweep_X9_accountAt : GoodIn wsX9_afterSweep wsX9_accountAt := goodIn_ca (goodIn_r _ [5, 6, 7, 8, 9, 10, 11, 12, 13, 14, 15, 16, 17, 18, 19, 20, 21, 22, 23, 24, 25, 26, 27, 28, 29, 30, 31, 32, 33, 74, 75, 76, 77, 78, 79, 80, 81, 82, 83, 84, 85] (by decide +kernel) (by decide +kernel)) (goodIn_sub (fun _ h => List.mem_cons_of_mem _ (List.mem_append_right _ h)) (by decide +kernel))
set_option maxRecDepth 20000 in
theorem gX9_afterSweep_X9_accountAt : GoodIn wsX9_afterSweep (wsV RX9 31 RX9 yX9_accountAt wsX9_accountAt) := goodIn_app (goodIn_of _ (by decide +kernel)) ggX9_afterSweep_X9_accountAt
set_option maxRecDepth 20000 in
theorem ggX9_afterSweep_X8_sweptCash : GoodIn wsX9_afterSweep wsX8_sweptCash := goodIn_r _ [37, 38, 39, 36, 40, 41, 42, 43, 44, 45, 46, 47, 48, 49, 50, 51, 52, 53, 54, 55, 56, 12, 13, 14, 15, 16, 57, 18, 19, 20, 21, 22, 23, 24, 25, 26, 27, 28, 29, 30, 31, 32, 33, 58, 59, 60, 61, 62, 63, 64, 65, 66, 67, 68, 69, 70, 71, 72, 73, 86, 87, 88, 89, 90, 91, 92, 93, 94, 95, 96, 97, 83, 84, 85] (by decide +kernel) (by decide +kernel)
set_option maxRecDepth 20000 in
theorem gX9_afterSweep_X8_sweptCash : GoodIn wsX9_afterSweep (va_wsS RX9 199 yX8_sweptCash wsX8_sweptCash) := goodIn_app (goodIn_of _ (by decide +kernel)) ggX9_afterSweep_X8_sweptCash
theorem dX9_afterSweep_0 : decode cX9_afterSweep 0 = .ok (.aload_n 0, 1) := by decide +kernel
theorem dX9_afterSweep_1 : decode cX9_afterSweep 1 = .ok (.iload_n 1, 1) := by decide +kernel
theorem dX9_afterSweep_2 : decode cX9_afterSweep 2 = .ok (.invokevirtual 31, 3) := by decide +kernel
theorem dX9_afterSweep_5 : decode cX9_afterSweep 5 = .ok (.invokestatic 199, 3) := by decide +kernel
theorem dX9_afterSweep_8 : decode cX9_afterSweep 8 = .ok (.lreturn, 1) := by decide +kernel
set_option maxRecDepth 20000 in
theorem ggX9_afterSweepByMoves_X9_accountAt : GoodIn wsX9_afterSweepByMoves wsX9_accountAt := goodIn_ca (goodIn_r _ [7, 8, 9, 1, 10, 11, 12, 13, 14, 15, 16, 17, 18, 19, 20, 21, 22, 23, 24, 25, 26, 27, 28, 29, 30, 31, 32, 33, 34, 166, 179, 180, 181, 182, 183, 184, 185, 186, 187, 188, 189] (by decide +kernel) (by decide +kernel)) (goodIn_sub (fun _ h => List.mem_cons_of_mem _ (List.mem_append_right _ h)) (by decide +kernel))
set_option maxRecDepth 20000 in
theorem gX9_afterSweepByMoves_X9_accountAt : GoodIn wsX9_afterSweepByMoves (wsV RX9 31 RX9 yX9_accountAt wsX9_accountAt) := goodIn_app (goodIn_of _ (by decide +kernel)) ggX9_afterSweepByMoves_X9_accountAt
set_option maxRecDepth 20000 in
theorem ggX9_afterSweepByMoves_X3_keep : GoodIn wsX9_afterSweepByMoves wsX3_keep := goodIn_r _ [39, 40, 41, 42, 43, 44, 45, 46, 47, 48, 49, 50, 13, 14, 15, 16, 17, 51, 19, 20, 21, 22, 23, 24, 25, 26, 27, 28, 29, 30, 31, 32, 33, 34, 52, 53, 54, 55, 56, 57, 58, 59, 60, 61, 62, 63, 64, 65, 66, 67, 68, 69, 70, 71, 72, 73, 74, 75, 76, 77, 78, 79, 80, 81, 82, 83, 84, 85, 86, 87, 88, 89, 90, 91, 92, 93, 94, 95, 96, 97, 98, 99, 100, 101, 102, 179, 180, 181, 182, 183, 184, 185, 186, 167, 168, 169, 170, 171, 172, 173, 174, 175, 176, 177, 178, 187, 188, 189, 190, 191, 192, 193, 194, 195, 196, 197, 198, 199, 200, 201, 202, 203, 204, 205, 206, 207, 208, 209, 210, 211, 212, 213, 214, 215, 216, 217, 218, 219, 220] (by decide +kernel) (by decide +kernel)
set_option maxRecDepth 20000 in
theorem gX9_afterSweepByMoves_X3_keep : GoodIn wsX9_afterSweepByMoves (wsV RX9 203 RX3 yX3_keep wsX3_keep) := goodIn_app (goodIn_of _ (by decide +kernel)) ggX9_afterSweepByMoves_X3_keep
set_option maxRecDepth 20000 in
theorem ggX9_afterSweepByMoves_X3_sweepPools : GoodIn wsX9_afterSweepByMoves wsX3_sweepPools := goodIn_r _ [106, 44, 43, 50, 13, 14, 15, 16, 17, 51, 19, 20, 21, 22, 23, 24, 25, 26, 27, 28, 29, 30, 31, 32, 33, 34, 107, 108, 109, 110, 111, 112, 113, 114, 115, 116, 117, 118, 119, 120, 121, 122, 123, 124, 125, 126, 55, 127, 128, 129, 130, 131, 132, 133, 134, 135, 136, 137, 138, 139, 140, 141, 179, 180, 181, 182, 183, 184, 185, 186, 187, 188, 189, 167, 168, 169, 170, 171, 172, 173, 174, 175, 176, 177, 178] (by decide +kernel) (by decide +kernel)
set_option maxRecDepth 20000 in
theorem gX9_afterSweepByMoves_X3_sweepPools : GoodIn wsX9_afterSweepByMoves (wsV RX9 206 RX3 yX3_sweepPools wsX3_sweepPools) := goodIn_app (goodIn_of _ (by decide +kernel)) ggX9_afterSweepByMoves_X3_sweepPools
set_option maxRecDepth 20000 in
theorem ggX9_afterSweepByMoves_X3_goBack : GoodIn wsX9_afterSweepByMoves wsX3_goBack := goodIn_r _ [145, 41, 40, 42, 43, 44, 45, 46, 47, 48, 49, 50, 13, 14, 15, 16, 17, 51, 19, 20, 21, 22, 23, 24, 25, 26, 27, 28, 29, 30, 31, 32, 33, 34, 146, 147, 148, 55, 149, 58, 57, 60, 59, 150, 151, 152, 64, 153, 66, 67, 154, 155, 156, 71, 157, 74, 73, 76, 75, 78, 77, 79, 80, 81, 82, 158, 159, 160, 86, 161, 89, 88, 91, 90, 93, 92, 162, 163, 164, 97, 165, 100, 99, 102, 101, 179, 180, 181, 182, 183, 184, 185, 186, 167, 168, 169, 170, 171, 172, 173, 174, 175, 176, 177, 178, 187, 188, 189, 190, 191, 192, 193, 194, 195, 196, 197, 198, 199, 200, 201, 202, 203, 204, 205, 206, 207, 208, 209, 210, 211, 212, 213, 214, 215, 216, 217, 218, 219, 220] (by decide +kernel) (by decide +kernel)
set_option maxRecDepth 20000 in
theorem gX9_afterSweepByMoves_X3_goBack : GoodIn wsX9_afterSweepByMoves (wsV RX9 209 RX3 yX3_goBack wsX3_goBack) := goodIn_app (goodIn_of _ (by decide +kernel)) ggX9_afterSweepByMoves_X3_goBack
theorem dX9_afterSweepByMoves_0 : decode cX9_afterSweepByMoves 0 = .ok (.aload_n 0, 1) := by decide +kernel
theorem dX9_afterSweepByMoves_1 : decode cX9_afterSweepByMoves 1 = .ok (.iload_n 1, 1) := by decide +kernel
theorem dX9_afterSweepByMoves_2 : decode cX9_afterSweepByMoves 2 = .ok (.invokevirtual 31, 3) := by decide +kernel
theorem dX9_afterSweepByMoves_5 : decode cX9_afterSweepByMoves 5 = .ok (.astore_n 2, 1) := by decide +kernel
theorem dX9_afterSweepByMoves_6 : decode cX9_afterSweepByMoves 6 = .ok (.aload_n 0, 1) := by decide +kernel
theorem dX9_afterSweepByMoves_7 : decode cX9_afterSweepByMoves 7 = .ok (.getfield 10, 3) := by decide +kernel
theorem dX9_afterSweepByMoves_10 : decode cX9_afterSweepByMoves 10 = .ok (.invokevirtual 203, 3) := by decide +kernel
theorem dX9_afterSweepByMoves_13 : decode cX9_afterSweepByMoves 13 = .ok (.aload_n 0, 1) := by decide +kernel
theorem dX9_afterSweepByMoves_14 : decode cX9_afterSweepByMoves 14 = .ok (.getfield 10, 3) := by decide +kernel
theorem dX9_afterSweepByMoves_17 : decode cX9_afterSweepByMoves 17 = .ok (.invokevirtual 206, 3) := by decide +kernel
theorem dX9_afterSweepByMoves_20 : decode cX9_afterSweepByMoves 20 = .ok (.aload_n 2, 1) := by decide +kernel
theorem dX9_afterSweepByMoves_21 : decode cX9_afterSweepByMoves 21 = .ok (.getfield 119, 3) := by decide +kernel
theorem dX9_afterSweepByMoves_24 : decode cX9_afterSweepByMoves 24 = .ok (.lstore_n 3, 1) := by decide +kernel
theorem dX9_afterSweepByMoves_25 : decode cX9_afterSweepByMoves 25 = .ok (.aload_n 0, 1) := by decide +kernel
theorem dX9_afterSweepByMoves_26 : decode cX9_afterSweepByMoves 26 = .ok (.getfield 10, 3) := by decide +kernel
theorem dX9_afterSweepByMoves_29 : decode cX9_afterSweepByMoves 29 = .ok (.invokevirtual 209, 3) := by decide +kernel
theorem dX9_afterSweepByMoves_32 : decode cX9_afterSweepByMoves 32 = .ok (.lload_n 3, 1) := by decide +kernel
theorem dX9_afterSweepByMoves_33 : decode cX9_afterSweepByMoves 33 = .ok (.lreturn, 1) := by decide +kernel
set_option maxRecDepth 20000 in
theorem ggX9_forecast_X9_accountAt : GoodIn wsX9_forecast wsX9_accountAt := goodIn_ca (goodIn_r _ [7, 8, 9, 1, 10, 11, 12, 13, 14, 15, 16, 17, 18, 19, 20, 21, 22, 23, 24, 25, 26, 27, 28, 29, 30, 31, 32, 33, 34, 320, 333, 334, 335, 336, 337, 338, 339, 340, 341, 342, 343] (by decide +kernel) (by decide +kernel)) (goodIn_sub (fun _ h => List.mem_cons_of_mem _ (List.mem_append_left _ (List.mem_append_right _ h))) (by decide +kernel))
set_option maxRecDepth 20000 in
theorem gX9_forecast_X9_accountAt : GoodIn wsX9_forecast (wsV RX9 31 RX9 yX9_accountAt wsX9_accountAt) := goodIn_app (goodIn_of _ (by decide +kernel)) ggX9_forecast_X9_accountAt
set_option maxRecDepth 20000 in
theorem ggX9_forecast_X9_requireWithin : GoodIn wsX9_forecast wsX9_requireWithin := goodIn_ca (goodIn_r _ [37, 38, 39] (by decide +kernel) (by decide +kernel)) (goodIn_sub (fun _ h => List.mem_cons_of_mem _ (List.mem_append_right _ h)) (by decide +kernel))
set_option maxRecDepth 20000 in
theorem gX9_forecast_X9_requireWithin : GoodIn wsX9_forecast (va_wsS RX9 20 yX9_requireWithin wsX9_requireWithin) := goodIn_app (goodIn_of _ (by decide +kernel)) ggX9_forecast_X9_requireWithin
set_option maxRecDepth 20000 in
theorem ggX9_forecast_X3_keep : GoodIn wsX9_forecast wsX3_keep := goodIn_r _ [44, 45, 46, 47, 48, 49, 50, 51, 52, 53, 54, 55, 13, 14, 15, 16, 17, 56, 19, 20, 21, 22, 23, 24, 25, 26, 27, 28, 29, 30, 31, 32, 33, 34, 57, 58, 59, 60, 61, 62, 63, 64, 65, 66, 67, 68, 69, 70, 71, 72, 73, 74, 75, 76, 77, 78, 79, 80, 81, 82, 83, 84, 85, 86, 87, 88, 89, 90, 91, 92, 93, 94, 95, 96, 97, 98, 99, 100, 101, 102, 103, 104, 105, 106, 107, 333, 334, 335, 336, 337, 338, 339, 340, 321, 322, 323, 324, 325, 326, 327, 328, 329, 330, 331, 332, 341, 342, 343, 344, 345, 346, 347, 348, 349, 350, 351, 352, 353, 354, 355, 356, 357, 358, 359, 360, 361, 362, 363, 364, 365, 366, 367, 368, 369, 370, 371, 372, 373, 374] (by decide +kernel) (by decide +kernel)
set_option maxRecDepth 20000 in
theorem gX9_forecast_X3_keep : GoodIn wsX9_forecast (wsV RX9 203 RX3 yX3_keep wsX3_keep) := goodIn_app (goodIn_of _ (by decide +kernel)) ggX9_forecast_X3_keep
set_option maxRecDepth 20000 in
theorem ggX9_forecast_X3_passDay : GoodIn wsX9_forecast wsX3_passDay := goodIn_r _ [111, 112, 45, 113, 114, 115, 116, 117, 118, 119, 120, 121, 43, 122, 53, 54, 55, 13, 14, 15, 16, 17, 56, 19, 20, 21, 22, 23, 24, 25, 26, 27, 28, 29, 30, 31, 32, 33, 34, 123, 124, 125, 102, 126, 106, 104, 127, 128, 129, 130, 131, 132, 133, 134, 49, 48, 135, 136, 137, 138, 139, 140, 141, 142, 143, 144, 145, 146, 147, 148, 149, 150, 151, 152, 153, 154, 60, 155, 156, 157, 158, 159, 160, 161, 162, 163, 164, 165, 166, 167, 168, 169, 170, 171, 172, 173, 50, 174, 175, 176, 69, 177, 178, 179, 180, 181, 182, 183, 184, 185, 186, 187, 188, 189, 190, 191, 192, 193, 194, 195, 196, 197, 198, 199, 200, 201, 202, 47, 203, 204, 205, 206, 207, 208, 209, 210, 211, 212, 213, 214, 215, 216, 217, 218, 219, 220, 221, 222, 223, 224, 225, 226, 227, 228, 229, 230, 231, 232, 233, 234, 235, 236, 237, 238, 51, 52, 239, 240, 241, 242, 243, 244, 71, 72, 245, 246, 247, 76, 248, 249, 78, 250, 82, 251, 252, 253, 254, 255, 256, 257, 258, 91, 259, 97, 93, 260, 261, 262, 263, 264, 265, 266, 267, 268, 269, 270, 271, 272, 273, 80, 274, 275, 276, 277, 278, 279, 280, 281, 282, 283, 284, 285, 286, 287, 288, 62, 64, 289, 290, 291, 292, 293, 95, 294, 295, 333, 334, 335, 336, 337, 338, 339, 340, 375, 341, 342, 343, 368, 369, 370, 371, 372, 373, 374, 321, 322, 323, 324, 325, 326, 327, 328, 329, 330, 331, 332, 344, 345, 346, 347, 348, 359, 360, 361, 362, 363, 364, 365, 366, 367, 376, 377, 378, 349, 350, 351, 352, 353, 354, 355, 356, 357, 358] (by decide +kernel) (by decide +kernel)
set_option maxRecDepth 20000 in
theorem gX9_forecast_X3_passDay : GoodIn wsX9_forecast (wsV RX9 113 RX3 yX3_passDay wsX3_passDay) := goodIn_app (goodIn_of _ (by decide +kernel)) ggX9_forecast_X3_passDay
set_option maxRecDepth 20000 in
theorem ggX9_forecast_X3_goBack : GoodIn wsX9_forecast wsX3_goBack := goodIn_r _ [299, 46, 45, 47, 48, 49, 50, 51, 52, 53, 54, 55, 13, 14, 15, 16, 17, 56, 19, 20, 21, 22, 23, 24, 25, 26, 27, 28, 29, 30, 31, 32, 33, 34, 300, 301, 302, 60, 303, 63, 62, 65, 64, 304, 305, 306, 69, 307, 71, 72, 308, 309, 310, 76, 311, 79, 78, 81, 80, 83, 82, 84, 85, 86, 87, 312, 313, 314, 91, 315, 94, 93, 96, 95, 98, 97, 316, 317, 318, 102, 319, 105, 104, 107, 106, 333, 334, 335, 336, 337, 338, 339, 340, 321, 322, 323, 324, 325, 326, 327, 328, 329, 330, 331, 332, 341, 342, 343, 344, 345, 346, 347, 348, 349, 350, 351, 352, 353, 354, 355, 356, 357, 358, 359, 360, 361, 362, 363, 364, 365, 366, 367, 368, 369, 370, 371, 372, 373, 374] (by decide +kernel) (by decide +kernel)
set_option maxRecDepth 20000 in
theorem gX9_forecast_X3_goBack : GoodIn wsX9_forecast (wsV RX9 209 RX3 yX3_goBack wsX3_goBack) := goodIn_app (goodIn_of _ (by decide +kernel)) ggX9_forecast_X3_goBack
theorem dX9_forecast_0 : decode cX9_forecast 0 = .ok (.aload_n 0, 1) := by decide +kernel
theorem dX9_forecast_1 : decode cX9_forecast 1 = .ok (.iload_n 1, 1) := by decide +kernel
theorem dX9_forecast_2 : decode cX9_forecast 2 = .ok (.invokevirtual 31, 3) := by decide +kernel
theorem dX9_forecast_5 : decode cX9_forecast 5 = .ok (.astore_n 3, 1) := by decide +kernel
theorem dX9_forecast_6 : decode cX9_forecast 6 = .ok (.iload_n 2, 1) := by decide +kernel
theorem dX9_forecast_7 : decode cX9_forecast 7 = .ok (.iconst 1, 1) := by decide +kernel
theorem dX9_forecast_8 : decode cX9_forecast 8 = .ok (.bipush 60, 2) := by decide +kernel
theorem dX9_forecast_10 : decode cX9_forecast 10 = .ok (.invokestatic 20, 3) := by decide +kernel
theorem dX9_forecast_13 : decode cX9_forecast 13 = .ok (.aload_n 0, 1) := by decide +kernel
theorem dX9_forecast_14 : decode cX9_forecast 14 = .ok (.getfield 10, 3) := by decide +kernel
theorem dX9_forecast_17 : decode cX9_forecast 17 = .ok (.invokevirtual 203, 3) := by decide +kernel
theorem dX9_forecast_20 : decode cX9_forecast 20 = .ok (.iconst 0, 1) := by decide +kernel
theorem dX9_forecast_21 : decode cX9_forecast 21 = .ok (.istore 4, 2) := by decide +kernel
theorem dX9_forecast_23 : decode cX9_forecast 23 = .ok (.iload 4, 2) := by decide +kernel
theorem dX9_forecast_25 : decode cX9_forecast 25 = .ok (.iload_n 2, 1) := by decide +kernel
theorem dX9_forecast_26 : decode cX9_forecast 26 = .ok (.if_icmp .ge 16, 3) := by decide +kernel
theorem dX9_forecast_29 : decode cX9_forecast 29 = .ok (.aload_n 0, 1) := by decide +kernel
theorem dX9_forecast_30 : decode cX9_forecast 30 = .ok (.getfield 10, 3) := by decide +kernel
theorem dX9_forecast_33 : decode cX9_forecast 33 = .ok (.invokevirtual 113, 3) := by decide +kernel
theorem dX9_forecast_36 : decode cX9_forecast 36 = .ok (.iinc 4 1, 3) := by decide +kernel
theorem dX9_forecast_39 : decode cX9_forecast 39 = .ok (.goto (-16), 3) := by decide +kernel
theorem dX9_forecast_42 : decode cX9_forecast 42 = .ok (.aload_n 3, 1) := by decide +kernel
theorem dX9_forecast_43 : decode cX9_forecast 43 = .ok (.getfield 119, 3) := by decide +kernel
theorem dX9_forecast_46 : decode cX9_forecast 46 = .ok (.lstore 4, 2) := by decide +kernel
theorem dX9_forecast_48 : decode cX9_forecast 48 = .ok (.aload_n 0, 1) := by decide +kernel
theorem dX9_forecast_49 : decode cX9_forecast 49 = .ok (.getfield 10, 3) := by decide +kernel
theorem dX9_forecast_52 : decode cX9_forecast 52 = .ok (.invokevirtual 209, 3) := by decide +kernel
theorem dX9_forecast_55 : decode cX9_forecast 55 = .ok (.lload 4, 2) := by decide +kernel
theorem dX9_forecast_57 : decode cX9_forecast 57 = .ok (.lreturn, 1) := by decide +kernel
set_option maxRecDepth 20000 in
theorem ggX9_daysToShort_X9_accountAt : GoodIn wsX9_daysToShort wsX9_accountAt := goodIn_ca (goodIn_r _ [7, 8, 9, 1, 10, 11, 12, 13, 14, 15, 16, 17, 18, 19, 20, 21, 22, 23, 24, 25, 26, 27, 28, 29, 30, 31, 32, 33, 34, 326, 339, 340, 341, 342, 343, 344, 345, 346, 347, 348, 349] (by decide +kernel) (by decide +kernel)) (goodIn_sub (fun _ h => List.mem_cons_of_mem _ (List.mem_append_left _ (List.mem_append_left _ (List.mem_append_right _ h)))) (by decide +kernel))
set_option maxRecDepth 20000 in
theorem gX9_daysToShort_X9_accountAt : GoodIn wsX9_daysToShort (wsV RX9 31 RX9 yX9_accountAt wsX9_accountAt) := goodIn_app (goodIn_of _ (by decide +kernel)) ggX9_daysToShort_X9_accountAt
set_option maxRecDepth 20000 in
theorem ggX9_daysToShort_X9_requireWithin : GoodIn wsX9_daysToShort wsX9_requireWithin := goodIn_ca (goodIn_r _ [37, 38, 39] (by decide +kernel) (by decide +kernel)) (goodIn_sub (fun _ h => List.mem_cons_of_mem _ (List.mem_append_left _ (List.mem_append_right _ h))) (by decide +kernel))
set_option maxRecDepth 20000 in
theorem gX9_daysToShort_X9_requireWithin : GoodIn wsX9_daysToShort (va_wsS RX9 20 yX9_requireWithin wsX9_requireWithin) := goodIn_app (goodIn_of _ (by decide +kernel)) ggX9_daysToShort_X9_requireWithin
set_option maxRecDepth 20000 in
theorem ggX9_daysToShort_X9_requireTop : GoodIn wsX9_daysToShort wsX9_requireTop := goodIn_ca (goodIn_r _ [42, 43, 44, 45, 327, 328, 329, 330, 331, 332, 333, 334, 335, 336, 337, 338] (by decide +kernel) (by decide +kernel)) (goodIn_sub (fun _ h => List.mem_cons_of_mem _ (List.mem_append_right _ h)) (by decide +kernel))
set_option maxRecDepth 20000 in
theorem gX9_daysToShort_X9_requireTop : GoodIn wsX9_daysToShort (va_wsS RX9 65 yX9_requireTop wsX9_requireTop) := goodIn_app (goodIn_of _ (by decide +kernel)) ggX9_daysToShort_X9_requireTop
set_option maxRecDepth 20000 in
theorem ggX9_daysToShort_X3_keep : GoodIn wsX9_daysToShort wsX3_keep := goodIn_r _ [50, 51, 52, 53, 54, 55, 56, 57, 58, 59, 60, 61, 13, 14, 15, 16, 17, 62, 19, 20, 21, 22, 23, 24, 25, 26, 27, 28, 29, 30, 31, 32, 33, 34, 63, 64, 65, 66, 67, 68, 69, 70, 71, 72, 73, 74, 75, 76, 77, 78, 79, 80, 81, 82, 83, 84, 85, 86, 87, 88, 89, 90, 91, 92, 93, 94, 95, 96, 97, 98, 99, 100, 101, 102, 103, 104, 105, 106, 107, 108, 109, 110, 111, 112, 113, 339, 340, 341, 342, 343, 344, 345, 346, 327, 328, 329, 330, 331, 332, 333, 334, 335, 336, 337, 338, 347, 348, 349, 350, 351, 352, 353, 354, 355, 356, 357, 358, 359, 360, 361, 362, 363, 364, 365, 366, 367, 368, 369, 370, 371, 372, 373, 374, 375, 376, 377, 378, 379, 380] (by decide +kernel) (by decide +kernel)
set_option maxRecDepth 20000 in
theorem gX9_daysToShort_X3_keep : GoodIn wsX9_daysToShort (wsV RX9 203 RX3 yX3_keep wsX3_keep) := goodIn_app (goodIn_of _ (by decide +kernel)) ggX9_daysToShort_X3_keep
set_option maxRecDepth 20000 in
theorem ggX9_daysToShort_X3_passDay : GoodIn wsX9_daysToShort wsX3_passDay := goodIn_r _ [117, 118, 51, 119, 120, 121, 122, 123, 124, 125, 126, 127, 49, 128, 59, 60, 61, 13, 14, 15, 16, 17, 62, 19, 20, 21, 22, 23, 24, 25, 26, 27, 28, 29, 30, 31, 32, 33, 34, 129, 130, 131, 108, 132, 112, 110, 133, 134, 135, 136, 137, 138, 139, 140, 55, 54, 141, 142, 143, 144, 145, 146, 147, 148, 149, 150, 151, 152, 153, 154, 155, 156, 157, 158, 159, 160, 66, 161, 162, 163, 164, 165, 166, 167, 168, 169, 170, 171, 172, 173, 174, 175, 176, 177, 178, 179, 56, 180, 181, 182, 75, 183, 184, 185, 186, 187, 188, 189, 190, 191, 192, 193, 194, 195, 196, 197, 198, 199, 200, 201, 202, 203, 204, 205, 206, 207, 208, 53, 209, 210, 211, 212, 213, 214, 215, 216, 217, 218, 219, 220, 221, 222, 223, 224, 225, 226, 227, 228, 229, 230, 231, 232, 233, 234, 235, 236, 237, 238, 239, 240, 241, 242, 243, 244, 57, 58, 245, 246, 247, 248, 249, 250, 77, 78, 251, 252, 253, 82, 254, 255, 84, 256, 88, 257, 258, 259, 260, 261, 262, 263, 264, 97, 265, 103, 99, 266, 267, 268, 269, 270, 271, 272, 273, 274, 275, 276, 277, 278, 279, 86, 280, 281, 282, 283, 284, 285, 286, 287, 288, 289, 290, 291, 292, 293, 294, 68, 70, 295, 296, 297, 298, 299, 101, 300, 301, 339, 340, 341, 342, 343, 344, 345, 346, 381, 347, 348, 349, 374, 375, 376, 377, 378, 379, 380, 327, 328, 329, 330, 331, 332, 333, 334, 335, 336, 337, 338, 350, 351, 352, 353, 354, 365, 366, 367, 368, 369, 370, 371, 372, 373, 382, 383, 384, 355, 356, 357, 358, 359, 360, 361, 362, 363, 364] (by decide +kernel) (by decide +kernel)
set_option maxRecDepth 20000 in
theorem gX9_daysToShort_X3_passDay : GoodIn wsX9_daysToShort (wsV RX9 113 RX3 yX3_passDay wsX3_passDay) := goodIn_app (goodIn_of _ (by decide +kernel)) ggX9_daysToShort_X3_passDay
set_option maxRecDepth 20000 in
theorem ggX9_daysToShort_X3_goBack : GoodIn wsX9_daysToShort wsX3_goBack := goodIn_r _ [305, 52, 51, 53, 54, 55, 56, 57, 58, 59, 60, 61, 13, 14, 15, 16, 17, 62, 19, 20, 21, 22, 23, 24, 25, 26, 27, 28, 29, 30, 31, 32, 33, 34, 306, 307, 308, 66, 309, 69, 68, 71, 70, 310, 311, 312, 75, 313, 77, 78, 314, 315, 316, 82, 317, 85, 84, 87, 86, 89, 88, 90, 91, 92, 93, 318, 319, 320, 97, 321, 100, 99, 102, 101, 104, 103, 322, 323, 324, 108, 325, 111, 110, 113, 112, 339, 340, 341, 342, 343, 344, 345, 346, 327, 328, 329, 330, 331, 332, 333, 334, 335, 336, 337, 338, 347, 348, 349, 350, 351, 352, 353, 354, 355, 356, 357, 358, 359, 360, 361, 362, 363, 364, 365, 366, 367, 368, 369, 370, 371, 372, 373, 374, 375, 376, 377, 378, 379, 380] (by decide +kernel) (by decide +kernel)
set_option maxRecDepth 20000 in
theorem gX9_daysToShort_X3_goBack : GoodIn wsX9_daysToShort (wsV RX9 209 RX3 yX3_goBack wsX3_goBack) := goodIn_app (goodIn_of _ (by decide +kernel)) ggX9_daysToShort_X3_goBack
theorem dX9_daysToShort_0 : decode cX9_daysToShort 0 = .ok (.aload_n 0, 1) := by decide +kernel
theorem dX9_daysToShort_1 : decode cX9_daysToShort 1 = .ok (.iload_n 1, 1) := by decide +kernel
theorem dX9_daysToShort_2 : decode cX9_daysToShort 2 = .ok (.invokevirtual 31, 3) := by decide +kernel
theorem dX9_daysToShort_5 : decode cX9_daysToShort 5 = .ok (.astore_n 3, 1) := by decide +kernel
theorem dX9_daysToShort_6 : decode cX9_daysToShort 6 = .ok (.iload_n 2, 1) := by decide +kernel
theorem dX9_daysToShort_7 : decode cX9_daysToShort 7 = .ok (.iconst 1, 1) := by decide +kernel
theorem dX9_daysToShort_8 : decode cX9_daysToShort 8 = .ok (.bipush 60, 2) := by decide +kernel
theorem dX9_daysToShort_10 : decode cX9_daysToShort 10 = .ok (.invokestatic 20, 3) := by decide +kernel
theorem dX9_daysToShort_13 : decode cX9_daysToShort 13 = .ok (.aload_n 3, 1) := by decide +kernel
theorem dX9_daysToShort_14 : decode cX9_daysToShort 14 = .ok (.invokestatic 65, 3) := by decide +kernel
theorem dX9_daysToShort_17 : decode cX9_daysToShort 17 = .ok (.iconst (-1), 1) := by decide +kernel
theorem dX9_daysToShort_18 : decode cX9_daysToShort 18 = .ok (.istore 4, 2) := by decide +kernel
theorem dX9_daysToShort_20 : decode cX9_daysToShort 20 = .ok (.aload_n 0, 1) := by decide +kernel
theorem dX9_daysToShort_21 : decode cX9_daysToShort 21 = .ok (.getfield 10, 3) := by decide +kernel
theorem dX9_daysToShort_24 : decode cX9_daysToShort 24 = .ok (.invokevirtual 203, 3) := by decide +kernel
theorem dX9_daysToShort_27 : decode cX9_daysToShort 27 = .ok (.iconst 1, 1) := by decide +kernel
theorem dX9_daysToShort_28 : decode cX9_daysToShort 28 = .ok (.istore 5, 2) := by decide +kernel
theorem dX9_daysToShort_30 : decode cX9_daysToShort 30 = .ok (.iload 4, 2) := by decide +kernel
theorem dX9_daysToShort_32 : decode cX9_daysToShort 32 = .ok (.ifCond .ge 35, 3) := by decide +kernel
theorem dX9_daysToShort_35 : decode cX9_daysToShort 35 = .ok (.iload 5, 2) := by decide +kernel
theorem dX9_daysToShort_37 : decode cX9_daysToShort 37 = .ok (.iload_n 2, 1) := by decide +kernel
theorem dX9_daysToShort_38 : decode cX9_daysToShort 38 = .ok (.if_icmp .gt 29, 3) := by decide +kernel
theorem dX9_daysToShort_41 : decode cX9_daysToShort 41 = .ok (.aload_n 0, 1) := by decide +kernel
theorem dX9_daysToShort_42 : decode cX9_daysToShort 42 = .ok (.getfield 10, 3) := by decide +kernel
theorem dX9_daysToShort_45 : decode cX9_daysToShort 45 = .ok (.invokevirtual 113, 3) := by decide +kernel
theorem dX9_daysToShort_48 : decode cX9_daysToShort 48 = .ok (.aload_n 3, 1) := by decide +kernel
theorem dX9_daysToShort_49 : decode cX9_daysToShort 49 = .ok (.getfield 119, 3) := by decide +kernel
theorem dX9_daysToShort_52 : decode cX9_daysToShort 52 = .ok (.lconst 0, 1) := by decide +kernel
theorem dX9_daysToShort_53 : decode cX9_daysToShort 53 = .ok (.lcmp, 1) := by decide +kernel
theorem dX9_daysToShort_54 : decode cX9_daysToShort 54 = .ok (.ifCond .ge 7, 3) := by decide +kernel
theorem dX9_daysToShort_57 : decode cX9_daysToShort 57 = .ok (.iload 5, 2) := by decide +kernel
theorem dX9_daysToShort_59 : decode cX9_daysToShort 59 = .ok (.istore 4, 2) := by decide +kernel
theorem dX9_daysToShort_61 : decode cX9_daysToShort 61 = .ok (.iinc 5 1, 3) := by decide +kernel
theorem dX9_daysToShort_64 : decode cX9_daysToShort 64 = .ok (.goto (-34), 3) := by decide +kernel
theorem dX9_daysToShort_67 : decode cX9_daysToShort 67 = .ok (.aload_n 0, 1) := by decide +kernel
theorem dX9_daysToShort_68 : decode cX9_daysToShort 68 = .ok (.getfield 10, 3) := by decide +kernel
theorem dX9_daysToShort_71 : decode cX9_daysToShort 71 = .ok (.invokevirtual 209, 3) := by decide +kernel
theorem dX9_daysToShort_74 : decode cX9_daysToShort 74 = .ok (.iload 4, 2) := by decide +kernel
theorem dX9_daysToShort_76 : decode cX9_daysToShort 76 = .ok (.ireturn, 1) := by decide +kernel
theorem dX9_requireWithin_0 : decode cX9_requireWithin 0 = .ok (.iload_n 0, 1) := by decide +kernel
theorem dX9_requireWithin_1 : decode cX9_requireWithin 1 = .ok (.iload_n 1, 1) := by decide +kernel
theorem dX9_requireWithin_2 : decode cX9_requireWithin 2 = .ok (.if_icmp .lt 8, 3) := by decide +kernel
theorem dX9_requireWithin_5 : decode cX9_requireWithin 5 = .ok (.iload_n 0, 1) := by decide +kernel
theorem dX9_requireWithin_6 : decode cX9_requireWithin 6 = .ok (.iload_n 2, 1) := by decide +kernel
theorem dX9_requireWithin_7 : decode cX9_requireWithin 7 = .ok (.if_icmp .le 13, 3) := by decide +kernel
theorem dX9_requireWithin_10 : decode cX9_requireWithin 10 = .ok (.new 212, 3) := by decide +kernel
theorem dX9_requireWithin_13 : decode cX9_requireWithin 13 = .ok (.dup, 1) := by decide +kernel
theorem dX9_requireWithin_14 : decode cX9_requireWithin 14 = .ok (.ldc 214, 2) := by decide +kernel
theorem dX9_requireWithin_16 : decode cX9_requireWithin 16 = .ok (.invokespecial 216, 3) := by decide +kernel
theorem dX9_requireWithin_19 : decode cX9_requireWithin 19 = .ok (.athrow, 1) := by decide +kernel
theorem dX9_requireWithin_20 : decode cX9_requireWithin 20 = .ok (.return_, 1) := by decide +kernel
set_option maxRecDepth 20000 in
theorem ggX9_requireAmount_X9_requireWithin : GoodIn wsX9_requireAmount wsX9_requireWithin := goodIn_ca (goodIn_r _ [8, 1, 2] (by decide +kernel) (by decide +kernel)) (goodIn_sub (fun _ h => List.mem_cons_of_mem _ (List.mem_append_right _ h)) (by decide +kernel))
set_option maxRecDepth 20000 in
theorem gX9_requireAmount_X9_requireWithin : GoodIn wsX9_requireAmount (va_wsS RX9 20 yX9_requireWithin wsX9_requireWithin) := goodIn_app (goodIn_of _ (by decide +kernel)) ggX9_requireAmount_X9_requireWithin
theorem dX9_requireAmount_0 : decode cX9_requireAmount 0 = .ok (.iload_n 0, 1) := by decide +kernel
theorem dX9_requireAmount_1 : decode cX9_requireAmount 1 = .ok (.ldc 39, 2) := by decide +kernel
theorem dX9_requireAmount_3 : decode cX9_requireAmount 3 = .ok (.ldc 40, 2) := by decide +kernel
theorem dX9_requireAmount_5 : decode cX9_requireAmount 5 = .ok (.invokestatic 20, 3) := by decide +kernel
theorem dX9_requireAmount_8 : decode cX9_requireAmount 8 = .ok (.iload_n 0, 1) := by decide +kernel
theorem dX9_requireAmount_9 : decode cX9_requireAmount 9 = .ok (.ifCond .ne 13, 3) := by decide +kernel
theorem dX9_requireAmount_12 : decode cX9_requireAmount 12 = .ok (.new 212, 3) := by decide +kernel
theorem dX9_requireAmount_15 : decode cX9_requireAmount 15 = .ok (.dup, 1) := by decide +kernel
theorem dX9_requireAmount_16 : decode cX9_requireAmount 16 = .ok (.ldc 217, 2) := by decide +kernel
theorem dX9_requireAmount_18 : decode cX9_requireAmount 18 = .ok (.invokespecial 216, 3) := by decide +kernel
theorem dX9_requireAmount_21 : decode cX9_requireAmount 21 = .ok (.athrow, 1) := by decide +kernel
theorem dX9_requireAmount_22 : decode cX9_requireAmount 22 = .ok (.return_, 1) := by decide +kernel
theorem dX9_requireTop_0 : decode cX9_requireTop 0 = .ok (.aload_n 0, 1) := by decide +kernel
theorem dX9_requireTop_1 : decode cX9_requireTop 1 = .ok (.getfield 41, 3) := by decide +kernel
theorem dX9_requireTop_4 : decode cX9_requireTop 4 = .ok (.ifnull 13, 3) := by decide +kernel
theorem dX9_requireTop_7 : decode cX9_requireTop 7 = .ok (.new 47, 3) := by decide +kernel
theorem dX9_requireTop_10 : decode cX9_requireTop 10 = .ok (.dup, 1) := by decide +kernel
theorem dX9_requireTop_11 : decode cX9_requireTop 11 = .ok (.ldc 219, 2) := by decide +kernel
theorem dX9_requireTop_13 : decode cX9_requireTop 13 = .ok (.invokespecial 51, 3) := by decide +kernel
theorem dX9_requireTop_16 : decode cX9_requireTop 16 = .ok (.athrow, 1) := by decide +kernel
theorem dX9_requireTop_17 : decode cX9_requireTop 17 = .ok (.return_, 1) := by decide +kernel
set_option maxRecDepth 20000 in
theorem ggX9_requireAccountLeft_Jx4a65c_size_8abf5 : GoodIn wsX9_requireAccountLeft wsJx4a65c_size_8abf5 := goodIn_r _ [9, 10, 20, 21, 22] (by decide +kernel) (by decide +kernel)
set_option maxRecDepth 20000 in
theorem gX9_requireAccountLeft_Jx4a65c_size_8abf5 : GoodIn wsX9_requireAccountLeft (wsV RX9 73 RJx4a65c yJx4a65c_size_8abf5 wsJx4a65c_size_8abf5) := goodIn_app (goodIn_of _ (by decide +kernel)) ggX9_requireAccountLeft_Jx4a65c_size_8abf5
theorem dX9_requireAccountLeft_0 : decode cX9_requireAccountLeft 0 = .ok (.aload_n 0, 1) := by decide +kernel
theorem dX9_requireAccountLeft_1 : decode cX9_requireAccountLeft 1 = .ok (.getfield 10, 3) := by decide +kernel
theorem dX9_requireAccountLeft_4 : decode cX9_requireAccountLeft 4 = .ok (.getfield 148, 3) := by decide +kernel
theorem dX9_requireAccountLeft_7 : decode cX9_requireAccountLeft 7 = .ok (.invokevirtual 73, 3) := by decide +kernel
theorem dX9_requireAccountLeft_10 : decode cX9_requireAccountLeft 10 = .ok (.bipush 10, 2) := by decide +kernel
theorem dX9_requireAccountLeft_12 : decode cX9_requireAccountLeft 12 = .ok (.if_icmp .lt 13, 3) := by decide +kernel
theorem dX9_requireAccountLeft_15 : decode cX9_requireAccountLeft 15 = .ok (.new 47, 3) := by decide +kernel
theorem dX9_requireAccountLeft_18 : decode cX9_requireAccountLeft 18 = .ok (.dup, 1) := by decide +kernel
theorem dX9_requireAccountLeft_19 : decode cX9_requireAccountLeft 19 = .ok (.ldc 221, 2) := by decide +kernel
theorem dX9_requireAccountLeft_21 : decode cX9_requireAccountLeft 21 = .ok (.invokespecial 51, 3) := by decide +kernel
theorem dX9_requireAccountLeft_24 : decode cX9_requireAccountLeft 24 = .ok (.athrow, 1) := by decide +kernel
theorem dX9_requireAccountLeft_25 : decode cX9_requireAccountLeft 25 = .ok (.return_, 1) := by decide +kernel
set_option maxRecDepth 20000 in
theorem ggX9_accountAt_Jx4a65c_size_8abf5 : GoodIn wsX9_accountAt wsJx4a65c_size_8abf5 := goodIn_r _ [10, 11, 38, 39, 40] (by decide +kernel) (by decide +kernel)
set_option maxRecDepth 20000 in
theorem gX9_accountAt_Jx4a65c_size_8abf5 : GoodIn wsX9_accountAt (wsV RX9 73 RJx4a65c yJx4a65c_size_8abf5 wsJx4a65c_size_8abf5) := goodIn_app (goodIn_of _ (by decide +kernel)) ggX9_accountAt_Jx4a65c_size_8abf5
set_option maxRecDepth 20000 in
theorem ggX9_accountAt_Jx4a65c_get_915e3 : GoodIn wsX9_accountAt wsJx4a65c_get_915e3 := goodIn_r _ [15, 11, 16, 17, 18, 19, 20, 21, 22, 23, 24, 25, 26, 9, 27, 28, 38, 39, 40] (by decide +kernel) (by decide +kernel)
set_option maxRecDepth 20000 in
theorem gX9_accountAt_Jx4a65c_get_915e3 : GoodIn wsX9_accountAt (wsV RX9 228 RJx4a65c yJx4a65c_get_915e3 wsJx4a65c_get_915e3) := goodIn_app (goodIn_of _ (by decide +kernel)) ggX9_accountAt_Jx4a65c_get_915e3
theorem dX9_accountAt_0 : decode cX9_accountAt 0 = .ok (.iload_n 1, 1) := by decide +kernel
theorem dX9_accountAt_1 : decode cX9_accountAt 1 = .ok (.ifCond .lt 17, 3) := by decide +kernel
theorem dX9_accountAt_4 : decode cX9_accountAt 4 = .ok (.iload_n 1, 1) := by decide +kernel
theorem dX9_accountAt_5 : decode cX9_accountAt 5 = .ok (.aload_n 0, 1) := by decide +kernel
theorem dX9_accountAt_6 : decode cX9_accountAt 6 = .ok (.getfield 10, 3) := by decide +kernel
theorem dX9_accountAt_9 : decode cX9_accountAt 9 = .ok (.getfield 148, 3) := by decide +kernel
theorem dX9_accountAt_12 : decode cX9_accountAt 12 = .ok (.invokevirtual 73, 3) := by decide +kernel
theorem dX9_accountAt_15 : decode cX9_accountAt 15 = .ok (.if_icmp .lt 13, 3) := by decide +kernel
theorem dX9_accountAt_18 : decode cX9_accountAt 18 = .ok (.new 223, 3) := by decide +kernel
theorem dX9_accountAt_21 : decode cX9_accountAt 21 = .ok (.dup, 1) := by decide +kernel
theorem dX9_accountAt_22 : decode cX9_accountAt 22 = .ok (.ldc 225, 2) := by decide +kernel
theorem dX9_accountAt_24 : decode cX9_accountAt 24 = .ok (.invokespecial 227, 3) := by decide +kernel
theorem dX9_accountAt_27 : decode cX9_accountAt 27 = .ok (.athrow, 1) := by decide +kernel
theorem dX9_accountAt_28 : decode cX9_accountAt 28 = .ok (.aload_n 0, 1) := by decide +kernel
theorem dX9_accountAt_29 : decode cX9_accountAt 29 = .ok (.getfield 10, 3) := by decide +kernel
theorem dX9_accountAt_32 : decode cX9_accountAt 32 = .ok (.getfield 148, 3) := by decide +kernel
theorem dX9_accountAt_35 : decode cX9_accountAt 35 = .ok (.iload_n 1, 1) := by decide +kernel
theorem dX9_accountAt_36 : decode cX9_accountAt 36 = .ok (.invokevirtual 228, 3) := by decide +kernel
theorem dX9_accountAt_39 : decode cX9_accountAt 39 = .ok (.checkcast 42, 3) := by decide +kernel
theorem dX9_accountAt_42 : decode cX9_accountAt 42 = .ok (.areturn, 1) := by decide +kernel
set_option maxRecDepth 20000 in
theorem ggX9_lineAt_Jx4a65c_size_8abf5 : GoodIn wsX9_lineAt wsJx4a65c_size_8abf5 := goodIn_r _ [10, 11, 38, 39, 40] (by decide +kernel) (by decide +kernel)
set_option maxRecDepth 20000 in
theorem gX9_lineAt_Jx4a65c_size_8abf5 : GoodIn wsX9_lineAt (wsV RX9 73 RJx4a65c yJx4a65c_size_8abf5 wsJx4a65c_size_8abf5) := goodIn_app (goodIn_of _ (by decide +kernel)) ggX9_lineAt_Jx4a65c_size_8abf5
set_option maxRecDepth 20000 in
theorem ggX9_lineAt_Jx4a65c_get_915e3 : GoodIn wsX9_lineAt wsJx4a65c_get_915e3 := goodIn_r _ [15, 11, 16, 17, 18, 19, 20, 21, 22, 23, 24, 25, 26, 9, 27, 28, 38, 39, 40] (by decide +kernel) (by decide +kernel)
set_option maxRecDepth 20000 in
theorem gX9_lineAt_Jx4a65c_get_915e3 : GoodIn wsX9_lineAt (wsV RX9 228 RJx4a65c yJx4a65c_get_915e3 wsJx4a65c_get_915e3) := goodIn_app (goodIn_of _ (by decide +kernel)) ggX9_lineAt_Jx4a65c_get_915e3
theorem dX9_lineAt_0 : decode cX9_lineAt 0 = .ok (.iload_n 1, 1) := by decide +kernel
theorem dX9_lineAt_1 : decode cX9_lineAt 1 = .ok (.ifCond .lt 17, 3) := by decide +kernel
theorem dX9_lineAt_4 : decode cX9_lineAt 4 = .ok (.iload_n 1, 1) := by decide +kernel
theorem dX9_lineAt_5 : decode cX9_lineAt 5 = .ok (.aload_n 0, 1) := by decide +kernel
theorem dX9_lineAt_6 : decode cX9_lineAt 6 = .ok (.getfield 10, 3) := by decide +kernel
theorem dX9_lineAt_9 : decode cX9_lineAt 9 = .ok (.getfield 69, 3) := by decide +kernel
theorem dX9_lineAt_12 : decode cX9_lineAt 12 = .ok (.invokevirtual 73, 3) := by decide +kernel
theorem dX9_lineAt_15 : decode cX9_lineAt 15 = .ok (.if_icmp .lt 13, 3) := by decide +kernel
theorem dX9_lineAt_18 : decode cX9_lineAt 18 = .ok (.new 223, 3) := by decide +kernel
theorem dX9_lineAt_21 : decode cX9_lineAt 21 = .ok (.dup, 1) := by decide +kernel
theorem dX9_lineAt_22 : decode cX9_lineAt 22 = .ok (.ldc 232, 2) := by decide +kernel
theorem dX9_lineAt_24 : decode cX9_lineAt 24 = .ok (.invokespecial 227, 3) := by decide +kernel
theorem dX9_lineAt_27 : decode cX9_lineAt 27 = .ok (.athrow, 1) := by decide +kernel
theorem dX9_lineAt_28 : decode cX9_lineAt 28 = .ok (.aload_n 0, 1) := by decide +kernel
theorem dX9_lineAt_29 : decode cX9_lineAt 29 = .ok (.getfield 10, 3) := by decide +kernel
theorem dX9_lineAt_32 : decode cX9_lineAt 32 = .ok (.getfield 69, 3) := by decide +kernel
theorem dX9_lineAt_35 : decode cX9_lineAt 35 = .ok (.iload_n 1, 1) := by decide +kernel
theorem dX9_lineAt_36 : decode cX9_lineAt 36 = .ok (.invokevirtual 228, 3) := by decide +kernel
theorem dX9_lineAt_39 : decode cX9_lineAt 39 = .ok (.checkcast 177, 3) := by decide +kernel
theorem dX9_lineAt_42 : decode cX9_lineAt 42 = .ok (.areturn, 1) := by decide +kernel
set_option maxRecDepth 20000 in
theorem ggX9_flowAt_Jx4a65c_size_8abf5 : GoodIn wsX9_flowAt wsJx4a65c_size_8abf5 := goodIn_r _ [10, 11, 38, 39, 40] (by decide +kernel) (by decide +kernel)
set_option maxRecDepth 20000 in
theorem gX9_flowAt_Jx4a65c_size_8abf5 : GoodIn wsX9_flowAt (wsV RX9 73 RJx4a65c yJx4a65c_size_8abf5 wsJx4a65c_size_8abf5) := goodIn_app (goodIn_of _ (by decide +kernel)) ggX9_flowAt_Jx4a65c_size_8abf5
set_option maxRecDepth 20000 in
theorem ggX9_flowAt_Jx4a65c_get_915e3 : GoodIn wsX9_flowAt wsJx4a65c_get_915e3 := goodIn_r _ [15, 11, 16, 17, 18, 19, 20, 21, 22, 23, 24, 25, 26, 9, 27, 28, 38, 39, 40] (by decide +kernel) (by decide +kernel)
set_option maxRecDepth 20000 in
theorem gX9_flowAt_Jx4a65c_get_915e3 : GoodIn wsX9_flowAt (wsV RX9 228 RJx4a65c yJx4a65c_get_915e3 wsJx4a65c_get_915e3) := goodIn_app (goodIn_of _ (by decide +kernel)) ggX9_flowAt_Jx4a65c_get_915e3
theorem dX9_flowAt_0 : decode cX9_flowAt 0 = .ok (.iload_n 1, 1) := by decide +kernel
theorem dX9_flowAt_1 : decode cX9_flowAt 1 = .ok (.ifCond .lt 17, 3) := by decide +kernel
theorem dX9_flowAt_4 : decode cX9_flowAt 4 = .ok (.iload_n 1, 1) := by decide +kernel
theorem dX9_flowAt_5 : decode cX9_flowAt 5 = .ok (.aload_n 0, 1) := by decide +kernel
theorem dX9_flowAt_6 : decode cX9_flowAt 6 = .ok (.getfield 10, 3) := by decide +kernel
theorem dX9_flowAt_9 : decode cX9_flowAt 9 = .ok (.getfield 123, 3) := by decide +kernel
theorem dX9_flowAt_12 : decode cX9_flowAt 12 = .ok (.invokevirtual 73, 3) := by decide +kernel
theorem dX9_flowAt_15 : decode cX9_flowAt 15 = .ok (.if_icmp .lt 13, 3) := by decide +kernel
theorem dX9_flowAt_18 : decode cX9_flowAt 18 = .ok (.new 223, 3) := by decide +kernel
theorem dX9_flowAt_21 : decode cX9_flowAt 21 = .ok (.dup, 1) := by decide +kernel
theorem dX9_flowAt_22 : decode cX9_flowAt 22 = .ok (.ldc 234, 2) := by decide +kernel
theorem dX9_flowAt_24 : decode cX9_flowAt 24 = .ok (.invokespecial 227, 3) := by decide +kernel
theorem dX9_flowAt_27 : decode cX9_flowAt 27 = .ok (.athrow, 1) := by decide +kernel
theorem dX9_flowAt_28 : decode cX9_flowAt 28 = .ok (.aload_n 0, 1) := by decide +kernel
theorem dX9_flowAt_29 : decode cX9_flowAt 29 = .ok (.getfield 10, 3) := by decide +kernel
theorem dX9_flowAt_32 : decode cX9_flowAt 32 = .ok (.getfield 123, 3) := by decide +kernel
theorem dX9_flowAt_35 : decode cX9_flowAt 35 = .ok (.iload_n 1, 1) := by decide +kernel
theorem dX9_flowAt_36 : decode cX9_flowAt 36 = .ok (.invokevirtual 228, 3) := by decide +kernel
theorem dX9_flowAt_39 : decode cX9_flowAt 39 = .ok (.checkcast 128, 3) := by decide +kernel
theorem dX9_flowAt_42 : decode cX9_flowAt 42 = .ok (.areturn, 1) := by decide +kernel
set_option maxRecDepth 20000 in
theorem ggX9_bankAt_Jx4a65c_size_8abf5 : GoodIn wsX9_bankAt wsJx4a65c_size_8abf5 := goodIn_r _ [10, 11, 38, 39, 40] (by decide +kernel) (by decide +kernel)
set_option maxRecDepth 20000 in
theorem gX9_bankAt_Jx4a65c_size_8abf5 : GoodIn wsX9_bankAt (wsV RX9 73 RJx4a65c yJx4a65c_size_8abf5 wsJx4a65c_size_8abf5) := goodIn_app (goodIn_of _ (by decide +kernel)) ggX9_bankAt_Jx4a65c_size_8abf5
set_option maxRecDepth 20000 in
theorem ggX9_bankAt_Jx4a65c_get_915e3 : GoodIn wsX9_bankAt wsJx4a65c_get_915e3 := goodIn_r _ [15, 11, 16, 17, 18, 19, 20, 21, 22, 23, 24, 25, 26, 9, 27, 28, 38, 39, 40] (by decide +kernel) (by decide +kernel)
set_option maxRecDepth 20000 in
theorem gX9_bankAt_Jx4a65c_get_915e3 : GoodIn wsX9_bankAt (wsV RX9 228 RJx4a65c yJx4a65c_get_915e3 wsJx4a65c_get_915e3) := goodIn_app (goodIn_of _ (by decide +kernel)) ggX9_bankAt_Jx4a65c_get_915e3
theorem dX9_bankAt_0 : decode cX9_bankAt 0 = .ok (.iload_n 1, 1) := by decide +kernel
theorem dX9_bankAt_1 : decode cX9_bankAt 1 = .ok (.ifCond .lt 17, 3) := by decide +kernel
theorem dX9_bankAt_4 : decode cX9_bankAt 4 = .ok (.iload_n 1, 1) := by decide +kernel
theorem dX9_bankAt_5 : decode cX9_bankAt 5 = .ok (.aload_n 0, 1) := by decide +kernel
theorem dX9_bankAt_6 : decode cX9_bankAt 6 = .ok (.getfield 10, 3) := by decide +kernel
theorem dX9_bankAt_9 : decode cX9_bankAt 9 = .ok (.getfield 236, 3) := by decide +kernel
theorem dX9_bankAt_12 : decode cX9_bankAt 12 = .ok (.invokevirtual 73, 3) := by decide +kernel
theorem dX9_bankAt_15 : decode cX9_bankAt 15 = .ok (.if_icmp .lt 13, 3) := by decide +kernel
theorem dX9_bankAt_18 : decode cX9_bankAt 18 = .ok (.new 212, 3) := by decide +kernel
theorem dX9_bankAt_21 : decode cX9_bankAt 21 = .ok (.dup, 1) := by decide +kernel
theorem dX9_bankAt_22 : decode cX9_bankAt 22 = .ok (.ldc 239, 2) := by decide +kernel
theorem dX9_bankAt_24 : decode cX9_bankAt 24 = .ok (.invokespecial 216, 3) := by decide +kernel
theorem dX9_bankAt_27 : decode cX9_bankAt 27 = .ok (.athrow, 1) := by decide +kernel
theorem dX9_bankAt_28 : decode cX9_bankAt 28 = .ok (.aload_n 0, 1) := by decide +kernel
theorem dX9_bankAt_29 : decode cX9_bankAt 29 = .ok (.getfield 10, 3) := by decide +kernel
theorem dX9_bankAt_32 : decode cX9_bankAt 32 = .ok (.getfield 236, 3) := by decide +kernel
theorem dX9_bankAt_35 : decode cX9_bankAt 35 = .ok (.iload_n 1, 1) := by decide +kernel
theorem dX9_bankAt_36 : decode cX9_bankAt 36 = .ok (.invokevirtual 228, 3) := by decide +kernel
theorem dX9_bankAt_39 : decode cX9_bankAt 39 = .ok (.checkcast 87, 3) := by decide +kernel
theorem dX9_bankAt_42 : decode cX9_bankAt 42 = .ok (.areturn, 1) := by decide +kernel
theorem dX10_init_0 : decode cX10_init 0 = .ok (.aload_n 0, 1) := by decide +kernel
theorem dX10_init_1 : decode cX10_init 1 = .ok (.invokespecial 1, 3) := by decide +kernel
theorem dX10_init_4 : decode cX10_init 4 = .ok (.aload_n 0, 1) := by decide +kernel
theorem dX10_init_5 : decode cX10_init 5 = .ok (.bipush 109, 2) := by decide +kernel
theorem dX10_init_7 : decode cX10_init 7 = .ok (.newarray .long, 2) := by decide +kernel
theorem dX10_init_9 : decode cX10_init 9 = .ok (.putfield 7, 3) := by decide +kernel
theorem dX10_init_12 : decode cX10_init 12 = .ok (.aload_n 0, 1) := by decide +kernel
theorem dX10_init_13 : decode cX10_init 13 = .ok (.bipush 109, 2) := by decide +kernel
theorem dX10_init_15 : decode cX10_init 15 = .ok (.newarray .long, 2) := by decide +kernel
theorem dX10_init_17 : decode cX10_init 17 = .ok (.putfield 13, 3) := by decide +kernel
theorem dX10_init_20 : decode cX10_init 20 = .ok (.aload_n 0, 1) := by decide +kernel
theorem dX10_init_21 : decode cX10_init 21 = .ok (.bipush 10, 2) := by decide +kernel
theorem dX10_init_23 : decode cX10_init 23 = .ok (.newarray .int, 2) := by decide +kernel
theorem dX10_init_25 : decode cX10_init 25 = .ok (.putfield 16, 3) := by decide +kernel
theorem dX10_init_28 : decode cX10_init 28 = .ok (.aload_n 0, 1) := by decide +kernel
theorem dX10_init_29 : decode cX10_init 29 = .ok (.bipush 10, 2) := by decide +kernel
theorem dX10_init_31 : decode cX10_init 31 = .ok (.newarray .int, 2) := by decide +kernel
theorem dX10_init_33 : decode cX10_init 33 = .ok (.putfield 20, 3) := by decide +kernel
theorem dX10_init_36 : decode cX10_init 36 = .ok (.aload_n 0, 1) := by decide +kernel
theorem dX10_init_37 : decode cX10_init 37 = .ok (.bipush 10, 2) := by decide +kernel
theorem dX10_init_39 : decode cX10_init 39 = .ok (.newarray .int, 2) := by decide +kernel
theorem dX10_init_41 : decode cX10_init 41 = .ok (.putfield 23, 3) := by decide +kernel
theorem dX10_init_44 : decode cX10_init 44 = .ok (.aload_n 0, 1) := by decide +kernel
theorem dX10_init_45 : decode cX10_init 45 = .ok (.bipush 10, 2) := by decide +kernel
theorem dX10_init_47 : decode cX10_init 47 = .ok (.newarray .int, 2) := by decide +kernel
theorem dX10_init_49 : decode cX10_init 49 = .ok (.putfield 26, 3) := by decide +kernel
theorem dX10_init_52 : decode cX10_init 52 = .ok (.aload_n 0, 1) := by decide +kernel
theorem dX10_init_53 : decode cX10_init 53 = .ok (.bipush 10, 2) := by decide +kernel
theorem dX10_init_55 : decode cX10_init 55 = .ok (.newarray .int, 2) := by decide +kernel
theorem dX10_init_57 : decode cX10_init 57 = .ok (.putfield 29, 3) := by decide +kernel
theorem dX10_init_60 : decode cX10_init 60 = .ok (.aload_n 0, 1) := by decide +kernel
theorem dX10_init_61 : decode cX10_init 61 = .ok (.bipush 10, 2) := by decide +kernel
theorem dX10_init_63 : decode cX10_init 63 = .ok (.newarray .int, 2) := by decide +kernel
theorem dX10_init_65 : decode cX10_init 65 = .ok (.putfield 32, 3) := by decide +kernel
theorem dX10_init_68 : decode cX10_init 68 = .ok (.aload_n 0, 1) := by decide +kernel
theorem dX10_init_69 : decode cX10_init 69 = .ok (.bipush 10, 2) := by decide +kernel
theorem dX10_init_71 : decode cX10_init 71 = .ok (.newarray .int, 2) := by decide +kernel
theorem dX10_init_73 : decode cX10_init 73 = .ok (.putfield 35, 3) := by decide +kernel
theorem dX10_init_76 : decode cX10_init 76 = .ok (.aload_n 0, 1) := by decide +kernel
theorem dX10_init_77 : decode cX10_init 77 = .ok (.bipush 10, 2) := by decide +kernel
theorem dX10_init_79 : decode cX10_init 79 = .ok (.newarray .int, 2) := by decide +kernel
theorem dX10_init_81 : decode cX10_init 81 = .ok (.putfield 38, 3) := by decide +kernel
theorem dX10_init_84 : decode cX10_init 84 = .ok (.aload_n 0, 1) := by decide +kernel
theorem dX10_init_85 : decode cX10_init 85 = .ok (.bipush 6, 2) := by decide +kernel
theorem dX10_init_87 : decode cX10_init 87 = .ok (.newarray .int, 2) := by decide +kernel
theorem dX10_init_89 : decode cX10_init 89 = .ok (.putfield 41, 3) := by decide +kernel
theorem dX10_init_92 : decode cX10_init 92 = .ok (.aload_n 0, 1) := by decide +kernel
theorem dX10_init_93 : decode cX10_init 93 = .ok (.bipush 6, 2) := by decide +kernel
theorem dX10_init_95 : decode cX10_init 95 = .ok (.newarray .int, 2) := by decide +kernel
theorem dX10_init_97 : decode cX10_init 97 = .ok (.putfield 44, 3) := by decide +kernel
theorem dX10_init_100 : decode cX10_init 100 = .ok (.aload_n 0, 1) := by decide +kernel
theorem dX10_init_101 : decode cX10_init 101 = .ok (.bipush 6, 2) := by decide +kernel
theorem dX10_init_103 : decode cX10_init 103 = .ok (.newarray .int, 2) := by decide +kernel
theorem dX10_init_105 : decode cX10_init 105 = .ok (.putfield 47, 3) := by decide +kernel
theorem dX10_init_108 : decode cX10_init 108 = .ok (.aload_n 0, 1) := by decide +kernel
theorem dX10_init_109 : decode cX10_init 109 = .ok (.iconst 4, 1) := by decide +kernel
theorem dX10_init_110 : decode cX10_init 110 = .ok (.newarray .int, 2) := by decide +kernel
theorem dX10_init_112 : decode cX10_init 112 = .ok (.putfield 50, 3) := by decide +kernel
theorem dX10_init_115 : decode cX10_init 115 = .ok (.aload_n 0, 1) := by decide +kernel
theorem dX10_init_116 : decode cX10_init 116 = .ok (.bipush 20, 2) := by decide +kernel
theorem dX10_init_118 : decode cX10_init 118 = .ok (.newarray .int, 2) := by decide +kernel
theorem dX10_init_120 : decode cX10_init 120 = .ok (.putfield 53, 3) := by decide +kernel
theorem dX10_init_123 : decode cX10_init 123 = .ok (.aload_n 0, 1) := by decide +kernel
theorem dX10_init_124 : decode cX10_init 124 = .ok (.bipush 20, 2) := by decide +kernel
theorem dX10_init_126 : decode cX10_init 126 = .ok (.newarray .int, 2) := by decide +kernel
theorem dX10_init_128 : decode cX10_init 128 = .ok (.putfield 56, 3) := by decide +kernel
theorem dX10_init_131 : decode cX10_init 131 = .ok (.aload_n 0, 1) := by decide +kernel
theorem dX10_init_132 : decode cX10_init 132 = .ok (.bipush 20, 2) := by decide +kernel
theorem dX10_init_134 : decode cX10_init 134 = .ok (.newarray .int, 2) := by decide +kernel
theorem dX10_init_136 : decode cX10_init 136 = .ok (.putfield 59, 3) := by decide +kernel
theorem dX10_init_139 : decode cX10_init 139 = .ok (.aload_n 0, 1) := by decide +kernel
theorem dX10_init_140 : decode cX10_init 140 = .ok (.bipush 20, 2) := by decide +kernel
theorem dX10_init_142 : decode cX10_init 142 = .ok (.newarray .int, 2) := by decide +kernel
theorem dX10_init_144 : decode cX10_init 144 = .ok (.putfield 62, 3) := by decide +kernel
theorem dX10_init_147 : decode cX10_init 147 = .ok (.aload_n 0, 1) := by decide +kernel
theorem dX10_init_148 : decode cX10_init 148 = .ok (.bipush 20, 2) := by decide +kernel
theorem dX10_init_150 : decode cX10_init 150 = .ok (.newarray .int, 2) := by decide +kernel
theorem dX10_init_152 : decode cX10_init 152 = .ok (.putfield 65, 3) := by decide +kernel
theorem dX10_init_155 : decode cX10_init 155 = .ok (.aload_n 0, 1) := by decide +kernel
theorem dX10_init_156 : decode cX10_init 156 = .ok (.sipush 451, 3) := by decide +kernel
theorem dX10_init_159 : decode cX10_init 159 = .ok (.newarray .boolean, 2) := by decide +kernel
theorem dX10_init_161 : decode cX10_init 161 = .ok (.putfield 68, 3) := by decide +kernel
theorem dX10_init_164 : decode cX10_init 164 = .ok (.aload_n 0, 1) := by decide +kernel
theorem dX10_init_165 : decode cX10_init 165 = .ok (.bipush 10, 2) := by decide +kernel
theorem dX10_init_167 : decode cX10_init 167 = .ok (.newarray .long, 2) := by decide +kernel
theorem dX10_init_169 : decode cX10_init 169 = .ok (.putfield 72, 3) := by decide +kernel
theorem dX10_init_172 : decode cX10_init 172 = .ok (.iconst 0, 1) := by decide +kernel
theorem dX10_init_173 : decode cX10_init 173 = .ok (.istore_n 1, 1) := by decide +kernel
theorem dX10_init_174 : decode cX10_init 174 = .ok (.iload_n 1, 1) := by decide +kernel
theorem dX10_init_175 : decode cX10_init 175 = .ok (.iconst 4, 1) := by decide +kernel
theorem dX10_init_176 : decode cX10_init 176 = .ok (.if_icmp .ge 16, 3) := by decide +kernel
theorem dX10_init_179 : decode cX10_init 179 = .ok (.aload_n 0, 1) := by decide +kernel
theorem dX10_init_180 : decode cX10_init 180 = .ok (.getfield 50, 3) := by decide +kernel
theorem dX10_init_183 : decode cX10_init 183 = .ok (.iload_n 1, 1) := by decide +kernel
theorem dX10_init_184 : decode cX10_init 184 = .ok (.iconst (-1), 1) := by decide +kernel
theorem dX10_init_185 : decode cX10_init 185 = .ok (.iastore, 1) := by decide +kernel
theorem dX10_init_186 : decode cX10_init 186 = .ok (.iinc 1 1, 3) := by decide +kernel
theorem dX10_init_189 : decode cX10_init 189 = .ok (.goto (-15), 3) := by decide +kernel
theorem dX10_init_192 : decode cX10_init 192 = .ok (.return_, 1) := by decide +kernel
theorem dX10_thrown_0 : decode cX10_thrown 0 = .ok (.aload_n 0, 1) := by decide +kernel
theorem dX10_thrown_1 : decode cX10_thrown 1 = .ok (.getfield 75, 3) := by decide +kernel
theorem dX10_thrown_4 : decode cX10_thrown 4 = .ok (.ireturn, 1) := by decide +kernel
theorem dX10_can_0 : decode cX10_can 0 = .ok (.aload_n 0, 1) := by decide +kernel
theorem dX10_can_1 : decode cX10_can 1 = .ok (.iload_n 1, 1) := by decide +kernel
theorem dX10_can_2 : decode cX10_can 2 = .ok (.putfield 75, 3) := by decide +kernel
theorem dX10_can_5 : decode cX10_can 5 = .ok (.iload_n 1, 1) := by decide +kernel
theorem dX10_can_6 : decode cX10_can 6 = .ok (.ifCond .ne 7, 3) := by decide +kernel
theorem dX10_can_9 : decode cX10_can 9 = .ok (.iconst 1, 1) := by decide +kernel
theorem dX10_can_10 : decode cX10_can 10 = .ok (.goto 4, 3) := by decide +kernel
theorem dX10_can_13 : decode cX10_can 13 = .ok (.iconst 0, 1) := by decide +kernel
theorem dX10_can_14 : decode cX10_can 14 = .ok (.ireturn, 1) := by decide +kernel
theorem dX10_isIn_0 : decode cX10_isIn 0 = .ok (.iload_n 0, 1) := by decide +kernel
theorem dX10_isIn_1 : decode cX10_isIn 1 = .ok (.iload_n 1, 1) := by decide +kernel
theorem dX10_isIn_2 : decode cX10_isIn 2 = .ok (.if_icmp .lt 12, 3) := by decide +kernel
theorem dX10_isIn_5 : decode cX10_isIn 5 = .ok (.iload_n 0, 1) := by decide +kernel
theorem dX10_isIn_6 : decode cX10_isIn 6 = .ok (.iload_n 2, 1) := by decide +kernel
theorem dX10_isIn_7 : decode cX10_isIn 7 = .ok (.if_icmp .gt 7, 3) := by decide +kernel
theorem dX10_isIn_10 : decode cX10_isIn 10 = .ok (.iconst 1, 1) := by decide +kernel
theorem dX10_isIn_11 : decode cX10_isIn 11 = .ok (.goto 4, 3) := by decide +kernel
theorem dX10_isIn_14 : decode cX10_isIn 14 = .ok (.iconst 0, 1) := by decide +kernel
theorem dX10_isIn_15 : decode cX10_isIn 15 = .ok (.ireturn, 1) := by decide +kernel
theorem dX10_isAccount_0 : decode cX10_isAccount 0 = .ok (.iload_n 1, 1) := by decide +kernel
theorem dX10_isAccount_1 : decode cX10_isAccount 1 = .ok (.ifCond .lt 15, 3) := by decide +kernel
theorem dX10_isAccount_4 : decode cX10_isAccount 4 = .ok (.iload_n 1, 1) := by decide +kernel
theorem dX10_isAccount_5 : decode cX10_isAccount 5 = .ok (.aload_n 0, 1) := by decide +kernel
theorem dX10_isAccount_6 : decode cX10_isAccount 6 = .ok (.getfield 79, 3) := by decide +kernel
theorem dX10_isAccount_9 : decode cX10_isAccount 9 = .ok (.if_icmp .ge 7, 3) := by decide +kernel
theorem dX10_isAccount_12 : decode cX10_isAccount 12 = .ok (.iconst 1, 1) := by decide +kernel
theorem dX10_isAccount_13 : decode cX10_isAccount 13 = .ok (.goto 4, 3) := by decide +kernel
theorem dX10_isAccount_16 : decode cX10_isAccount 16 = .ok (.iconst 0, 1) := by decide +kernel
theorem dX10_isAccount_17 : decode cX10_isAccount 17 = .ok (.ireturn, 1) := by decide +kernel
theorem dX10_isTop_0 : decode cX10_isTop 0 = .ok (.aload_n 0, 1) := by decide +kernel
theorem dX10_isTop_1 : decode cX10_isTop 1 = .ok (.getfield 16, 3) := by decide +kernel
theorem dX10_isTop_4 : decode cX10_isTop 4 = .ok (.iload_n 1, 1) := by decide +kernel
theorem dX10_isTop_5 : decode cX10_isTop 5 = .ok (.iaload, 1) := by decide +kernel
theorem dX10_isTop_6 : decode cX10_isTop 6 = .ok (.iconst (-1), 1) := by decide +kernel
theorem dX10_isTop_7 : decode cX10_isTop 7 = .ok (.if_icmp .ne 7, 3) := by decide +kernel
theorem dX10_isTop_10 : decode cX10_isTop 10 = .ok (.iconst 1, 1) := by decide +kernel
theorem dX10_isTop_11 : decode cX10_isTop 11 = .ok (.goto 4, 3) := by decide +kernel
theorem dX10_isTop_14 : decode cX10_isTop 14 = .ok (.iconst 0, 1) := by decide +kernel
theorem dX10_isTop_15 : decode cX10_isTop 15 = .ok (.ireturn, 1) := by decide +kernel
theorem dX10_adds_0 : decode cX10_adds 0 = .ok (.aload_n 0, 1) := by decide +kernel
theorem dX10_adds_1 : decode cX10_adds 1 = .ok (.getfield 79, 3) := by decide +kernel
theorem dX10_adds_4 : decode cX10_adds 4 = .ok (.istore 5, 2) := by decide +kernel
theorem dX10_adds_6 : decode cX10_adds 6 = .ok (.aload_n 0, 1) := by decide +kernel
theorem dX10_adds_7 : decode cX10_adds 7 = .ok (.getfield 16, 3) := by decide +kernel
theorem dX10_adds_10 : decode cX10_adds 10 = .ok (.iload 5, 2) := by decide +kernel
theorem dX10_adds_12 : decode cX10_adds 12 = .ok (.iload_n 1, 1) := by decide +kernel
theorem dX10_adds_13 : decode cX10_adds 13 = .ok (.iastore, 1) := by decide +kernel
theorem dX10_adds_14 : decode cX10_adds 14 = .ok (.aload_n 0, 1) := by decide +kernel
theorem dX10_adds_15 : decode cX10_adds 15 = .ok (.getfield 20, 3) := by decide +kernel
theorem dX10_adds_18 : decode cX10_adds 18 = .ok (.iload 5, 2) := by decide +kernel
theorem dX10_adds_20 : decode cX10_adds 20 = .ok (.iload_n 1, 1) := by decide +kernel
theorem dX10_adds_21 : decode cX10_adds 21 = .ok (.iconst (-1), 1) := by decide +kernel
theorem dX10_adds_22 : decode cX10_adds 22 = .ok (.if_icmp .ne 8, 3) := by decide +kernel
theorem dX10_adds_25 : decode cX10_adds 25 = .ok (.iload 5, 2) := by decide +kernel
theorem dX10_adds_27 : decode cX10_adds 27 = .ok (.goto 9, 3) := by decide +kernel
theorem dX10_adds_30 : decode cX10_adds 30 = .ok (.aload_n 0, 1) := by decide +kernel
theorem dX10_adds_31 : decode cX10_adds 31 = .ok (.getfield 20, 3) := by decide +kernel
theorem dX10_adds_34 : decode cX10_adds 34 = .ok (.iload_n 1, 1) := by decide +kernel
theorem dX10_adds_35 : decode cX10_adds 35 = .ok (.iaload, 1) := by decide +kernel
theorem dX10_adds_36 : decode cX10_adds 36 = .ok (.iastore, 1) := by decide +kernel
theorem dX10_adds_37 : decode cX10_adds 37 = .ok (.aload_n 0, 1) := by decide +kernel
theorem dX10_adds_38 : decode cX10_adds 38 = .ok (.getfield 23, 3) := by decide +kernel
theorem dX10_adds_41 : decode cX10_adds 41 = .ok (.iload 5, 2) := by decide +kernel
theorem dX10_adds_43 : decode cX10_adds 43 = .ok (.iload_n 2, 1) := by decide +kernel
theorem dX10_adds_44 : decode cX10_adds 44 = .ok (.iastore, 1) := by decide +kernel
theorem dX10_adds_45 : decode cX10_adds 45 = .ok (.aload_n 0, 1) := by decide +kernel
theorem dX10_adds_46 : decode cX10_adds 46 = .ok (.getfield 35, 3) := by decide +kernel
theorem dX10_adds_49 : decode cX10_adds 49 = .ok (.iload 5, 2) := by decide +kernel
theorem dX10_adds_51 : decode cX10_adds 51 = .ok (.iload_n 3, 1) := by decide +kernel
theorem dX10_adds_52 : decode cX10_adds 52 = .ok (.iastore, 1) := by decide +kernel
theorem dX10_adds_53 : decode cX10_adds 53 = .ok (.aload_n 0, 1) := by decide +kernel
theorem dX10_adds_54 : decode cX10_adds 54 = .ok (.getfield 38, 3) := by decide +kernel
theorem dX10_adds_57 : decode cX10_adds 57 = .ok (.iload 5, 2) := by decide +kernel
theorem dX10_adds_59 : decode cX10_adds 59 = .ok (.iload 4, 2) := by decide +kernel
theorem dX10_adds_61 : decode cX10_adds 61 = .ok (.iastore, 1) := by decide +kernel
theorem dX10_adds_62 : decode cX10_adds 62 = .ok (.aload_n 0, 1) := by decide +kernel
theorem dX10_adds_63 : decode cX10_adds 63 = .ok (.dup, 1) := by decide +kernel
theorem dX10_adds_64 : decode cX10_adds 64 = .ok (.getfield 79, 3) := by decide +kernel
theorem dX10_adds_67 : decode cX10_adds 67 = .ok (.iconst 1, 1) := by decide +kernel
theorem dX10_adds_68 : decode cX10_adds 68 = .ok (.iadd, 1) := by decide +kernel
theorem dX10_adds_69 : decode cX10_adds 69 = .ok (.putfield 79, 3) := by decide +kernel
theorem dX10_adds_72 : decode cX10_adds 72 = .ok (.iload 5, 2) := by decide +kernel
theorem dX10_adds_74 : decode cX10_adds 74 = .ok (.ireturn, 1) := by decide +kernel
set_option maxRecDepth 20000 in
theorem ggX10_addPool_X10_isIn : GoodIn wsX10_addPool wsX10_isIn := goodIn_r _ [5] (by decide +kernel) (by decide +kernel)
set_option maxRecDepth 20000 in
theorem gX10_addPool_X10_isIn : GoodIn wsX10_addPool (va_wsS RX10 82 yX10_isIn wsX10_isIn) := goodIn_app (goodIn_of _ (by decide +kernel)) ggX10_addPool_X10_isIn
set_option maxRecDepth 20000 in
theorem ggX10_addPool_X10_can : GoodIn wsX10_addPool wsX10_can := goodIn_r _ [9, 10, 20, 21, 22, 23, 24, 25, 26, 27, 28, 29, 30, 31, 32, 33, 34, 35, 36, 37, 38, 39, 40, 41, 42, 43, 44] (by decide +kernel) (by decide +kernel)
set_option maxRecDepth 20000 in
theorem gX10_addPool_X10_can : GoodIn wsX10_addPool (wsV RX10 86 RX10 yX10_can wsX10_can) := goodIn_app (goodIn_of _ (by decide +kernel)) ggX10_addPool_X10_can
set_option maxRecDepth 20000 in
theorem ggX10_addPool_X10_adds : GoodIn wsX10_addPool wsX10_adds := goodIn_r _ [14, 1, 15, 16, 17, 18, 19, 20, 21, 22, 23, 24, 25, 26, 27, 28, 29, 30, 31, 32, 33, 34, 35, 36, 37, 38, 39, 40, 41, 42, 43, 44] (by decide +kernel) (by decide +kernel)
set_option maxRecDepth 20000 in
theorem gX10_addPool_X10_adds : GoodIn wsX10_addPool (wsV RX10 90 RX10 yX10_adds wsX10_adds) := goodIn_app (goodIn_of _ (by decide +kernel)) ggX10_addPool_X10_adds
theorem dX10_addPool_0 : decode cX10_addPool 0 = .ok (.iload_n 1, 1) := by decide +kernel
theorem dX10_addPool_1 : decode cX10_addPool 1 = .ok (.iconst 0, 1) := by decide +kernel
theorem dX10_addPool_2 : decode cX10_addPool 2 = .ok (.iconst 3, 1) := by decide +kernel
theorem dX10_addPool_3 : decode cX10_addPool 3 = .ok (.invokestatic 82, 3) := by decide +kernel
theorem dX10_addPool_6 : decode cX10_addPool 6 = .ok (.ifCond .eq 29, 3) := by decide +kernel
theorem dX10_addPool_9 : decode cX10_addPool 9 = .ok (.iload_n 2, 1) := by decide +kernel
theorem dX10_addPool_10 : decode cX10_addPool 10 = .ok (.iconst 0, 1) := by decide +kernel
theorem dX10_addPool_11 : decode cX10_addPool 11 = .ok (.sipush 1000, 3) := by decide +kernel
theorem dX10_addPool_14 : decode cX10_addPool 14 = .ok (.invokestatic 82, 3) := by decide +kernel
theorem dX10_addPool_17 : decode cX10_addPool 17 = .ok (.ifCond .eq 18, 3) := by decide +kernel
theorem dX10_addPool_20 : decode cX10_addPool 20 = .ok (.iload_n 3, 1) := by decide +kernel
theorem dX10_addPool_21 : decode cX10_addPool 21 = .ok (.iconst 0, 1) := by decide +kernel
theorem dX10_addPool_22 : decode cX10_addPool 22 = .ok (.sipush 1000, 3) := by decide +kernel
theorem dX10_addPool_25 : decode cX10_addPool 25 = .ok (.invokestatic 82, 3) := by decide +kernel
theorem dX10_addPool_28 : decode cX10_addPool 28 = .ok (.ifCond .eq 7, 3) := by decide +kernel
theorem dX10_addPool_31 : decode cX10_addPool 31 = .ok (.iconst 1, 1) := by decide +kernel
theorem dX10_addPool_32 : decode cX10_addPool 32 = .ok (.goto 4, 3) := by decide +kernel
theorem dX10_addPool_35 : decode cX10_addPool 35 = .ok (.iconst 0, 1) := by decide +kernel
theorem dX10_addPool_36 : decode cX10_addPool 36 = .ok (.istore 4, 2) := by decide +kernel
theorem dX10_addPool_38 : decode cX10_addPool 38 = .ok (.aload_n 0, 1) := by decide +kernel
theorem dX10_addPool_39 : decode cX10_addPool 39 = .ok (.iload 4, 2) := by decide +kernel
theorem dX10_addPool_41 : decode cX10_addPool 41 = .ok (.ifCond .ne 7, 3) := by decide +kernel
theorem dX10_addPool_44 : decode cX10_addPool 44 = .ok (.iconst 1, 1) := by decide +kernel
theorem dX10_addPool_45 : decode cX10_addPool 45 = .ok (.goto 17, 3) := by decide +kernel
theorem dX10_addPool_48 : decode cX10_addPool 48 = .ok (.aload_n 0, 1) := by decide +kernel
theorem dX10_addPool_49 : decode cX10_addPool 49 = .ok (.getfield 79, 3) := by decide +kernel
theorem dX10_addPool_52 : decode cX10_addPool 52 = .ok (.bipush 10, 2) := by decide +kernel
theorem dX10_addPool_54 : decode cX10_addPool 54 = .ok (.if_icmp .ne 7, 3) := by decide +kernel
theorem dX10_addPool_57 : decode cX10_addPool 57 = .ok (.iconst 2, 1) := by decide +kernel
theorem dX10_addPool_58 : decode cX10_addPool 58 = .ok (.goto 4, 3) := by decide +kernel
theorem dX10_addPool_61 : decode cX10_addPool 61 = .ok (.iconst 0, 1) := by decide +kernel
theorem dX10_addPool_62 : decode cX10_addPool 62 = .ok (.invokevirtual 86, 3) := by decide +kernel
theorem dX10_addPool_65 : decode cX10_addPool 65 = .ok (.ifCond .eq 14, 3) := by decide +kernel
theorem dX10_addPool_68 : decode cX10_addPool 68 = .ok (.aload_n 0, 1) := by decide +kernel
theorem dX10_addPool_69 : decode cX10_addPool 69 = .ok (.iconst (-1), 1) := by decide +kernel
theorem dX10_addPool_70 : decode cX10_addPool 70 = .ok (.iload_n 1, 1) := by decide +kernel
theorem dX10_addPool_71 : decode cX10_addPool 71 = .ok (.iload_n 2, 1) := by decide +kernel
theorem dX10_addPool_72 : decode cX10_addPool 72 = .ok (.iload_n 3, 1) := by decide +kernel
theorem dX10_addPool_73 : decode cX10_addPool 73 = .ok (.invokevirtual 90, 3) := by decide +kernel
theorem dX10_addPool_76 : decode cX10_addPool 76 = .ok (.goto 4, 3) := by decide +kernel
theorem dX10_addPool_79 : decode cX10_addPool 79 = .ok (.iconst 0, 1) := by decide +kernel
theorem dX10_addPool_80 : decode cX10_addPool 80 = .ok (.ireturn, 1) := by decide +kernel
set_option maxRecDepth 20000 in
theorem ggX10_addAccount_X10_isAccount : GoodIn wsX10_addAccount wsX10_isAccount := goodIn_r _ [6, 1, 24, 25, 26, 27, 28, 29, 30, 31, 32, 33, 34, 35, 36, 37, 38, 39, 40, 41, 42, 43, 44, 45, 46, 47, 48] (by decide +kernel) (by decide +kernel)
set_option maxRecDepth 20000 in
theorem gX10_addAccount_X10_isAccount : GoodIn wsX10_addAccount (wsV RX10 94 RX10 yX10_isAccount wsX10_isAccount) := goodIn_app (goodIn_of _ (by decide +kernel)) ggX10_addAccount_X10_isAccount
set_option maxRecDepth 20000 in
theorem ggX10_addAccount_X10_isIn : GoodIn wsX10_addAccount wsX10_isIn := goodIn_r _ [9] (by decide +kernel) (by decide +kernel)
set_option maxRecDepth 20000 in
theorem gX10_addAccount_X10_isIn : GoodIn wsX10_addAccount (va_wsS RX10 82 yX10_isIn wsX10_isIn) := goodIn_app (goodIn_of _ (by decide +kernel)) ggX10_addAccount_X10_isIn
set_option maxRecDepth 20000 in
theorem ggX10_addAccount_X10_can : GoodIn wsX10_addAccount wsX10_can := goodIn_r _ [13, 14, 24, 25, 26, 27, 28, 29, 30, 31, 32, 33, 34, 35, 36, 37, 38, 39, 40, 41, 42, 43, 44, 45, 46, 47, 48] (by decide +kernel) (by decide +kernel)
set_option maxRecDepth 20000 in
theorem gX10_addAccount_X10_can : GoodIn wsX10_addAccount (wsV RX10 86 RX10 yX10_can wsX10_can) := goodIn_app (goodIn_of _ (by decide +kernel)) ggX10_addAccount_X10_can
set_option maxRecDepth 20000 in
theorem ggX10_addAccount_X10_adds : GoodIn wsX10_addAccount wsX10_adds := goodIn_r _ [18, 1, 19, 20, 21, 22, 23, 24, 25, 26, 27, 28, 29, 30, 31, 32, 33, 34, 35, 36, 37, 38, 39, 40, 41, 42, 43, 44, 45, 46, 47, 48] (by decide +kernel) (by decide +kernel)
set_option maxRecDepth 20000 in
theorem gX10_addAccount_X10_adds : GoodIn wsX10_addAccount (wsV RX10 90 RX10 yX10_adds wsX10_adds) := goodIn_app (goodIn_of _ (by decide +kernel)) ggX10_addAccount_X10_adds
theorem dX10_addAccount_0 : decode cX10_addAccount 0 = .ok (.aload_n 0, 1) := by decide +kernel
theorem dX10_addAccount_1 : decode cX10_addAccount 1 = .ok (.aload_n 0, 1) := by decide +kernel
theorem dX10_addAccount_2 : decode cX10_addAccount 2 = .ok (.iload_n 1, 1) := by decide +kernel
theorem dX10_addAccount_3 : decode cX10_addAccount 3 = .ok (.invokevirtual 94, 3) := by decide +kernel
theorem dX10_addAccount_6 : decode cX10_addAccount 6 = .ok (.ifCond .ne 7, 3) := by decide +kernel
theorem dX10_addAccount_9 : decode cX10_addAccount 9 = .ok (.iconst 1, 1) := by decide +kernel
theorem dX10_addAccount_10 : decode cX10_addAccount 10 = .ok (.goto 30, 3) := by decide +kernel
theorem dX10_addAccount_13 : decode cX10_addAccount 13 = .ok (.iload_n 2, 1) := by decide +kernel
theorem dX10_addAccount_14 : decode cX10_addAccount 14 = .ok (.iconst 0, 1) := by decide +kernel
theorem dX10_addAccount_15 : decode cX10_addAccount 15 = .ok (.iconst 3, 1) := by decide +kernel
theorem dX10_addAccount_16 : decode cX10_addAccount 16 = .ok (.invokestatic 82, 3) := by decide +kernel
theorem dX10_addAccount_19 : decode cX10_addAccount 19 = .ok (.ifCond .ne 7, 3) := by decide +kernel
theorem dX10_addAccount_22 : decode cX10_addAccount 22 = .ok (.iconst 2, 1) := by decide +kernel
theorem dX10_addAccount_23 : decode cX10_addAccount 23 = .ok (.goto 17, 3) := by decide +kernel
theorem dX10_addAccount_26 : decode cX10_addAccount 26 = .ok (.aload_n 0, 1) := by decide +kernel
theorem dX10_addAccount_27 : decode cX10_addAccount 27 = .ok (.getfield 79, 3) := by decide +kernel
theorem dX10_addAccount_30 : decode cX10_addAccount 30 = .ok (.bipush 10, 2) := by decide +kernel
theorem dX10_addAccount_32 : decode cX10_addAccount 32 = .ok (.if_icmp .ne 7, 3) := by decide +kernel
theorem dX10_addAccount_35 : decode cX10_addAccount 35 = .ok (.iconst 3, 1) := by decide +kernel
theorem dX10_addAccount_36 : decode cX10_addAccount 36 = .ok (.goto 4, 3) := by decide +kernel
theorem dX10_addAccount_39 : decode cX10_addAccount 39 = .ok (.iconst 0, 1) := by decide +kernel
theorem dX10_addAccount_40 : decode cX10_addAccount 40 = .ok (.invokevirtual 86, 3) := by decide +kernel
theorem dX10_addAccount_43 : decode cX10_addAccount 43 = .ok (.ifCond .eq 14, 3) := by decide +kernel
theorem dX10_addAccount_46 : decode cX10_addAccount 46 = .ok (.aload_n 0, 1) := by decide +kernel
theorem dX10_addAccount_47 : decode cX10_addAccount 47 = .ok (.iload_n 1, 1) := by decide +kernel
theorem dX10_addAccount_48 : decode cX10_addAccount 48 = .ok (.iload_n 2, 1) := by decide +kernel
theorem dX10_addAccount_49 : decode cX10_addAccount 49 = .ok (.iconst 0, 1) := by decide +kernel
theorem dX10_addAccount_50 : decode cX10_addAccount 50 = .ok (.iconst 0, 1) := by decide +kernel
theorem dX10_addAccount_51 : decode cX10_addAccount 51 = .ok (.invokevirtual 90, 3) := by decide +kernel
theorem dX10_addAccount_54 : decode cX10_addAccount 54 = .ok (.goto 4, 3) := by decide +kernel
theorem dX10_addAccount_57 : decode cX10_addAccount 57 = .ok (.iconst 0, 1) := by decide +kernel
theorem dX10_addAccount_58 : decode cX10_addAccount 58 = .ok (.ireturn, 1) := by decide +kernel
set_option maxRecDepth 20000 in
theorem ggX10_isAmount_X10_isIn : GoodIn wsX10_isAmount wsX10_isIn := goodIn_r _ [6] (by decide +kernel) (by decide +kernel)
set_option maxRecDepth 20000 in
theorem gX10_isAmount_X10_isIn : GoodIn wsX10_isAmount (va_wsS RX10 82 yX10_isIn wsX10_isIn) := goodIn_app (goodIn_of _ (by decide +kernel)) ggX10_isAmount_X10_isIn
theorem dX10_isAmount_0 : decode cX10_isAmount 0 = .ok (.iload_n 0, 1) := by decide +kernel
theorem dX10_isAmount_1 : decode cX10_isAmount 1 = .ok (.ldc 97, 2) := by decide +kernel
theorem dX10_isAmount_3 : decode cX10_isAmount 3 = .ok (.ldc 98, 2) := by decide +kernel
theorem dX10_isAmount_5 : decode cX10_isAmount 5 = .ok (.invokestatic 82, 3) := by decide +kernel
theorem dX10_isAmount_8 : decode cX10_isAmount 8 = .ok (.ireturn, 1) := by decide +kernel
set_option maxRecDepth 20000 in
theorem ggX10_setRule_X10_isAccount : GoodIn wsX10_setRule wsX10_isAccount := goodIn_r _ [7, 8, 27, 28, 29, 30, 31, 32, 33, 34, 35, 36, 37, 38, 39, 40, 41, 42, 43, 44, 45, 46, 47, 48, 49, 50, 51] (by decide +kernel) (by decide +kernel)
set_option maxRecDepth 20000 in
theorem gX10_setRule_X10_isAccount : GoodIn wsX10_setRule (wsV RX10 94 RX10 yX10_isAccount wsX10_isAccount) := goodIn_app (goodIn_of _ (by decide +kernel)) ggX10_setRule_X10_isAccount
set_option maxRecDepth 20000 in
theorem ggX10_setRule_X10_isIn : GoodIn wsX10_setRule wsX10_isIn := goodIn_r _ [11] (by decide +kernel) (by decide +kernel)
set_option maxRecDepth 20000 in
theorem gX10_setRule_X10_isIn : GoodIn wsX10_setRule (va_wsS RX10 82 yX10_isIn wsX10_isIn) := goodIn_app (goodIn_of _ (by decide +kernel)) ggX10_setRule_X10_isIn
set_option maxRecDepth 20000 in
theorem ggX10_setRule_X10_isAmount : GoodIn wsX10_setRule wsX10_isAmount := goodIn_r _ [14, 15, 16, 9, 10, 6, 11] (by decide +kernel) (by decide +kernel)
set_option maxRecDepth 20000 in
theorem gX10_setRule_X10_isAmount : GoodIn wsX10_setRule (va_wsS RX10 99 yX10_isAmount wsX10_isAmount) := goodIn_app (goodIn_of _ (by decide +kernel)) ggX10_setRule_X10_isAmount
set_option maxRecDepth 20000 in
theorem ggX10_setRule_X10_isTop : GoodIn wsX10_setRule wsX10_isTop := goodIn_r _ [20, 21, 27, 28, 29, 30, 31, 32, 33, 34, 35, 36, 37, 38, 39, 40, 41, 42, 43, 44, 45, 46, 47, 48, 49, 50, 51] (by decide +kernel) (by decide +kernel)
set_option maxRecDepth 20000 in
theorem gX10_setRule_X10_isTop : GoodIn wsX10_setRule (wsV RX10 102 RX10 yX10_isTop wsX10_isTop) := goodIn_app (goodIn_of _ (by decide +kernel)) ggX10_setRule_X10_isTop
set_option maxRecDepth 20000 in
theorem ggX10_setRule_X10_can : GoodIn wsX10_setRule wsX10_can := goodIn_r _ [25, 26, 27, 28, 29, 30, 31, 32, 33, 34, 35, 36, 37, 38, 39, 40, 41, 42, 43, 44, 45, 46, 47, 48, 49, 50, 51] (by decide +kernel) (by decide +kernel)
set_option maxRecDepth 20000 in
theorem gX10_setRule_X10_can : GoodIn wsX10_setRule (wsV RX10 86 RX10 yX10_can wsX10_can) := goodIn_app (goodIn_of _ (by decide +kernel)) ggX10_setRule_X10_can
theorem dX10_setRule_0 : decode cX10_setRule 0 = .ok (.aload_n 0, 1) := by decide +kernel
theorem dX10_setRule_1 : decode cX10_setRule 1 = .ok (.aload_n 0, 1) := by decide +kernel
theorem dX10_setRule_2 : decode cX10_setRule 2 = .ok (.iload_n 1, 1) := by decide +kernel
theorem dX10_setRule_3 : decode cX10_setRule 3 = .ok (.invokevirtual 94, 3) := by decide +kernel
theorem dX10_setRule_6 : decode cX10_setRule 6 = .ok (.ifCond .ne 7, 3) := by decide +kernel
theorem dX10_setRule_9 : decode cX10_setRule 9 = .ok (.iconst 1, 1) := by decide +kernel
theorem dX10_setRule_10 : decode cX10_setRule 10 = .ok (.goto 36, 3) := by decide +kernel
theorem dX10_setRule_13 : decode cX10_setRule 13 = .ok (.iload_n 2, 1) := by decide +kernel
theorem dX10_setRule_14 : decode cX10_setRule 14 = .ok (.iconst 0, 1) := by decide +kernel
theorem dX10_setRule_15 : decode cX10_setRule 15 = .ok (.iconst 3, 1) := by decide +kernel
theorem dX10_setRule_16 : decode cX10_setRule 16 = .ok (.invokestatic 82, 3) := by decide +kernel
theorem dX10_setRule_19 : decode cX10_setRule 19 = .ok (.ifCond .eq 10, 3) := by decide +kernel
theorem dX10_setRule_22 : decode cX10_setRule 22 = .ok (.iload_n 3, 1) := by decide +kernel
theorem dX10_setRule_23 : decode cX10_setRule 23 = .ok (.invokestatic 99, 3) := by decide +kernel
theorem dX10_setRule_26 : decode cX10_setRule 26 = .ok (.ifCond .ne 7, 3) := by decide +kernel
theorem dX10_setRule_29 : decode cX10_setRule 29 = .ok (.iconst 2, 1) := by decide +kernel
theorem dX10_setRule_30 : decode cX10_setRule 30 = .ok (.goto 16, 3) := by decide +kernel
theorem dX10_setRule_33 : decode cX10_setRule 33 = .ok (.aload_n 0, 1) := by decide +kernel
theorem dX10_setRule_34 : decode cX10_setRule 34 = .ok (.iload_n 1, 1) := by decide +kernel
theorem dX10_setRule_35 : decode cX10_setRule 35 = .ok (.invokevirtual 102, 3) := by decide +kernel
theorem dX10_setRule_38 : decode cX10_setRule 38 = .ok (.ifCond .eq 7, 3) := by decide +kernel
theorem dX10_setRule_41 : decode cX10_setRule 41 = .ok (.iconst 3, 1) := by decide +kernel
theorem dX10_setRule_42 : decode cX10_setRule 42 = .ok (.goto 4, 3) := by decide +kernel
theorem dX10_setRule_45 : decode cX10_setRule 45 = .ok (.iconst 0, 1) := by decide +kernel
theorem dX10_setRule_46 : decode cX10_setRule 46 = .ok (.invokevirtual 86, 3) := by decide +kernel
theorem dX10_setRule_49 : decode cX10_setRule 49 = .ok (.ifCond .ne 5, 3) := by decide +kernel
theorem dX10_setRule_52 : decode cX10_setRule 52 = .ok (.iconst 0, 1) := by decide +kernel
theorem dX10_setRule_53 : decode cX10_setRule 53 = .ok (.ireturn, 1) := by decide +kernel
theorem dX10_setRule_54 : decode cX10_setRule 54 = .ok (.aload_n 0, 1) := by decide +kernel
theorem dX10_setRule_55 : decode cX10_setRule 55 = .ok (.getfield 26, 3) := by decide +kernel
theorem dX10_setRule_58 : decode cX10_setRule 58 = .ok (.iload_n 1, 1) := by decide +kernel
theorem dX10_setRule_59 : decode cX10_setRule 59 = .ok (.iaload, 1) := by decide +kernel
theorem dX10_setRule_60 : decode cX10_setRule 60 = .ok (.istore 4, 2) := by decide +kernel
theorem dX10_setRule_62 : decode cX10_setRule 62 = .ok (.aload_n 0, 1) := by decide +kernel
theorem dX10_setRule_63 : decode cX10_setRule 63 = .ok (.getfield 26, 3) := by decide +kernel
theorem dX10_setRule_66 : decode cX10_setRule 66 = .ok (.iload_n 1, 1) := by decide +kernel
theorem dX10_setRule_67 : decode cX10_setRule 67 = .ok (.iload_n 2, 1) := by decide +kernel
theorem dX10_setRule_68 : decode cX10_setRule 68 = .ok (.iastore, 1) := by decide +kernel
theorem dX10_setRule_69 : decode cX10_setRule 69 = .ok (.aload_n 0, 1) := by decide +kernel
theorem dX10_setRule_70 : decode cX10_setRule 70 = .ok (.getfield 29, 3) := by decide +kernel
theorem dX10_setRule_73 : decode cX10_setRule 73 = .ok (.iload_n 1, 1) := by decide +kernel
theorem dX10_setRule_74 : decode cX10_setRule 74 = .ok (.iload_n 3, 1) := by decide +kernel
theorem dX10_setRule_75 : decode cX10_setRule 75 = .ok (.iastore, 1) := by decide +kernel
theorem dX10_setRule_76 : decode cX10_setRule 76 = .ok (.iload 4, 2) := by decide +kernel
theorem dX10_setRule_78 : decode cX10_setRule 78 = .ok (.ireturn, 1) := by decide +kernel
set_option maxRecDepth 20000 in
theorem ggX10_setFloor_X10_isAccount : GoodIn wsX10_setFloor wsX10_isAccount := goodIn_r _ [6, 7, 21, 22, 23, 24, 25, 26, 27, 28, 29, 30, 31, 32, 33, 34, 35, 36, 37, 38, 39, 40, 41, 42, 43, 44, 45] (by decide +kernel) (by decide +kernel)
set_option maxRecDepth 20000 in
theorem gX10_setFloor_X10_isAccount : GoodIn wsX10_setFloor (wsV RX10 94 RX10 yX10_isAccount wsX10_isAccount) := goodIn_app (goodIn_of _ (by decide +kernel)) ggX10_setFloor_X10_isAccount
set_option maxRecDepth 20000 in
theorem ggX10_setFloor_X10_isAmount : GoodIn wsX10_setFloor wsX10_isAmount := goodIn_r _ [10, 11, 12, 13, 14, 5, 15] (by decide +kernel) (by decide +kernel)
set_option maxRecDepth 20000 in
theorem gX10_setFloor_X10_isAmount : GoodIn wsX10_setFloor (va_wsS RX10 99 yX10_isAmount wsX10_isAmount) := goodIn_app (goodIn_of _ (by decide +kernel)) ggX10_setFloor_X10_isAmount
set_option maxRecDepth 20000 in
theorem ggX10_setFloor_X10_can : GoodIn wsX10_setFloor wsX10_can := goodIn_r _ [19, 20, 21, 22, 23, 24, 25, 26, 27, 28, 29, 30, 31, 32, 33, 34, 35, 36, 37, 38, 39, 40, 41, 42, 43, 44, 45] (by decide +kernel) (by decide +kernel)
set_option maxRecDepth 20000 in
theorem gX10_setFloor_X10_can : GoodIn wsX10_setFloor (wsV RX10 86 RX10 yX10_can wsX10_can) := goodIn_app (goodIn_of _ (by decide +kernel)) ggX10_setFloor_X10_can
theorem dX10_setFloor_0 : decode cX10_setFloor 0 = .ok (.aload_n 0, 1) := by decide +kernel
theorem dX10_setFloor_1 : decode cX10_setFloor 1 = .ok (.aload_n 0, 1) := by decide +kernel
theorem dX10_setFloor_2 : decode cX10_setFloor 2 = .ok (.iload_n 1, 1) := by decide +kernel
theorem dX10_setFloor_3 : decode cX10_setFloor 3 = .ok (.invokevirtual 94, 3) := by decide +kernel
theorem dX10_setFloor_6 : decode cX10_setFloor 6 = .ok (.ifCond .ne 7, 3) := by decide +kernel
theorem dX10_setFloor_9 : decode cX10_setFloor 9 = .ok (.iconst 1, 1) := by decide +kernel
theorem dX10_setFloor_10 : decode cX10_setFloor 10 = .ok (.goto 15, 3) := by decide +kernel
theorem dX10_setFloor_13 : decode cX10_setFloor 13 = .ok (.iload_n 2, 1) := by decide +kernel
theorem dX10_setFloor_14 : decode cX10_setFloor 14 = .ok (.invokestatic 99, 3) := by decide +kernel
theorem dX10_setFloor_17 : decode cX10_setFloor 17 = .ok (.ifCond .eq 7, 3) := by decide +kernel
theorem dX10_setFloor_20 : decode cX10_setFloor 20 = .ok (.iconst 0, 1) := by decide +kernel
theorem dX10_setFloor_21 : decode cX10_setFloor 21 = .ok (.goto 4, 3) := by decide +kernel
theorem dX10_setFloor_24 : decode cX10_setFloor 24 = .ok (.iconst 2, 1) := by decide +kernel
theorem dX10_setFloor_25 : decode cX10_setFloor 25 = .ok (.invokevirtual 86, 3) := by decide +kernel
theorem dX10_setFloor_28 : decode cX10_setFloor 28 = .ok (.ifCond .ne 5, 3) := by decide +kernel
theorem dX10_setFloor_31 : decode cX10_setFloor 31 = .ok (.iconst 0, 1) := by decide +kernel
theorem dX10_setFloor_32 : decode cX10_setFloor 32 = .ok (.ireturn, 1) := by decide +kernel
theorem dX10_setFloor_33 : decode cX10_setFloor 33 = .ok (.aload_n 0, 1) := by decide +kernel
theorem dX10_setFloor_34 : decode cX10_setFloor 34 = .ok (.getfield 32, 3) := by decide +kernel
theorem dX10_setFloor_37 : decode cX10_setFloor 37 = .ok (.iload_n 1, 1) := by decide +kernel
theorem dX10_setFloor_38 : decode cX10_setFloor 38 = .ok (.iaload, 1) := by decide +kernel
theorem dX10_setFloor_39 : decode cX10_setFloor 39 = .ok (.istore_n 3, 1) := by decide +kernel
theorem dX10_setFloor_40 : decode cX10_setFloor 40 = .ok (.aload_n 0, 1) := by decide +kernel
theorem dX10_setFloor_41 : decode cX10_setFloor 41 = .ok (.getfield 32, 3) := by decide +kernel
theorem dX10_setFloor_44 : decode cX10_setFloor 44 = .ok (.iload_n 1, 1) := by decide +kernel
theorem dX10_setFloor_45 : decode cX10_setFloor 45 = .ok (.iload_n 2, 1) := by decide +kernel
theorem dX10_setFloor_46 : decode cX10_setFloor 46 = .ok (.iastore, 1) := by decide +kernel
theorem dX10_setFloor_47 : decode cX10_setFloor 47 = .ok (.iload_n 3, 1) := by decide +kernel
theorem dX10_setFloor_48 : decode cX10_setFloor 48 = .ok (.ireturn, 1) := by decide +kernel
set_option maxRecDepth 20000 in
theorem ggX10_addLine_X10_isAccount : GoodIn wsX10_addLine wsX10_isAccount := goodIn_r _ [10, 11, 25, 26, 27, 28, 29, 30, 31, 32, 33, 34, 35, 36, 37, 38, 39, 40, 41, 42, 43, 44, 45, 46, 47, 48, 49] (by decide +kernel) (by decide +kernel)
set_option maxRecDepth 20000 in
theorem gX10_addLine_X10_isAccount : GoodIn wsX10_addLine (wsV RX10 94 RX10 yX10_isAccount wsX10_isAccount) := goodIn_app (goodIn_of _ (by decide +kernel)) ggX10_addLine_X10_isAccount
set_option maxRecDepth 20000 in
theorem ggX10_addLine_X10_isIn : GoodIn wsX10_addLine wsX10_isIn := goodIn_r _ [14] (by decide +kernel) (by decide +kernel)
set_option maxRecDepth 20000 in
theorem gX10_addLine_X10_isIn : GoodIn wsX10_addLine (va_wsS RX10 82 yX10_isIn wsX10_isIn) := goodIn_app (goodIn_of _ (by decide +kernel)) ggX10_addLine_X10_isIn
set_option maxRecDepth 20000 in
theorem ggX10_addLine_X10_isTop : GoodIn wsX10_addLine wsX10_isTop := goodIn_r _ [18, 19, 25, 26, 27, 28, 29, 30, 31, 32, 33, 34, 35, 36, 37, 38, 39, 40, 41, 42, 43, 44, 45, 46, 47, 48, 49] (by decide +kernel) (by decide +kernel)
set_option maxRecDepth 20000 in
theorem gX10_addLine_X10_isTop : GoodIn wsX10_addLine (wsV RX10 102 RX10 yX10_isTop wsX10_isTop) := goodIn_app (goodIn_of _ (by decide +kernel)) ggX10_addLine_X10_isTop
set_option maxRecDepth 20000 in
theorem ggX10_addLine_X10_can : GoodIn wsX10_addLine wsX10_can := goodIn_r _ [23, 24, 25, 26, 27, 28, 29, 30, 31, 32, 33, 34, 35, 36, 37, 38, 39, 40, 41, 42, 43, 44, 45, 46, 47, 48, 49] (by decide +kernel) (by decide +kernel)
set_option maxRecDepth 20000 in
theorem gX10_addLine_X10_can : GoodIn wsX10_addLine (wsV RX10 86 RX10 yX10_can wsX10_can) := goodIn_app (goodIn_of _ (by decide +kernel)) ggX10_addLine_X10_can
theorem dX10_addLine_0 : decode cX10_addLine 0 = .ok (.aload_n 0, 1) := by decide +kernel
theorem dX10_addLine_1 : decode cX10_addLine 1 = .ok (.aload_n 0, 1) := by decide +kernel
theorem dX10_addLine_2 : decode cX10_addLine 2 = .ok (.iload_n 1, 1) := by decide +kernel
theorem dX10_addLine_3 : decode cX10_addLine 3 = .ok (.invokevirtual 94, 3) := by decide +kernel
theorem dX10_addLine_6 : decode cX10_addLine 6 = .ok (.ifCond .ne 7, 3) := by decide +kernel
theorem dX10_addLine_9 : decode cX10_addLine 9 = .ok (.iconst 1, 1) := by decide +kernel
theorem dX10_addLine_10 : decode cX10_addLine 10 = .ok (.goto 50, 3) := by decide +kernel
theorem dX10_addLine_13 : decode cX10_addLine 13 = .ok (.iload_n 2, 1) := by decide +kernel
theorem dX10_addLine_14 : decode cX10_addLine 14 = .ok (.iconst 1, 1) := by decide +kernel
theorem dX10_addLine_15 : decode cX10_addLine 15 = .ok (.ldc 105, 2) := by decide +kernel
theorem dX10_addLine_17 : decode cX10_addLine 17 = .ok (.invokestatic 82, 3) := by decide +kernel
theorem dX10_addLine_20 : decode cX10_addLine 20 = .ok (.ifCond .eq 14, 3) := by decide +kernel
theorem dX10_addLine_23 : decode cX10_addLine 23 = .ok (.iload_n 3, 1) := by decide +kernel
theorem dX10_addLine_24 : decode cX10_addLine 24 = .ok (.iconst 0, 1) := by decide +kernel
theorem dX10_addLine_25 : decode cX10_addLine 25 = .ok (.sipush 1000, 3) := by decide +kernel
theorem dX10_addLine_28 : decode cX10_addLine 28 = .ok (.invokestatic 82, 3) := by decide +kernel
theorem dX10_addLine_31 : decode cX10_addLine 31 = .ok (.ifCond .ne 7, 3) := by decide +kernel
theorem dX10_addLine_34 : decode cX10_addLine 34 = .ok (.iconst 2, 1) := by decide +kernel
theorem dX10_addLine_35 : decode cX10_addLine 35 = .ok (.goto 25, 3) := by decide +kernel
theorem dX10_addLine_38 : decode cX10_addLine 38 = .ok (.aload_n 0, 1) := by decide +kernel
theorem dX10_addLine_39 : decode cX10_addLine 39 = .ok (.iload_n 1, 1) := by decide +kernel
theorem dX10_addLine_40 : decode cX10_addLine 40 = .ok (.invokevirtual 102, 3) := by decide +kernel
theorem dX10_addLine_43 : decode cX10_addLine 43 = .ok (.ifCond .eq 12, 3) := by decide +kernel
theorem dX10_addLine_46 : decode cX10_addLine 46 = .ok (.aload_n 0, 1) := by decide +kernel
theorem dX10_addLine_47 : decode cX10_addLine 47 = .ok (.getfield 106, 3) := by decide +kernel
theorem dX10_addLine_50 : decode cX10_addLine 50 = .ok (.bipush 6, 2) := by decide +kernel
theorem dX10_addLine_52 : decode cX10_addLine 52 = .ok (.if_icmp .ne 7, 3) := by decide +kernel
theorem dX10_addLine_55 : decode cX10_addLine 55 = .ok (.iconst 3, 1) := by decide +kernel
theorem dX10_addLine_56 : decode cX10_addLine 56 = .ok (.goto 4, 3) := by decide +kernel
theorem dX10_addLine_59 : decode cX10_addLine 59 = .ok (.iconst 0, 1) := by decide +kernel
theorem dX10_addLine_60 : decode cX10_addLine 60 = .ok (.invokevirtual 86, 3) := by decide +kernel
theorem dX10_addLine_63 : decode cX10_addLine 63 = .ok (.ifCond .ne 5, 3) := by decide +kernel
theorem dX10_addLine_66 : decode cX10_addLine 66 = .ok (.iconst 0, 1) := by decide +kernel
theorem dX10_addLine_67 : decode cX10_addLine 67 = .ok (.ireturn, 1) := by decide +kernel
theorem dX10_addLine_68 : decode cX10_addLine 68 = .ok (.aload_n 0, 1) := by decide +kernel
theorem dX10_addLine_69 : decode cX10_addLine 69 = .ok (.getfield 41, 3) := by decide +kernel
theorem dX10_addLine_72 : decode cX10_addLine 72 = .ok (.aload_n 0, 1) := by decide +kernel
theorem dX10_addLine_73 : decode cX10_addLine 73 = .ok (.getfield 106, 3) := by decide +kernel
theorem dX10_addLine_76 : decode cX10_addLine 76 = .ok (.iload_n 1, 1) := by decide +kernel
theorem dX10_addLine_77 : decode cX10_addLine 77 = .ok (.iastore, 1) := by decide +kernel
theorem dX10_addLine_78 : decode cX10_addLine 78 = .ok (.aload_n 0, 1) := by decide +kernel
theorem dX10_addLine_79 : decode cX10_addLine 79 = .ok (.getfield 44, 3) := by decide +kernel
theorem dX10_addLine_82 : decode cX10_addLine 82 = .ok (.aload_n 0, 1) := by decide +kernel
theorem dX10_addLine_83 : decode cX10_addLine 83 = .ok (.getfield 106, 3) := by decide +kernel
theorem dX10_addLine_86 : decode cX10_addLine 86 = .ok (.iload_n 2, 1) := by decide +kernel
theorem dX10_addLine_87 : decode cX10_addLine 87 = .ok (.iastore, 1) := by decide +kernel
theorem dX10_addLine_88 : decode cX10_addLine 88 = .ok (.aload_n 0, 1) := by decide +kernel
theorem dX10_addLine_89 : decode cX10_addLine 89 = .ok (.getfield 47, 3) := by decide +kernel
theorem dX10_addLine_92 : decode cX10_addLine 92 = .ok (.aload_n 0, 1) := by decide +kernel
theorem dX10_addLine_93 : decode cX10_addLine 93 = .ok (.getfield 106, 3) := by decide +kernel
theorem dX10_addLine_96 : decode cX10_addLine 96 = .ok (.iload_n 3, 1) := by decide +kernel
theorem dX10_addLine_97 : decode cX10_addLine 97 = .ok (.iastore, 1) := by decide +kernel
theorem dX10_addLine_98 : decode cX10_addLine 98 = .ok (.aload_n 0, 1) := by decide +kernel
theorem dX10_addLine_99 : decode cX10_addLine 99 = .ok (.dup, 1) := by decide +kernel
theorem dX10_addLine_100 : decode cX10_addLine 100 = .ok (.getfield 106, 3) := by decide +kernel
theorem dX10_addLine_103 : decode cX10_addLine 103 = .ok (.iconst 1, 1) := by decide +kernel
theorem dX10_addLine_104 : decode cX10_addLine 104 = .ok (.iadd, 1) := by decide +kernel
theorem dX10_addLine_105 : decode cX10_addLine 105 = .ok (.putfield 106, 3) := by decide +kernel
theorem dX10_addLine_108 : decode cX10_addLine 108 = .ok (.aload_n 0, 1) := by decide +kernel
theorem dX10_addLine_109 : decode cX10_addLine 109 = .ok (.getfield 106, 3) := by decide +kernel
theorem dX10_addLine_112 : decode cX10_addLine 112 = .ok (.iconst 1, 1) := by decide +kernel
theorem dX10_addLine_113 : decode cX10_addLine 113 = .ok (.isub, 1) := by decide +kernel
theorem dX10_addLine_114 : decode cX10_addLine 114 = .ok (.ireturn, 1) := by decide +kernel
set_option maxRecDepth 20000 in
theorem ggX10_setBankLimit_X10_isIn : GoodIn wsX10_setBankLimit wsX10_isIn := goodIn_r _ [6] (by decide +kernel) (by decide +kernel)
set_option maxRecDepth 20000 in
theorem gX10_setBankLimit_X10_isIn : GoodIn wsX10_setBankLimit (va_wsS RX10 82 yX10_isIn wsX10_isIn) := goodIn_app (goodIn_of _ (by decide +kernel)) ggX10_setBankLimit_X10_isIn
set_option maxRecDepth 20000 in
theorem ggX10_setBankLimit_X10_can : GoodIn wsX10_setBankLimit wsX10_can := goodIn_r _ [10, 11, 12, 13, 14, 15, 16, 17, 18, 19, 20, 21, 22, 23, 24, 25, 26, 27, 28, 29, 30, 31, 32, 33, 34, 35, 36] (by decide +kernel) (by decide +kernel)
set_option maxRecDepth 20000 in
theorem gX10_setBankLimit_X10_can : GoodIn wsX10_setBankLimit (wsV RX10 86 RX10 yX10_can wsX10_can) := goodIn_app (goodIn_of _ (by decide +kernel)) ggX10_setBankLimit_X10_can
theorem dX10_setBankLimit_0 : decode cX10_setBankLimit 0 = .ok (.aload_n 0, 1) := by decide +kernel
theorem dX10_setBankLimit_1 : decode cX10_setBankLimit 1 = .ok (.iload_n 1, 1) := by decide +kernel
theorem dX10_setBankLimit_2 : decode cX10_setBankLimit 2 = .ok (.iconst 0, 1) := by decide +kernel
theorem dX10_setBankLimit_3 : decode cX10_setBankLimit 3 = .ok (.iconst 3, 1) := by decide +kernel
theorem dX10_setBankLimit_4 : decode cX10_setBankLimit 4 = .ok (.invokestatic 82, 3) := by decide +kernel
theorem dX10_setBankLimit_7 : decode cX10_setBankLimit 7 = .ok (.ifCond .eq 17, 3) := by decide +kernel
theorem dX10_setBankLimit_10 : decode cX10_setBankLimit 10 = .ok (.iload_n 2, 1) := by decide +kernel
theorem dX10_setBankLimit_11 : decode cX10_setBankLimit 11 = .ok (.iconst (-1), 1) := by decide +kernel
theorem dX10_setBankLimit_12 : decode cX10_setBankLimit 12 = .ok (.ldc 109, 2) := by decide +kernel
theorem dX10_setBankLimit_14 : decode cX10_setBankLimit 14 = .ok (.invokestatic 82, 3) := by decide +kernel
theorem dX10_setBankLimit_17 : decode cX10_setBankLimit 17 = .ok (.ifCond .eq 7, 3) := by decide +kernel
theorem dX10_setBankLimit_20 : decode cX10_setBankLimit 20 = .ok (.iconst 0, 1) := by decide +kernel
theorem dX10_setBankLimit_21 : decode cX10_setBankLimit 21 = .ok (.goto 4, 3) := by decide +kernel
theorem dX10_setBankLimit_24 : decode cX10_setBankLimit 24 = .ok (.iconst 1, 1) := by decide +kernel
theorem dX10_setBankLimit_25 : decode cX10_setBankLimit 25 = .ok (.invokevirtual 86, 3) := by decide +kernel
theorem dX10_setBankLimit_28 : decode cX10_setBankLimit 28 = .ok (.ifCond .ne 5, 3) := by decide +kernel
theorem dX10_setBankLimit_31 : decode cX10_setBankLimit 31 = .ok (.iconst 0, 1) := by decide +kernel
theorem dX10_setBankLimit_32 : decode cX10_setBankLimit 32 = .ok (.ireturn, 1) := by decide +kernel
theorem dX10_setBankLimit_33 : decode cX10_setBankLimit 33 = .ok (.aload_n 0, 1) := by decide +kernel
theorem dX10_setBankLimit_34 : decode cX10_setBankLimit 34 = .ok (.getfield 50, 3) := by decide +kernel
theorem dX10_setBankLimit_37 : decode cX10_setBankLimit 37 = .ok (.iload_n 1, 1) := by decide +kernel
theorem dX10_setBankLimit_38 : decode cX10_setBankLimit 38 = .ok (.iaload, 1) := by decide +kernel
theorem dX10_setBankLimit_39 : decode cX10_setBankLimit 39 = .ok (.istore_n 3, 1) := by decide +kernel
theorem dX10_setBankLimit_40 : decode cX10_setBankLimit 40 = .ok (.aload_n 0, 1) := by decide +kernel
theorem dX10_setBankLimit_41 : decode cX10_setBankLimit 41 = .ok (.getfield 50, 3) := by decide +kernel
theorem dX10_setBankLimit_44 : decode cX10_setBankLimit 44 = .ok (.iload_n 1, 1) := by decide +kernel
theorem dX10_setBankLimit_45 : decode cX10_setBankLimit 45 = .ok (.iload_n 2, 1) := by decide +kernel
theorem dX10_setBankLimit_46 : decode cX10_setBankLimit 46 = .ok (.iastore, 1) := by decide +kernel
theorem dX10_setBankLimit_47 : decode cX10_setBankLimit 47 = .ok (.iload_n 3, 1) := by decide +kernel
theorem dX10_setBankLimit_48 : decode cX10_setBankLimit 48 = .ok (.ireturn, 1) := by decide +kernel
theorem dX10_isSettlement_0 : decode cX10_isSettlement 0 = .ok (.iload_n 1, 1) := by decide +kernel
theorem dX10_isSettlement_1 : decode cX10_isSettlement 1 = .ok (.bipush 7, 2) := by decide +kernel
theorem dX10_isSettlement_3 : decode cX10_isSettlement 3 = .ok (.irem, 1) := by decide +kernel
theorem dX10_isSettlement_4 : decode cX10_isSettlement 4 = .ok (.iconst 5, 1) := by decide +kernel
theorem dX10_isSettlement_5 : decode cX10_isSettlement 5 = .ok (.if_icmp .ge 23, 3) := by decide +kernel
theorem dX10_isSettlement_8 : decode cX10_isSettlement 8 = .ok (.iload_n 1, 1) := by decide +kernel
theorem dX10_isSettlement_9 : decode cX10_isSettlement 9 = .ok (.sipush 450, 3) := by decide +kernel
theorem dX10_isSettlement_12 : decode cX10_isSettlement 12 = .ok (.if_icmp .gt 12, 3) := by decide +kernel
theorem dX10_isSettlement_15 : decode cX10_isSettlement 15 = .ok (.aload_n 0, 1) := by decide +kernel
theorem dX10_isSettlement_16 : decode cX10_isSettlement 16 = .ok (.getfield 68, 3) := by decide +kernel
theorem dX10_isSettlement_19 : decode cX10_isSettlement 19 = .ok (.iload_n 1, 1) := by decide +kernel
theorem dX10_isSettlement_20 : decode cX10_isSettlement 20 = .ok (.baload, 1) := by decide +kernel
theorem dX10_isSettlement_21 : decode cX10_isSettlement 21 = .ok (.ifCond .ne 7, 3) := by decide +kernel
theorem dX10_isSettlement_24 : decode cX10_isSettlement 24 = .ok (.iconst 1, 1) := by decide +kernel
theorem dX10_isSettlement_25 : decode cX10_isSettlement 25 = .ok (.goto 4, 3) := by decide +kernel
theorem dX10_isSettlement_28 : decode cX10_isSettlement 28 = .ok (.iconst 0, 1) := by decide +kernel
theorem dX10_isSettlement_29 : decode cX10_isSettlement 29 = .ok (.ireturn, 1) := by decide +kernel
theorem dX10_surplus_0 : decode cX10_surplus 0 = .ok (.aload_n 0, 1) := by decide +kernel
theorem dX10_surplus_1 : decode cX10_surplus 1 = .ok (.getfield 7, 3) := by decide +kernel
theorem dX10_surplus_4 : decode cX10_surplus 4 = .ok (.iconst 0, 1) := by decide +kernel
theorem dX10_surplus_5 : decode cX10_surplus 5 = .ok (.iload_n 1, 1) := by decide +kernel
theorem dX10_surplus_6 : decode cX10_surplus 6 = .ok (.iadd, 1) := by decide +kernel
theorem dX10_surplus_7 : decode cX10_surplus 7 = .ok (.laload, 1) := by decide +kernel
theorem dX10_surplus_8 : decode cX10_surplus 8 = .ok (.aload_n 0, 1) := by decide +kernel
theorem dX10_surplus_9 : decode cX10_surplus 9 = .ok (.getfield 29, 3) := by decide +kernel
theorem dX10_surplus_12 : decode cX10_surplus 12 = .ok (.iload_n 1, 1) := by decide +kernel
theorem dX10_surplus_13 : decode cX10_surplus 13 = .ok (.iaload, 1) := by decide +kernel
theorem dX10_surplus_14 : decode cX10_surplus 14 = .ok (.i2l, 1) := by decide +kernel
theorem dX10_surplus_15 : decode cX10_surplus 15 = .ok (.lsub, 1) := by decide +kernel
theorem dX10_surplus_16 : decode cX10_surplus 16 = .ok (.lstore_n 2, 1) := by decide +kernel
theorem dX10_surplus_17 : decode cX10_surplus 17 = .ok (.aload_n 0, 1) := by decide +kernel
theorem dX10_surplus_18 : decode cX10_surplus 18 = .ok (.getfield 26, 3) := by decide +kernel
theorem dX10_surplus_21 : decode cX10_surplus 21 = .ok (.iload_n 1, 1) := by decide +kernel
theorem dX10_surplus_22 : decode cX10_surplus 22 = .ok (.iaload, 1) := by decide +kernel
theorem dX10_surplus_23 : decode cX10_surplus 23 = .ok (.istore 4, 2) := by decide +kernel
theorem dX10_surplus_25 : decode cX10_surplus 25 = .ok (.iload 4, 2) := by decide +kernel
theorem dX10_surplus_27 : decode cX10_surplus 27 = .ok (.ifCond .eq 27, 3) := by decide +kernel
theorem dX10_surplus_30 : decode cX10_surplus 30 = .ok (.iload 4, 2) := by decide +kernel
theorem dX10_surplus_32 : decode cX10_surplus 32 = .ok (.iconst 2, 1) := by decide +kernel
theorem dX10_surplus_33 : decode cX10_surplus 33 = .ok (.if_icmp .ne 9, 3) := by decide +kernel
theorem dX10_surplus_36 : decode cX10_surplus 36 = .ok (.lload_n 2, 1) := by decide +kernel
theorem dX10_surplus_37 : decode cX10_surplus 37 = .ok (.lconst 0, 1) := by decide +kernel
theorem dX10_surplus_38 : decode cX10_surplus 38 = .ok (.lcmp, 1) := by decide +kernel
theorem dX10_surplus_39 : decode cX10_surplus 39 = .ok (.ifCond .lt 15, 3) := by decide +kernel
theorem dX10_surplus_42 : decode cX10_surplus 42 = .ok (.iload 4, 2) := by decide +kernel
theorem dX10_surplus_44 : decode cX10_surplus 44 = .ok (.iconst 3, 1) := by decide +kernel
theorem dX10_surplus_45 : decode cX10_surplus 45 = .ok (.if_icmp .ne 13, 3) := by decide +kernel
theorem dX10_surplus_48 : decode cX10_surplus 48 = .ok (.lload_n 2, 1) := by decide +kernel
theorem dX10_surplus_49 : decode cX10_surplus 49 = .ok (.lconst 0, 1) := by decide +kernel
theorem dX10_surplus_50 : decode cX10_surplus 50 = .ok (.lcmp, 1) := by decide +kernel
theorem dX10_surplus_51 : decode cX10_surplus 51 = .ok (.ifCond .le 7, 3) := by decide +kernel
theorem dX10_surplus_54 : decode cX10_surplus 54 = .ok (.lconst 0, 1) := by decide +kernel
theorem dX10_surplus_55 : decode cX10_surplus 55 = .ok (.goto 4, 3) := by decide +kernel
theorem dX10_surplus_58 : decode cX10_surplus 58 = .ok (.lload_n 2, 1) := by decide +kernel
theorem dX10_surplus_59 : decode cX10_surplus 59 = .ok (.lreturn, 1) := by decide +kernel
theorem dX10_moves_0 : decode cX10_moves 0 = .ok (.aload_n 0, 1) := by decide +kernel
theorem dX10_moves_1 : decode cX10_moves 1 = .ok (.getfield 7, 3) := by decide +kernel
theorem dX10_moves_4 : decode cX10_moves 4 = .ok (.iconst 0, 1) := by decide +kernel
theorem dX10_moves_5 : decode cX10_moves 5 = .ok (.iload_n 1, 1) := by decide +kernel
theorem dX10_moves_6 : decode cX10_moves 6 = .ok (.iadd, 1) := by decide +kernel
theorem dX10_moves_7 : decode cX10_moves 7 = .ok (.dup2, 1) := by decide +kernel
theorem dX10_moves_8 : decode cX10_moves 8 = .ok (.laload, 1) := by decide +kernel
theorem dX10_moves_9 : decode cX10_moves 9 = .ok (.lload_n 3, 1) := by decide +kernel
theorem dX10_moves_10 : decode cX10_moves 10 = .ok (.lsub, 1) := by decide +kernel
theorem dX10_moves_11 : decode cX10_moves 11 = .ok (.lastore, 1) := by decide +kernel
theorem dX10_moves_12 : decode cX10_moves 12 = .ok (.aload_n 0, 1) := by decide +kernel
theorem dX10_moves_13 : decode cX10_moves 13 = .ok (.getfield 7, 3) := by decide +kernel
theorem dX10_moves_16 : decode cX10_moves 16 = .ok (.iconst 0, 1) := by decide +kernel
theorem dX10_moves_17 : decode cX10_moves 17 = .ok (.iload_n 2, 1) := by decide +kernel
theorem dX10_moves_18 : decode cX10_moves 18 = .ok (.iadd, 1) := by decide +kernel
theorem dX10_moves_19 : decode cX10_moves 19 = .ok (.dup2, 1) := by decide +kernel
theorem dX10_moves_20 : decode cX10_moves 20 = .ok (.laload, 1) := by decide +kernel
theorem dX10_moves_21 : decode cX10_moves 21 = .ok (.lload_n 3, 1) := by decide +kernel
theorem dX10_moves_22 : decode cX10_moves 22 = .ok (.ladd, 1) := by decide +kernel
theorem dX10_moves_23 : decode cX10_moves 23 = .ok (.lastore, 1) := by decide +kernel
theorem dX10_moves_24 : decode cX10_moves 24 = .ok (.return_, 1) := by decide +kernel
set_option maxRecDepth 20000 in
theorem ggX10_sweep_X10_isTop : GoodIn wsX10_sweep wsX10_isTop := goodIn_r _ [9, 2, 20, 21, 22, 23, 24, 25, 26, 27, 28, 29, 30, 31, 32, 33, 34, 35, 36, 37, 38, 39, 40, 41, 42, 43, 44] (by decide +kernel) (by decide +kernel)
set_option maxRecDepth 20000 in
theorem gX10_sweep_X10_isTop : GoodIn wsX10_sweep (wsV RX10 102 RX10 yX10_isTop wsX10_isTop) := goodIn_app (goodIn_of _ (by decide +kernel)) ggX10_sweep_X10_isTop
set_option maxRecDepth 20000 in
theorem ggX10_sweep_X10_surplus : GoodIn wsX10_sweep wsX10_surplus := goodIn_r _ [13, 3, 14, 15, 20, 21, 22, 23, 24, 25, 26, 27, 28, 29, 30, 31, 32, 33, 34, 35, 36, 37, 38, 39, 40, 41, 42, 43, 44] (by decide +kernel) (by decide +kernel)
set_option maxRecDepth 20000 in
theorem gX10_sweep_X10_surplus : GoodIn wsX10_sweep (wsV RX10 110 RX10 yX10_surplus wsX10_surplus) := goodIn_app (goodIn_of _ (by decide +kernel)) ggX10_sweep_X10_surplus
set_option maxRecDepth 20000 in
theorem ggX10_sweep_X10_moves : GoodIn wsX10_sweep wsX10_moves := goodIn_r _ [19, 3, 20, 21, 22, 23, 24, 25, 26, 27, 28, 29, 30, 31, 32, 33, 34, 35, 36, 37, 38, 39, 40, 41, 42, 43, 44] (by decide +kernel) (by decide +kernel)
set_option maxRecDepth 20000 in
theorem gX10_sweep_X10_moves : GoodIn wsX10_sweep (wsV RX10 114 RX10 yX10_moves wsX10_moves) := goodIn_app (goodIn_of _ (by decide +kernel)) ggX10_sweep_X10_moves
theorem dX10_sweep_0 : decode cX10_sweep 0 = .ok (.aload_n 0, 1) := by decide +kernel
theorem dX10_sweep_1 : decode cX10_sweep 1 = .ok (.getfield 79, 3) := by decide +kernel
theorem dX10_sweep_4 : decode cX10_sweep 4 = .ok (.iconst 1, 1) := by decide +kernel
theorem dX10_sweep_5 : decode cX10_sweep 5 = .ok (.isub, 1) := by decide +kernel
theorem dX10_sweep_6 : decode cX10_sweep 6 = .ok (.istore_n 1, 1) := by decide +kernel
theorem dX10_sweep_7 : decode cX10_sweep 7 = .ok (.iload_n 1, 1) := by decide +kernel
theorem dX10_sweep_8 : decode cX10_sweep 8 = .ok (.ifCond .lt 43, 3) := by decide +kernel
theorem dX10_sweep_11 : decode cX10_sweep 11 = .ok (.aload_n 0, 1) := by decide +kernel
theorem dX10_sweep_12 : decode cX10_sweep 12 = .ok (.iload_n 1, 1) := by decide +kernel
theorem dX10_sweep_13 : decode cX10_sweep 13 = .ok (.invokevirtual 102, 3) := by decide +kernel
theorem dX10_sweep_16 : decode cX10_sweep 16 = .ok (.ifCond .ne 29, 3) := by decide +kernel
theorem dX10_sweep_19 : decode cX10_sweep 19 = .ok (.aload_n 0, 1) := by decide +kernel
theorem dX10_sweep_20 : decode cX10_sweep 20 = .ok (.iload_n 1, 1) := by decide +kernel
theorem dX10_sweep_21 : decode cX10_sweep 21 = .ok (.invokevirtual 110, 3) := by decide +kernel
theorem dX10_sweep_24 : decode cX10_sweep 24 = .ok (.lconst 0, 1) := by decide +kernel
theorem dX10_sweep_25 : decode cX10_sweep 25 = .ok (.lcmp, 1) := by decide +kernel
theorem dX10_sweep_26 : decode cX10_sweep 26 = .ok (.ifCond .le 19, 3) := by decide +kernel
theorem dX10_sweep_29 : decode cX10_sweep 29 = .ok (.aload_n 0, 1) := by decide +kernel
theorem dX10_sweep_30 : decode cX10_sweep 30 = .ok (.iload_n 1, 1) := by decide +kernel
theorem dX10_sweep_31 : decode cX10_sweep 31 = .ok (.aload_n 0, 1) := by decide +kernel
theorem dX10_sweep_32 : decode cX10_sweep 32 = .ok (.getfield 16, 3) := by decide +kernel
theorem dX10_sweep_35 : decode cX10_sweep 35 = .ok (.iload_n 1, 1) := by decide +kernel
theorem dX10_sweep_36 : decode cX10_sweep 36 = .ok (.iaload, 1) := by decide +kernel
theorem dX10_sweep_37 : decode cX10_sweep 37 = .ok (.aload_n 0, 1) := by decide +kernel
theorem dX10_sweep_38 : decode cX10_sweep 38 = .ok (.iload_n 1, 1) := by decide +kernel
theorem dX10_sweep_39 : decode cX10_sweep 39 = .ok (.invokevirtual 110, 3) := by decide +kernel
theorem dX10_sweep_42 : decode cX10_sweep 42 = .ok (.invokevirtual 114, 3) := by decide +kernel
theorem dX10_sweep_45 : decode cX10_sweep 45 = .ok (.iinc 1 (-1), 3) := by decide +kernel
theorem dX10_sweep_48 : decode cX10_sweep 48 = .ok (.goto (-41), 3) := by decide +kernel
theorem dX10_sweep_51 : decode cX10_sweep 51 = .ok (.iconst 0, 1) := by decide +kernel
theorem dX10_sweep_52 : decode cX10_sweep 52 = .ok (.istore_n 1, 1) := by decide +kernel
theorem dX10_sweep_53 : decode cX10_sweep 53 = .ok (.iload_n 1, 1) := by decide +kernel
theorem dX10_sweep_54 : decode cX10_sweep 54 = .ok (.aload_n 0, 1) := by decide +kernel
theorem dX10_sweep_55 : decode cX10_sweep 55 = .ok (.getfield 79, 3) := by decide +kernel
theorem dX10_sweep_58 : decode cX10_sweep 58 = .ok (.if_icmp .ge 97, 3) := by decide +kernel
theorem dX10_sweep_61 : decode cX10_sweep 61 = .ok (.aload_n 0, 1) := by decide +kernel
theorem dX10_sweep_62 : decode cX10_sweep 62 = .ok (.iload_n 1, 1) := by decide +kernel
theorem dX10_sweep_63 : decode cX10_sweep 63 = .ok (.invokevirtual 102, 3) := by decide +kernel
theorem dX10_sweep_66 : decode cX10_sweep 66 = .ok (.ifCond .ne 83, 3) := by decide +kernel
theorem dX10_sweep_69 : decode cX10_sweep 69 = .ok (.aload_n 0, 1) := by decide +kernel
theorem dX10_sweep_70 : decode cX10_sweep 70 = .ok (.iload_n 1, 1) := by decide +kernel
theorem dX10_sweep_71 : decode cX10_sweep 71 = .ok (.invokevirtual 110, 3) := by decide +kernel
theorem dX10_sweep_74 : decode cX10_sweep 74 = .ok (.lconst 0, 1) := by decide +kernel
theorem dX10_sweep_75 : decode cX10_sweep 75 = .ok (.lcmp, 1) := by decide +kernel
theorem dX10_sweep_76 : decode cX10_sweep 76 = .ok (.ifCond .ge 73, 3) := by decide +kernel
theorem dX10_sweep_79 : decode cX10_sweep 79 = .ok (.aload_n 0, 1) := by decide +kernel
theorem dX10_sweep_80 : decode cX10_sweep 80 = .ok (.iload_n 1, 1) := by decide +kernel
theorem dX10_sweep_81 : decode cX10_sweep 81 = .ok (.invokevirtual 110, 3) := by decide +kernel
theorem dX10_sweep_84 : decode cX10_sweep 84 = .ok (.lneg, 1) := by decide +kernel
theorem dX10_sweep_85 : decode cX10_sweep 85 = .ok (.lstore_n 2, 1) := by decide +kernel
theorem dX10_sweep_86 : decode cX10_sweep 86 = .ok (.aload_n 0, 1) := by decide +kernel
theorem dX10_sweep_87 : decode cX10_sweep 87 = .ok (.getfield 7, 3) := by decide +kernel
theorem dX10_sweep_90 : decode cX10_sweep 90 = .ok (.iconst 0, 1) := by decide +kernel
theorem dX10_sweep_91 : decode cX10_sweep 91 = .ok (.aload_n 0, 1) := by decide +kernel
theorem dX10_sweep_92 : decode cX10_sweep 92 = .ok (.getfield 16, 3) := by decide +kernel
theorem dX10_sweep_95 : decode cX10_sweep 95 = .ok (.iload_n 1, 1) := by decide +kernel
theorem dX10_sweep_96 : decode cX10_sweep 96 = .ok (.iaload, 1) := by decide +kernel
theorem dX10_sweep_97 : decode cX10_sweep 97 = .ok (.iadd, 1) := by decide +kernel
theorem dX10_sweep_98 : decode cX10_sweep 98 = .ok (.laload, 1) := by decide +kernel
theorem dX10_sweep_99 : decode cX10_sweep 99 = .ok (.aload_n 0, 1) := by decide +kernel
theorem dX10_sweep_100 : decode cX10_sweep 100 = .ok (.getfield 32, 3) := by decide +kernel
theorem dX10_sweep_103 : decode cX10_sweep 103 = .ok (.aload_n 0, 1) := by decide +kernel
theorem dX10_sweep_104 : decode cX10_sweep 104 = .ok (.getfield 16, 3) := by decide +kernel
theorem dX10_sweep_107 : decode cX10_sweep 107 = .ok (.iload_n 1, 1) := by decide +kernel
theorem dX10_sweep_108 : decode cX10_sweep 108 = .ok (.iaload, 1) := by decide +kernel
theorem dX10_sweep_109 : decode cX10_sweep 109 = .ok (.iaload, 1) := by decide +kernel
theorem dX10_sweep_110 : decode cX10_sweep 110 = .ok (.i2l, 1) := by decide +kernel
theorem dX10_sweep_111 : decode cX10_sweep 111 = .ok (.lsub, 1) := by decide +kernel
theorem dX10_sweep_112 : decode cX10_sweep 112 = .ok (.lstore 4, 2) := by decide +kernel
theorem dX10_sweep_114 : decode cX10_sweep 114 = .ok (.aload_n 0, 1) := by decide +kernel
theorem dX10_sweep_115 : decode cX10_sweep 115 = .ok (.aload_n 0, 1) := by decide +kernel
theorem dX10_sweep_116 : decode cX10_sweep 116 = .ok (.getfield 16, 3) := by decide +kernel
theorem dX10_sweep_119 : decode cX10_sweep 119 = .ok (.iload_n 1, 1) := by decide +kernel
theorem dX10_sweep_120 : decode cX10_sweep 120 = .ok (.iaload, 1) := by decide +kernel
theorem dX10_sweep_121 : decode cX10_sweep 121 = .ok (.iload_n 1, 1) := by decide +kernel
theorem dX10_sweep_122 : decode cX10_sweep 122 = .ok (.lload 4, 2) := by decide +kernel
theorem dX10_sweep_124 : decode cX10_sweep 124 = .ok (.lconst 0, 1) := by decide +kernel
theorem dX10_sweep_125 : decode cX10_sweep 125 = .ok (.lcmp, 1) := by decide +kernel
theorem dX10_sweep_126 : decode cX10_sweep 126 = .ok (.ifCond .gt 7, 3) := by decide +kernel
theorem dX10_sweep_129 : decode cX10_sweep 129 = .ok (.lconst 0, 1) := by decide +kernel
theorem dX10_sweep_130 : decode cX10_sweep 130 = .ok (.goto 16, 3) := by decide +kernel
theorem dX10_sweep_133 : decode cX10_sweep 133 = .ok (.lload 4, 2) := by decide +kernel
theorem dX10_sweep_135 : decode cX10_sweep 135 = .ok (.lload_n 2, 1) := by decide +kernel
theorem dX10_sweep_136 : decode cX10_sweep 136 = .ok (.lcmp, 1) := by decide +kernel
theorem dX10_sweep_137 : decode cX10_sweep 137 = .ok (.ifCond .ge 8, 3) := by decide +kernel
theorem dX10_sweep_140 : decode cX10_sweep 140 = .ok (.lload 4, 2) := by decide +kernel
theorem dX10_sweep_142 : decode cX10_sweep 142 = .ok (.goto 4, 3) := by decide +kernel
theorem dX10_sweep_145 : decode cX10_sweep 145 = .ok (.lload_n 2, 1) := by decide +kernel
theorem dX10_sweep_146 : decode cX10_sweep 146 = .ok (.invokevirtual 114, 3) := by decide +kernel
theorem dX10_sweep_149 : decode cX10_sweep 149 = .ok (.iinc 1 1, 3) := by decide +kernel
theorem dX10_sweep_152 : decode cX10_sweep 152 = .ok (.goto (-99), 3) := by decide +kernel
theorem dX10_sweep_155 : decode cX10_sweep 155 = .ok (.return_, 1) := by decide +kernel
theorem dX10_nextLine_0 : decode cX10_nextLine 0 = .ok (.iconst (-1), 1) := by decide +kernel
theorem dX10_nextLine_1 : decode cX10_nextLine 1 = .ok (.istore_n 3, 1) := by decide +kernel
theorem dX10_nextLine_2 : decode cX10_nextLine 2 = .ok (.iconst 0, 1) := by decide +kernel
theorem dX10_nextLine_3 : decode cX10_nextLine 3 = .ok (.istore 4, 2) := by decide +kernel
theorem dX10_nextLine_5 : decode cX10_nextLine 5 = .ok (.iload 4, 2) := by decide +kernel
theorem dX10_nextLine_7 : decode cX10_nextLine 7 = .ok (.aload_n 0, 1) := by decide +kernel
theorem dX10_nextLine_8 : decode cX10_nextLine 8 = .ok (.getfield 106, 3) := by decide +kernel
theorem dX10_nextLine_11 : decode cX10_nextLine 11 = .ok (.if_icmp .ge 123, 3) := by decide +kernel
theorem dX10_nextLine_14 : decode cX10_nextLine 14 = .ok (.aload_n 0, 1) := by decide +kernel
theorem dX10_nextLine_15 : decode cX10_nextLine 15 = .ok (.getfield 41, 3) := by decide +kernel
theorem dX10_nextLine_18 : decode cX10_nextLine 18 = .ok (.iload 4, 2) := by decide +kernel
theorem dX10_nextLine_20 : decode cX10_nextLine 20 = .ok (.iaload, 1) := by decide +kernel
theorem dX10_nextLine_21 : decode cX10_nextLine 21 = .ok (.iload_n 1, 1) := by decide +kernel
theorem dX10_nextLine_22 : decode cX10_nextLine 22 = .ok (.if_icmp .ne 51, 3) := by decide +kernel
theorem dX10_nextLine_25 : decode cX10_nextLine 25 = .ok (.iload_n 2, 1) := by decide +kernel
theorem dX10_nextLine_26 : decode cX10_nextLine 26 = .ok (.ifCond .eq 28, 3) := by decide +kernel
theorem dX10_nextLine_29 : decode cX10_nextLine 29 = .ok (.aload_n 0, 1) := by decide +kernel
theorem dX10_nextLine_30 : decode cX10_nextLine 30 = .ok (.getfield 7, 3) := by decide +kernel
theorem dX10_nextLine_33 : decode cX10_nextLine 33 = .ok (.bipush 70, 2) := by decide +kernel
theorem dX10_nextLine_35 : decode cX10_nextLine 35 = .ok (.iload 4, 2) := by decide +kernel
theorem dX10_nextLine_37 : decode cX10_nextLine 37 = .ok (.iadd, 1) := by decide +kernel
theorem dX10_nextLine_38 : decode cX10_nextLine 38 = .ok (.laload, 1) := by decide +kernel
theorem dX10_nextLine_39 : decode cX10_nextLine 39 = .ok (.aload_n 0, 1) := by decide +kernel
theorem dX10_nextLine_40 : decode cX10_nextLine 40 = .ok (.getfield 44, 3) := by decide +kernel
theorem dX10_nextLine_43 : decode cX10_nextLine 43 = .ok (.iload 4, 2) := by decide +kernel
theorem dX10_nextLine_45 : decode cX10_nextLine 45 = .ok (.iaload, 1) := by decide +kernel
theorem dX10_nextLine_46 : decode cX10_nextLine 46 = .ok (.i2l, 1) := by decide +kernel
theorem dX10_nextLine_47 : decode cX10_nextLine 47 = .ok (.lcmp, 1) := by decide +kernel
theorem dX10_nextLine_48 : decode cX10_nextLine 48 = .ok (.ifCond .ge 25, 3) := by decide +kernel
theorem dX10_nextLine_51 : decode cX10_nextLine 51 = .ok (.goto 18, 3) := by decide +kernel
theorem dX10_nextLine_54 : decode cX10_nextLine 54 = .ok (.aload_n 0, 1) := by decide +kernel
theorem dX10_nextLine_55 : decode cX10_nextLine 55 = .ok (.getfield 7, 3) := by decide +kernel
theorem dX10_nextLine_58 : decode cX10_nextLine 58 = .ok (.bipush 70, 2) := by decide +kernel
theorem dX10_nextLine_60 : decode cX10_nextLine 60 = .ok (.iload 4, 2) := by decide +kernel
theorem dX10_nextLine_62 : decode cX10_nextLine 62 = .ok (.iadd, 1) := by decide +kernel
theorem dX10_nextLine_63 : decode cX10_nextLine 63 = .ok (.laload, 1) := by decide +kernel
theorem dX10_nextLine_64 : decode cX10_nextLine 64 = .ok (.lconst 0, 1) := by decide +kernel
theorem dX10_nextLine_65 : decode cX10_nextLine 65 = .ok (.lcmp, 1) := by decide +kernel
theorem dX10_nextLine_66 : decode cX10_nextLine 66 = .ok (.ifCond .le 7, 3) := by decide +kernel
theorem dX10_nextLine_69 : decode cX10_nextLine 69 = .ok (.iconst 1, 1) := by decide +kernel
theorem dX10_nextLine_70 : decode cX10_nextLine 70 = .ok (.goto 4, 3) := by decide +kernel
theorem dX10_nextLine_73 : decode cX10_nextLine 73 = .ok (.iconst 0, 1) := by decide +kernel
theorem dX10_nextLine_74 : decode cX10_nextLine 74 = .ok (.istore 5, 2) := by decide +kernel
theorem dX10_nextLine_76 : decode cX10_nextLine 76 = .ok (.iload 5, 2) := by decide +kernel
theorem dX10_nextLine_78 : decode cX10_nextLine 78 = .ok (.ifCond .eq 50, 3) := by decide +kernel
theorem dX10_nextLine_81 : decode cX10_nextLine 81 = .ok (.iload_n 3, 1) := by decide +kernel
theorem dX10_nextLine_82 : decode cX10_nextLine 82 = .ok (.iconst (-1), 1) := by decide +kernel
theorem dX10_nextLine_83 : decode cX10_nextLine 83 = .ok (.if_icmp .eq 42, 3) := by decide +kernel
theorem dX10_nextLine_86 : decode cX10_nextLine 86 = .ok (.iload_n 2, 1) := by decide +kernel
theorem dX10_nextLine_87 : decode cX10_nextLine 87 = .ok (.ifCond .eq 22, 3) := by decide +kernel
theorem dX10_nextLine_90 : decode cX10_nextLine 90 = .ok (.aload_n 0, 1) := by decide +kernel
theorem dX10_nextLine_91 : decode cX10_nextLine 91 = .ok (.getfield 47, 3) := by decide +kernel
theorem dX10_nextLine_94 : decode cX10_nextLine 94 = .ok (.iload 4, 2) := by decide +kernel
theorem dX10_nextLine_96 : decode cX10_nextLine 96 = .ok (.iaload, 1) := by decide +kernel
theorem dX10_nextLine_97 : decode cX10_nextLine 97 = .ok (.aload_n 0, 1) := by decide +kernel
theorem dX10_nextLine_98 : decode cX10_nextLine 98 = .ok (.getfield 47, 3) := by decide +kernel
theorem dX10_nextLine_101 : decode cX10_nextLine 101 = .ok (.iload_n 3, 1) := by decide +kernel
theorem dX10_nextLine_102 : decode cX10_nextLine 102 = .ok (.iaload, 1) := by decide +kernel
theorem dX10_nextLine_103 : decode cX10_nextLine 103 = .ok (.if_icmp .ge 25, 3) := by decide +kernel
theorem dX10_nextLine_106 : decode cX10_nextLine 106 = .ok (.goto 19, 3) := by decide +kernel
theorem dX10_nextLine_109 : decode cX10_nextLine 109 = .ok (.aload_n 0, 1) := by decide +kernel
theorem dX10_nextLine_110 : decode cX10_nextLine 110 = .ok (.getfield 47, 3) := by decide +kernel
theorem dX10_nextLine_113 : decode cX10_nextLine 113 = .ok (.iload 4, 2) := by decide +kernel
theorem dX10_nextLine_115 : decode cX10_nextLine 115 = .ok (.iaload, 1) := by decide +kernel
theorem dX10_nextLine_116 : decode cX10_nextLine 116 = .ok (.aload_n 0, 1) := by decide +kernel
theorem dX10_nextLine_117 : decode cX10_nextLine 117 = .ok (.getfield 47, 3) := by decide +kernel
theorem dX10_nextLine_120 : decode cX10_nextLine 120 = .ok (.iload_n 3, 1) := by decide +kernel
theorem dX10_nextLine_121 : decode cX10_nextLine 121 = .ok (.iaload, 1) := by decide +kernel
theorem dX10_nextLine_122 : decode cX10_nextLine 122 = .ok (.if_icmp .lt 6, 3) := by decide +kernel
theorem dX10_nextLine_125 : decode cX10_nextLine 125 = .ok (.iload 4, 2) := by decide +kernel
theorem dX10_nextLine_127 : decode cX10_nextLine 127 = .ok (.istore_n 3, 1) := by decide +kernel
theorem dX10_nextLine_128 : decode cX10_nextLine 128 = .ok (.iinc 4 1, 3) := by decide +kernel
theorem dX10_nextLine_131 : decode cX10_nextLine 131 = .ok (.goto (-126), 3) := by decide +kernel
theorem dX10_nextLine_134 : decode cX10_nextLine 134 = .ok (.iload_n 3, 1) := by decide +kernel
theorem dX10_nextLine_135 : decode cX10_nextLine 135 = .ok (.ireturn, 1) := by decide +kernel
set_option maxRecDepth 20000 in
theorem ggX10_cover_X10_nextLine : GoodIn wsX10_cover wsX10_nextLine := goodIn_r _ [7, 8, 9, 1, 2, 10, 11, 12, 13, 14, 15, 16, 17, 18, 19, 20, 21, 22, 23, 24, 25, 26, 27, 28, 29, 30, 31, 32, 33, 34, 35] (by decide +kernel) (by decide +kernel)
set_option maxRecDepth 20000 in
theorem gX10_cover_X10_nextLine : GoodIn wsX10_cover (wsV RX10 118 RX10 yX10_nextLine wsX10_nextLine) := goodIn_app (goodIn_of _ (by decide +kernel)) ggX10_cover_X10_nextLine
theorem dX10_cover_0 : decode cX10_cover 0 = .ok (.aload_n 0, 1) := by decide +kernel
theorem dX10_cover_1 : decode cX10_cover 1 = .ok (.getfield 7, 3) := by decide +kernel
theorem dX10_cover_4 : decode cX10_cover 4 = .ok (.iconst 0, 1) := by decide +kernel
theorem dX10_cover_5 : decode cX10_cover 5 = .ok (.iload_n 1, 1) := by decide +kernel
theorem dX10_cover_6 : decode cX10_cover 6 = .ok (.iadd, 1) := by decide +kernel
theorem dX10_cover_7 : decode cX10_cover 7 = .ok (.laload, 1) := by decide +kernel
theorem dX10_cover_8 : decode cX10_cover 8 = .ok (.lconst 0, 1) := by decide +kernel
theorem dX10_cover_9 : decode cX10_cover 9 = .ok (.lcmp, 1) := by decide +kernel
theorem dX10_cover_10 : decode cX10_cover 10 = .ok (.ifCond .ge 7, 3) := by decide +kernel
theorem dX10_cover_13 : decode cX10_cover 13 = .ok (.iconst 1, 1) := by decide +kernel
theorem dX10_cover_14 : decode cX10_cover 14 = .ok (.goto 4, 3) := by decide +kernel
theorem dX10_cover_17 : decode cX10_cover 17 = .ok (.iconst 0, 1) := by decide +kernel
theorem dX10_cover_18 : decode cX10_cover 18 = .ok (.istore_n 2, 1) := by decide +kernel
theorem dX10_cover_19 : decode cX10_cover 19 = .ok (.aload_n 0, 1) := by decide +kernel
theorem dX10_cover_20 : decode cX10_cover 20 = .ok (.iload_n 1, 1) := by decide +kernel
theorem dX10_cover_21 : decode cX10_cover 21 = .ok (.iload_n 2, 1) := by decide +kernel
theorem dX10_cover_22 : decode cX10_cover 22 = .ok (.invokevirtual 118, 3) := by decide +kernel
theorem dX10_cover_25 : decode cX10_cover 25 = .ok (.istore_n 3, 1) := by decide +kernel
theorem dX10_cover_26 : decode cX10_cover 26 = .ok (.iload_n 3, 1) := by decide +kernel
theorem dX10_cover_27 : decode cX10_cover 27 = .ok (.iconst (-1), 1) := by decide +kernel
theorem dX10_cover_28 : decode cX10_cover 28 = .ok (.if_icmp .eq 151, 3) := by decide +kernel
theorem dX10_cover_31 : decode cX10_cover 31 = .ok (.aload_n 0, 1) := by decide +kernel
theorem dX10_cover_32 : decode cX10_cover 32 = .ok (.getfield 7, 3) := by decide +kernel
theorem dX10_cover_35 : decode cX10_cover 35 = .ok (.iconst 0, 1) := by decide +kernel
theorem dX10_cover_36 : decode cX10_cover 36 = .ok (.iload_n 1, 1) := by decide +kernel
theorem dX10_cover_37 : decode cX10_cover 37 = .ok (.iadd, 1) := by decide +kernel
theorem dX10_cover_38 : decode cX10_cover 38 = .ok (.laload, 1) := by decide +kernel
theorem dX10_cover_39 : decode cX10_cover 39 = .ok (.lconst 0, 1) := by decide +kernel
theorem dX10_cover_40 : decode cX10_cover 40 = .ok (.lcmp, 1) := by decide +kernel
theorem dX10_cover_41 : decode cX10_cover 41 = .ok (.ifCond .eq 138, 3) := by decide +kernel
theorem dX10_cover_44 : decode cX10_cover 44 = .ok (.iload_n 2, 1) := by decide +kernel
theorem dX10_cover_45 : decode cX10_cover 45 = .ok (.ifCond .eq 23, 3) := by decide +kernel
theorem dX10_cover_48 : decode cX10_cover 48 = .ok (.aload_n 0, 1) := by decide +kernel
theorem dX10_cover_49 : decode cX10_cover 49 = .ok (.getfield 44, 3) := by decide +kernel
theorem dX10_cover_52 : decode cX10_cover 52 = .ok (.iload_n 3, 1) := by decide +kernel
theorem dX10_cover_53 : decode cX10_cover 53 = .ok (.iaload, 1) := by decide +kernel
theorem dX10_cover_54 : decode cX10_cover 54 = .ok (.i2l, 1) := by decide +kernel
theorem dX10_cover_55 : decode cX10_cover 55 = .ok (.aload_n 0, 1) := by decide +kernel
theorem dX10_cover_56 : decode cX10_cover 56 = .ok (.getfield 7, 3) := by decide +kernel
theorem dX10_cover_59 : decode cX10_cover 59 = .ok (.bipush 70, 2) := by decide +kernel
theorem dX10_cover_61 : decode cX10_cover 61 = .ok (.iload_n 3, 1) := by decide +kernel
theorem dX10_cover_62 : decode cX10_cover 62 = .ok (.iadd, 1) := by decide +kernel
theorem dX10_cover_63 : decode cX10_cover 63 = .ok (.laload, 1) := by decide +kernel
theorem dX10_cover_64 : decode cX10_cover 64 = .ok (.lsub, 1) := by decide +kernel
theorem dX10_cover_65 : decode cX10_cover 65 = .ok (.goto 12, 3) := by decide +kernel
theorem dX10_cover_68 : decode cX10_cover 68 = .ok (.aload_n 0, 1) := by decide +kernel
theorem dX10_cover_69 : decode cX10_cover 69 = .ok (.getfield 7, 3) := by decide +kernel
theorem dX10_cover_72 : decode cX10_cover 72 = .ok (.bipush 70, 2) := by decide +kernel
theorem dX10_cover_74 : decode cX10_cover 74 = .ok (.iload_n 3, 1) := by decide +kernel
theorem dX10_cover_75 : decode cX10_cover 75 = .ok (.iadd, 1) := by decide +kernel
theorem dX10_cover_76 : decode cX10_cover 76 = .ok (.laload, 1) := by decide +kernel
theorem dX10_cover_77 : decode cX10_cover 77 = .ok (.lstore 4, 2) := by decide +kernel
theorem dX10_cover_79 : decode cX10_cover 79 = .ok (.iload_n 2, 1) := by decide +kernel
theorem dX10_cover_80 : decode cX10_cover 80 = .ok (.ifCond .eq 15, 3) := by decide +kernel
theorem dX10_cover_83 : decode cX10_cover 83 = .ok (.aload_n 0, 1) := by decide +kernel
theorem dX10_cover_84 : decode cX10_cover 84 = .ok (.getfield 7, 3) := by decide +kernel
theorem dX10_cover_87 : decode cX10_cover 87 = .ok (.iconst 0, 1) := by decide +kernel
theorem dX10_cover_88 : decode cX10_cover 88 = .ok (.iload_n 1, 1) := by decide +kernel
theorem dX10_cover_89 : decode cX10_cover 89 = .ok (.iadd, 1) := by decide +kernel
theorem dX10_cover_90 : decode cX10_cover 90 = .ok (.laload, 1) := by decide +kernel
theorem dX10_cover_91 : decode cX10_cover 91 = .ok (.lneg, 1) := by decide +kernel
theorem dX10_cover_92 : decode cX10_cover 92 = .ok (.goto 11, 3) := by decide +kernel
theorem dX10_cover_95 : decode cX10_cover 95 = .ok (.aload_n 0, 1) := by decide +kernel
theorem dX10_cover_96 : decode cX10_cover 96 = .ok (.getfield 7, 3) := by decide +kernel
theorem dX10_cover_99 : decode cX10_cover 99 = .ok (.iconst 0, 1) := by decide +kernel
theorem dX10_cover_100 : decode cX10_cover 100 = .ok (.iload_n 1, 1) := by decide +kernel
theorem dX10_cover_101 : decode cX10_cover 101 = .ok (.iadd, 1) := by decide +kernel
theorem dX10_cover_102 : decode cX10_cover 102 = .ok (.laload, 1) := by decide +kernel
theorem dX10_cover_103 : decode cX10_cover 103 = .ok (.lstore 6, 2) := by decide +kernel
theorem dX10_cover_105 : decode cX10_cover 105 = .ok (.lload 4, 2) := by decide +kernel
theorem dX10_cover_107 : decode cX10_cover 107 = .ok (.lload 6, 2) := by decide +kernel
theorem dX10_cover_109 : decode cX10_cover 109 = .ok (.lcmp, 1) := by decide +kernel
theorem dX10_cover_110 : decode cX10_cover 110 = .ok (.ifCond .ge 8, 3) := by decide +kernel
theorem dX10_cover_113 : decode cX10_cover 113 = .ok (.lload 4, 2) := by decide +kernel
theorem dX10_cover_115 : decode cX10_cover 115 = .ok (.goto 5, 3) := by decide +kernel
theorem dX10_cover_118 : decode cX10_cover 118 = .ok (.lload 6, 2) := by decide +kernel
theorem dX10_cover_120 : decode cX10_cover 120 = .ok (.lstore 8, 2) := by decide +kernel
theorem dX10_cover_122 : decode cX10_cover 122 = .ok (.aload_n 0, 1) := by decide +kernel
theorem dX10_cover_123 : decode cX10_cover 123 = .ok (.getfield 7, 3) := by decide +kernel
theorem dX10_cover_126 : decode cX10_cover 126 = .ok (.bipush 70, 2) := by decide +kernel
theorem dX10_cover_128 : decode cX10_cover 128 = .ok (.iload_n 3, 1) := by decide +kernel
theorem dX10_cover_129 : decode cX10_cover 129 = .ok (.iadd, 1) := by decide +kernel
theorem dX10_cover_130 : decode cX10_cover 130 = .ok (.dup2, 1) := by decide +kernel
theorem dX10_cover_131 : decode cX10_cover 131 = .ok (.laload, 1) := by decide +kernel
theorem dX10_cover_132 : decode cX10_cover 132 = .ok (.iload_n 2, 1) := by decide +kernel
theorem dX10_cover_133 : decode cX10_cover 133 = .ok (.ifCond .eq 8, 3) := by decide +kernel
theorem dX10_cover_136 : decode cX10_cover 136 = .ok (.lload 8, 2) := by decide +kernel
theorem dX10_cover_138 : decode cX10_cover 138 = .ok (.goto 6, 3) := by decide +kernel
theorem dX10_cover_141 : decode cX10_cover 141 = .ok (.lload 8, 2) := by decide +kernel
theorem dX10_cover_143 : decode cX10_cover 143 = .ok (.lneg, 1) := by decide +kernel
theorem dX10_cover_144 : decode cX10_cover 144 = .ok (.ladd, 1) := by decide +kernel
theorem dX10_cover_145 : decode cX10_cover 145 = .ok (.lastore, 1) := by decide +kernel
theorem dX10_cover_146 : decode cX10_cover 146 = .ok (.aload_n 0, 1) := by decide +kernel
theorem dX10_cover_147 : decode cX10_cover 147 = .ok (.getfield 7, 3) := by decide +kernel
theorem dX10_cover_150 : decode cX10_cover 150 = .ok (.iconst 0, 1) := by decide +kernel
theorem dX10_cover_151 : decode cX10_cover 151 = .ok (.iload_n 1, 1) := by decide +kernel
theorem dX10_cover_152 : decode cX10_cover 152 = .ok (.iadd, 1) := by decide +kernel
theorem dX10_cover_153 : decode cX10_cover 153 = .ok (.dup2, 1) := by decide +kernel
theorem dX10_cover_154 : decode cX10_cover 154 = .ok (.laload, 1) := by decide +kernel
theorem dX10_cover_155 : decode cX10_cover 155 = .ok (.iload_n 2, 1) := by decide +kernel
theorem dX10_cover_156 : decode cX10_cover 156 = .ok (.ifCond .eq 8, 3) := by decide +kernel
theorem dX10_cover_159 : decode cX10_cover 159 = .ok (.lload 8, 2) := by decide +kernel
theorem dX10_cover_161 : decode cX10_cover 161 = .ok (.goto 6, 3) := by decide +kernel
theorem dX10_cover_164 : decode cX10_cover 164 = .ok (.lload 8, 2) := by decide +kernel
theorem dX10_cover_166 : decode cX10_cover 166 = .ok (.lneg, 1) := by decide +kernel
theorem dX10_cover_167 : decode cX10_cover 167 = .ok (.ladd, 1) := by decide +kernel
theorem dX10_cover_168 : decode cX10_cover 168 = .ok (.lastore, 1) := by decide +kernel
theorem dX10_cover_169 : decode cX10_cover 169 = .ok (.aload_n 0, 1) := by decide +kernel
theorem dX10_cover_170 : decode cX10_cover 170 = .ok (.iload_n 1, 1) := by decide +kernel
theorem dX10_cover_171 : decode cX10_cover 171 = .ok (.iload_n 2, 1) := by decide +kernel
theorem dX10_cover_172 : decode cX10_cover 172 = .ok (.invokevirtual 118, 3) := by decide +kernel
theorem dX10_cover_175 : decode cX10_cover 175 = .ok (.istore_n 3, 1) := by decide +kernel
theorem dX10_cover_176 : decode cX10_cover 176 = .ok (.goto (-150), 3) := by decide +kernel
theorem dX10_cover_179 : decode cX10_cover 179 = .ok (.return_, 1) := by decide +kernel
theorem dX10_exposed_0 : decode cX10_exposed 0 = .ok (.lconst 0, 1) := by decide +kernel
theorem dX10_exposed_1 : decode cX10_exposed 1 = .ok (.lstore_n 2, 1) := by decide +kernel
theorem dX10_exposed_2 : decode cX10_exposed 2 = .ok (.iconst 0, 1) := by decide +kernel
theorem dX10_exposed_3 : decode cX10_exposed 3 = .ok (.istore 4, 2) := by decide +kernel
theorem dX10_exposed_5 : decode cX10_exposed 5 = .ok (.iload 4, 2) := by decide +kernel
theorem dX10_exposed_7 : decode cX10_exposed 7 = .ok (.aload_n 0, 1) := by decide +kernel
theorem dX10_exposed_8 : decode cX10_exposed 8 = .ok (.getfield 79, 3) := by decide +kernel
theorem dX10_exposed_11 : decode cX10_exposed 11 = .ok (.if_icmp .ge 50, 3) := by decide +kernel
theorem dX10_exposed_14 : decode cX10_exposed 14 = .ok (.lload_n 2, 1) := by decide +kernel
theorem dX10_exposed_15 : decode cX10_exposed 15 = .ok (.aload_n 0, 1) := by decide +kernel
theorem dX10_exposed_16 : decode cX10_exposed 16 = .ok (.getfield 23, 3) := by decide +kernel
theorem dX10_exposed_19 : decode cX10_exposed 19 = .ok (.iload 4, 2) := by decide +kernel
theorem dX10_exposed_21 : decode cX10_exposed 21 = .ok (.iaload, 1) := by decide +kernel
theorem dX10_exposed_22 : decode cX10_exposed 22 = .ok (.iload_n 1, 1) := by decide +kernel
theorem dX10_exposed_23 : decode cX10_exposed 23 = .ok (.if_icmp .ne 29, 3) := by decide +kernel
theorem dX10_exposed_26 : decode cX10_exposed 26 = .ok (.aload_n 0, 1) := by decide +kernel
theorem dX10_exposed_27 : decode cX10_exposed 27 = .ok (.getfield 7, 3) := by decide +kernel
theorem dX10_exposed_30 : decode cX10_exposed 30 = .ok (.iconst 0, 1) := by decide +kernel
theorem dX10_exposed_31 : decode cX10_exposed 31 = .ok (.iload 4, 2) := by decide +kernel
theorem dX10_exposed_33 : decode cX10_exposed 33 = .ok (.iadd, 1) := by decide +kernel
theorem dX10_exposed_34 : decode cX10_exposed 34 = .ok (.laload, 1) := by decide +kernel
theorem dX10_exposed_35 : decode cX10_exposed 35 = .ok (.lconst 0, 1) := by decide +kernel
theorem dX10_exposed_36 : decode cX10_exposed 36 = .ok (.lcmp, 1) := by decide +kernel
theorem dX10_exposed_37 : decode cX10_exposed 37 = .ok (.ifCond .le 15, 3) := by decide +kernel
theorem dX10_exposed_40 : decode cX10_exposed 40 = .ok (.aload_n 0, 1) := by decide +kernel
theorem dX10_exposed_41 : decode cX10_exposed 41 = .ok (.getfield 7, 3) := by decide +kernel
theorem dX10_exposed_44 : decode cX10_exposed 44 = .ok (.iconst 0, 1) := by decide +kernel
theorem dX10_exposed_45 : decode cX10_exposed 45 = .ok (.iload 4, 2) := by decide +kernel
theorem dX10_exposed_47 : decode cX10_exposed 47 = .ok (.iadd, 1) := by decide +kernel
theorem dX10_exposed_48 : decode cX10_exposed 48 = .ok (.laload, 1) := by decide +kernel
theorem dX10_exposed_49 : decode cX10_exposed 49 = .ok (.goto 4, 3) := by decide +kernel
theorem dX10_exposed_52 : decode cX10_exposed 52 = .ok (.lconst 0, 1) := by decide +kernel
theorem dX10_exposed_53 : decode cX10_exposed 53 = .ok (.ladd, 1) := by decide +kernel
theorem dX10_exposed_54 : decode cX10_exposed 54 = .ok (.lstore_n 2, 1) := by decide +kernel
theorem dX10_exposed_55 : decode cX10_exposed 55 = .ok (.iinc 4 1, 3) := by decide +kernel
theorem dX10_exposed_58 : decode cX10_exposed 58 = .ok (.goto (-53), 3) := by decide +kernel
theorem dX10_exposed_61 : decode cX10_exposed 61 = .ok (.lload_n 2, 1) := by decide +kernel
theorem dX10_exposed_62 : decode cX10_exposed 62 = .ok (.lreturn, 1) := by decide +kernel
set_option maxRecDepth 20000 in
theorem ggX10_excess_X10_exposed : GoodIn wsX10_excess wsX10_exposed := goodIn_r _ [6, 7, 8, 9, 10, 11, 12, 13, 14, 15, 16, 17, 18, 19, 20, 21, 22, 23, 24, 25, 26, 27, 28, 29, 30, 31, 32, 33, 34] (by decide +kernel) (by decide +kernel)
set_option maxRecDepth 20000 in
theorem gX10_excess_X10_exposed : GoodIn wsX10_excess (wsV RX10 122 RX10 yX10_exposed wsX10_exposed) := goodIn_app (goodIn_of _ (by decide +kernel)) ggX10_excess_X10_exposed
theorem dX10_excess_0 : decode cX10_excess 0 = .ok (.aload_n 0, 1) := by decide +kernel
theorem dX10_excess_1 : decode cX10_excess 1 = .ok (.iload_n 1, 1) := by decide +kernel
theorem dX10_excess_2 : decode cX10_excess 2 = .ok (.invokevirtual 122, 3) := by decide +kernel
theorem dX10_excess_5 : decode cX10_excess 5 = .ok (.aload_n 0, 1) := by decide +kernel
theorem dX10_excess_6 : decode cX10_excess 6 = .ok (.getfield 50, 3) := by decide +kernel
theorem dX10_excess_9 : decode cX10_excess 9 = .ok (.iload_n 1, 1) := by decide +kernel
theorem dX10_excess_10 : decode cX10_excess 10 = .ok (.iaload, 1) := by decide +kernel
theorem dX10_excess_11 : decode cX10_excess 11 = .ok (.i2l, 1) := by decide +kernel
theorem dX10_excess_12 : decode cX10_excess 12 = .ok (.lsub, 1) := by decide +kernel
theorem dX10_excess_13 : decode cX10_excess 13 = .ok (.lstore_n 2, 1) := by decide +kernel
theorem dX10_excess_14 : decode cX10_excess 14 = .ok (.aload_n 0, 1) := by decide +kernel
theorem dX10_excess_15 : decode cX10_excess 15 = .ok (.getfield 50, 3) := by decide +kernel
theorem dX10_excess_18 : decode cX10_excess 18 = .ok (.iload_n 1, 1) := by decide +kernel
theorem dX10_excess_19 : decode cX10_excess 19 = .ok (.iaload, 1) := by decide +kernel
theorem dX10_excess_20 : decode cX10_excess 20 = .ok (.iconst (-1), 1) := by decide +kernel
theorem dX10_excess_21 : decode cX10_excess 21 = .ok (.if_icmp .eq 9, 3) := by decide +kernel
theorem dX10_excess_24 : decode cX10_excess 24 = .ok (.lload_n 2, 1) := by decide +kernel
theorem dX10_excess_25 : decode cX10_excess 25 = .ok (.lconst 0, 1) := by decide +kernel
theorem dX10_excess_26 : decode cX10_excess 26 = .ok (.lcmp, 1) := by decide +kernel
theorem dX10_excess_27 : decode cX10_excess 27 = .ok (.ifCond .ge 7, 3) := by decide +kernel
theorem dX10_excess_30 : decode cX10_excess 30 = .ok (.lconst 0, 1) := by decide +kernel
theorem dX10_excess_31 : decode cX10_excess 31 = .ok (.goto 4, 3) := by decide +kernel
theorem dX10_excess_34 : decode cX10_excess 34 = .ok (.lload_n 2, 1) := by decide +kernel
theorem dX10_excess_35 : decode cX10_excess 35 = .ok (.lreturn, 1) := by decide +kernel
set_option maxRecDepth 20000 in
theorem ggX10_room_X10_exposed : GoodIn wsX10_room wsX10_exposed := goodIn_r _ [7, 8, 9, 10, 11, 12, 13, 14, 15, 16, 17, 18, 19, 20, 21, 22, 23, 24, 25, 26, 27, 28, 29, 30, 31, 32, 33, 34, 35] (by decide +kernel) (by decide +kernel)
set_option maxRecDepth 20000 in
theorem gX10_room_X10_exposed : GoodIn wsX10_room (wsV RX10 122 RX10 yX10_exposed wsX10_exposed) := goodIn_app (goodIn_of _ (by decide +kernel)) ggX10_room_X10_exposed
theorem dX10_room_0 : decode cX10_room 0 = .ok (.aload_n 0, 1) := by decide +kernel
theorem dX10_room_1 : decode cX10_room 1 = .ok (.getfield 50, 3) := by decide +kernel
theorem dX10_room_4 : decode cX10_room 4 = .ok (.iload_n 1, 1) := by decide +kernel
theorem dX10_room_5 : decode cX10_room 5 = .ok (.iaload, 1) := by decide +kernel
theorem dX10_room_6 : decode cX10_room 6 = .ok (.i2l, 1) := by decide +kernel
theorem dX10_room_7 : decode cX10_room 7 = .ok (.aload_n 0, 1) := by decide +kernel
theorem dX10_room_8 : decode cX10_room 8 = .ok (.iload_n 1, 1) := by decide +kernel
theorem dX10_room_9 : decode cX10_room 9 = .ok (.invokevirtual 122, 3) := by decide +kernel
theorem dX10_room_12 : decode cX10_room 12 = .ok (.lsub, 1) := by decide +kernel
theorem dX10_room_13 : decode cX10_room 13 = .ok (.lstore_n 2, 1) := by decide +kernel
theorem dX10_room_14 : decode cX10_room 14 = .ok (.aload_n 0, 1) := by decide +kernel
theorem dX10_room_15 : decode cX10_room 15 = .ok (.getfield 50, 3) := by decide +kernel
theorem dX10_room_18 : decode cX10_room 18 = .ok (.iload_n 1, 1) := by decide +kernel
theorem dX10_room_19 : decode cX10_room 19 = .ok (.iaload, 1) := by decide +kernel
theorem dX10_room_20 : decode cX10_room 20 = .ok (.iconst (-1), 1) := by decide +kernel
theorem dX10_room_21 : decode cX10_room 21 = .ok (.if_icmp .ne 9, 3) := by decide +kernel
theorem dX10_room_24 : decode cX10_room 24 = .ok (.ldc2_w 125, 3) := by decide +kernel
theorem dX10_room_27 : decode cX10_room 27 = .ok (.goto 14, 3) := by decide +kernel
theorem dX10_room_30 : decode cX10_room 30 = .ok (.lload_n 2, 1) := by decide +kernel
theorem dX10_room_31 : decode cX10_room 31 = .ok (.lconst 0, 1) := by decide +kernel
theorem dX10_room_32 : decode cX10_room 32 = .ok (.lcmp, 1) := by decide +kernel
theorem dX10_room_33 : decode cX10_room 33 = .ok (.ifCond .ge 7, 3) := by decide +kernel
theorem dX10_room_36 : decode cX10_room 36 = .ok (.lconst 0, 1) := by decide +kernel
theorem dX10_room_37 : decode cX10_room 37 = .ok (.goto 4, 3) := by decide +kernel
theorem dX10_room_40 : decode cX10_room 40 = .ok (.lload_n 2, 1) := by decide +kernel
theorem dX10_room_41 : decode cX10_room 41 = .ok (.lreturn, 1) := by decide +kernel
set_option maxRecDepth 20000 in
theorem ggX10_getter_X10_room : GoodIn wsX10_getter wsX10_room := goodIn_r _ [9, 10, 11, 12, 13, 14, 8, 15, 1, 4, 3, 16, 17, 18, 19, 20, 21, 22, 23, 24, 25, 26, 27, 28, 29, 30, 31, 32, 33, 34, 35, 36, 37, 38, 39, 40] (by decide +kernel) (by decide +kernel)
set_option maxRecDepth 20000 in
theorem gX10_getter_X10_room : GoodIn wsX10_getter (wsV RX10 127 RX10 yX10_room wsX10_room) := goodIn_app (goodIn_of _ (by decide +kernel)) ggX10_getter_X10_room
theorem dX10_getter_0 : decode cX10_getter 0 = .ok (.iconst (-1), 1) := by decide +kernel
theorem dX10_getter_1 : decode cX10_getter 1 = .ok (.istore_n 2, 1) := by decide +kernel
theorem dX10_getter_2 : decode cX10_getter 2 = .ok (.iconst 0, 1) := by decide +kernel
theorem dX10_getter_3 : decode cX10_getter 3 = .ok (.istore_n 3, 1) := by decide +kernel
theorem dX10_getter_4 : decode cX10_getter 4 = .ok (.iload_n 3, 1) := by decide +kernel
theorem dX10_getter_5 : decode cX10_getter 5 = .ok (.aload_n 0, 1) := by decide +kernel
theorem dX10_getter_6 : decode cX10_getter 6 = .ok (.getfield 79, 3) := by decide +kernel
theorem dX10_getter_9 : decode cX10_getter 9 = .ok (.if_icmp .ge 78, 3) := by decide +kernel
theorem dX10_getter_12 : decode cX10_getter 12 = .ok (.aload_n 0, 1) := by decide +kernel
theorem dX10_getter_13 : decode cX10_getter 13 = .ok (.getfield 20, 3) := by decide +kernel
theorem dX10_getter_16 : decode cX10_getter 16 = .ok (.iload_n 3, 1) := by decide +kernel
theorem dX10_getter_17 : decode cX10_getter 17 = .ok (.iaload, 1) := by decide +kernel
theorem dX10_getter_18 : decode cX10_getter 18 = .ok (.iload_n 1, 1) := by decide +kernel
theorem dX10_getter_19 : decode cX10_getter 19 = .ok (.if_icmp .ne 62, 3) := by decide +kernel
theorem dX10_getter_22 : decode cX10_getter 22 = .ok (.aload_n 0, 1) := by decide +kernel
theorem dX10_getter_23 : decode cX10_getter 23 = .ok (.getfield 7, 3) := by decide +kernel
theorem dX10_getter_26 : decode cX10_getter 26 = .ok (.iconst 0, 1) := by decide +kernel
theorem dX10_getter_27 : decode cX10_getter 27 = .ok (.iload_n 3, 1) := by decide +kernel
theorem dX10_getter_28 : decode cX10_getter 28 = .ok (.iadd, 1) := by decide +kernel
theorem dX10_getter_29 : decode cX10_getter 29 = .ok (.laload, 1) := by decide +kernel
theorem dX10_getter_30 : decode cX10_getter 30 = .ok (.lconst 0, 1) := by decide +kernel
theorem dX10_getter_31 : decode cX10_getter 31 = .ok (.lcmp, 1) := by decide +kernel
theorem dX10_getter_32 : decode cX10_getter 32 = .ok (.ifCond .lt 49, 3) := by decide +kernel
theorem dX10_getter_35 : decode cX10_getter 35 = .ok (.aload_n 0, 1) := by decide +kernel
theorem dX10_getter_36 : decode cX10_getter 36 = .ok (.aload_n 0, 1) := by decide +kernel
theorem dX10_getter_37 : decode cX10_getter 37 = .ok (.getfield 23, 3) := by decide +kernel
theorem dX10_getter_40 : decode cX10_getter 40 = .ok (.iload_n 3, 1) := by decide +kernel
theorem dX10_getter_41 : decode cX10_getter 41 = .ok (.iaload, 1) := by decide +kernel
theorem dX10_getter_42 : decode cX10_getter 42 = .ok (.invokevirtual 127, 3) := by decide +kernel
theorem dX10_getter_45 : decode cX10_getter 45 = .ok (.lconst 0, 1) := by decide +kernel
theorem dX10_getter_46 : decode cX10_getter 46 = .ok (.lcmp, 1) := by decide +kernel
theorem dX10_getter_47 : decode cX10_getter 47 = .ok (.ifCond .le 34, 3) := by decide +kernel
theorem dX10_getter_50 : decode cX10_getter 50 = .ok (.iload_n 2, 1) := by decide +kernel
theorem dX10_getter_51 : decode cX10_getter 51 = .ok (.iconst (-1), 1) := by decide +kernel
theorem dX10_getter_52 : decode cX10_getter 52 = .ok (.if_icmp .eq 27, 3) := by decide +kernel
theorem dX10_getter_55 : decode cX10_getter 55 = .ok (.aload_n 0, 1) := by decide +kernel
theorem dX10_getter_56 : decode cX10_getter 56 = .ok (.aload_n 0, 1) := by decide +kernel
theorem dX10_getter_57 : decode cX10_getter 57 = .ok (.getfield 23, 3) := by decide +kernel
theorem dX10_getter_60 : decode cX10_getter 60 = .ok (.iload_n 3, 1) := by decide +kernel
theorem dX10_getter_61 : decode cX10_getter 61 = .ok (.iaload, 1) := by decide +kernel
theorem dX10_getter_62 : decode cX10_getter 62 = .ok (.invokevirtual 127, 3) := by decide +kernel
theorem dX10_getter_65 : decode cX10_getter 65 = .ok (.aload_n 0, 1) := by decide +kernel
theorem dX10_getter_66 : decode cX10_getter 66 = .ok (.aload_n 0, 1) := by decide +kernel
theorem dX10_getter_67 : decode cX10_getter 67 = .ok (.getfield 23, 3) := by decide +kernel
theorem dX10_getter_70 : decode cX10_getter 70 = .ok (.iload_n 2, 1) := by decide +kernel
theorem dX10_getter_71 : decode cX10_getter 71 = .ok (.iaload, 1) := by decide +kernel
theorem dX10_getter_72 : decode cX10_getter 72 = .ok (.invokevirtual 127, 3) := by decide +kernel
theorem dX10_getter_75 : decode cX10_getter 75 = .ok (.lcmp, 1) := by decide +kernel
theorem dX10_getter_76 : decode cX10_getter 76 = .ok (.ifCond .le 5, 3) := by decide +kernel
theorem dX10_getter_79 : decode cX10_getter 79 = .ok (.iload_n 3, 1) := by decide +kernel
theorem dX10_getter_80 : decode cX10_getter 80 = .ok (.istore_n 2, 1) := by decide +kernel
theorem dX10_getter_81 : decode cX10_getter 81 = .ok (.iinc 3 1, 3) := by decide +kernel
theorem dX10_getter_84 : decode cX10_getter 84 = .ok (.goto (-80), 3) := by decide +kernel
theorem dX10_getter_87 : decode cX10_getter 87 = .ok (.iload_n 2, 1) := by decide +kernel
theorem dX10_getter_88 : decode cX10_getter 88 = .ok (.ireturn, 1) := by decide +kernel
set_option maxRecDepth 20000 in
theorem ggX10_givesFirst_X10_excess : GoodIn wsX10_givesFirst wsX10_excess := goodIn_r _ [7, 8, 9, 10, 11, 6, 12, 13, 1, 2, 14, 15, 16, 17, 18, 19, 20, 21, 22, 23, 24, 25, 26, 27, 28, 29, 30, 31, 32, 33, 34, 35, 36, 37, 38] (by decide +kernel) (by decide +kernel)
set_option maxRecDepth 20000 in
theorem gX10_givesFirst_X10_excess : GoodIn wsX10_givesFirst (wsV RX10 130 RX10 yX10_excess wsX10_excess) := goodIn_app (goodIn_of _ (by decide +kernel)) ggX10_givesFirst_X10_excess
theorem dX10_givesFirst_0 : decode cX10_givesFirst 0 = .ok (.aload_n 0, 1) := by decide +kernel
theorem dX10_givesFirst_1 : decode cX10_givesFirst 1 = .ok (.aload_n 0, 1) := by decide +kernel
theorem dX10_givesFirst_2 : decode cX10_givesFirst 2 = .ok (.getfield 23, 3) := by decide +kernel
theorem dX10_givesFirst_5 : decode cX10_givesFirst 5 = .ok (.iload_n 1, 1) := by decide +kernel
theorem dX10_givesFirst_6 : decode cX10_givesFirst 6 = .ok (.iaload, 1) := by decide +kernel
theorem dX10_givesFirst_7 : decode cX10_givesFirst 7 = .ok (.invokevirtual 130, 3) := by decide +kernel
theorem dX10_givesFirst_10 : decode cX10_givesFirst 10 = .ok (.aload_n 0, 1) := by decide +kernel
theorem dX10_givesFirst_11 : decode cX10_givesFirst 11 = .ok (.aload_n 0, 1) := by decide +kernel
theorem dX10_givesFirst_12 : decode cX10_givesFirst 12 = .ok (.getfield 23, 3) := by decide +kernel
theorem dX10_givesFirst_15 : decode cX10_givesFirst 15 = .ok (.iload_n 2, 1) := by decide +kernel
theorem dX10_givesFirst_16 : decode cX10_givesFirst 16 = .ok (.iaload, 1) := by decide +kernel
theorem dX10_givesFirst_17 : decode cX10_givesFirst 17 = .ok (.invokevirtual 130, 3) := by decide +kernel
theorem dX10_givesFirst_20 : decode cX10_givesFirst 20 = .ok (.lsub, 1) := by decide +kernel
theorem dX10_givesFirst_21 : decode cX10_givesFirst 21 = .ok (.lstore_n 3, 1) := by decide +kernel
theorem dX10_givesFirst_22 : decode cX10_givesFirst 22 = .ok (.aload_n 0, 1) := by decide +kernel
theorem dX10_givesFirst_23 : decode cX10_givesFirst 23 = .ok (.getfield 23, 3) := by decide +kernel
theorem dX10_givesFirst_26 : decode cX10_givesFirst 26 = .ok (.iload_n 2, 1) := by decide +kernel
theorem dX10_givesFirst_27 : decode cX10_givesFirst 27 = .ok (.iaload, 1) := by decide +kernel
theorem dX10_givesFirst_28 : decode cX10_givesFirst 28 = .ok (.aload_n 0, 1) := by decide +kernel
theorem dX10_givesFirst_29 : decode cX10_givesFirst 29 = .ok (.getfield 23, 3) := by decide +kernel
theorem dX10_givesFirst_32 : decode cX10_givesFirst 32 = .ok (.iload_n 1, 1) := by decide +kernel
theorem dX10_givesFirst_33 : decode cX10_givesFirst 33 = .ok (.iaload, 1) := by decide +kernel
theorem dX10_givesFirst_34 : decode cX10_givesFirst 34 = .ok (.isub, 1) := by decide +kernel
theorem dX10_givesFirst_35 : decode cX10_givesFirst 35 = .ok (.istore 5, 2) := by decide +kernel
theorem dX10_givesFirst_37 : decode cX10_givesFirst 37 = .ok (.lload_n 3, 1) := by decide +kernel
theorem dX10_givesFirst_38 : decode cX10_givesFirst 38 = .ok (.lconst 0, 1) := by decide +kernel
theorem dX10_givesFirst_39 : decode cX10_givesFirst 39 = .ok (.lcmp, 1) := by decide +kernel
theorem dX10_givesFirst_40 : decode cX10_givesFirst 40 = .ok (.ifCond .gt 39, 3) := by decide +kernel
theorem dX10_givesFirst_43 : decode cX10_givesFirst 43 = .ok (.lload_n 3, 1) := by decide +kernel
theorem dX10_givesFirst_44 : decode cX10_givesFirst 44 = .ok (.lconst 0, 1) := by decide +kernel
theorem dX10_givesFirst_45 : decode cX10_givesFirst 45 = .ok (.lcmp, 1) := by decide +kernel
theorem dX10_givesFirst_46 : decode cX10_givesFirst 46 = .ok (.ifCond .ne 37, 3) := by decide +kernel
theorem dX10_givesFirst_49 : decode cX10_givesFirst 49 = .ok (.iload 5, 2) := by decide +kernel
theorem dX10_givesFirst_51 : decode cX10_givesFirst 51 = .ok (.ifCond .gt 28, 3) := by decide +kernel
theorem dX10_givesFirst_54 : decode cX10_givesFirst 54 = .ok (.iload 5, 2) := by decide +kernel
theorem dX10_givesFirst_56 : decode cX10_givesFirst 56 = .ok (.ifCond .ne 27, 3) := by decide +kernel
theorem dX10_givesFirst_59 : decode cX10_givesFirst 59 = .ok (.aload_n 0, 1) := by decide +kernel
theorem dX10_givesFirst_60 : decode cX10_givesFirst 60 = .ok (.getfield 7, 3) := by decide +kernel
theorem dX10_givesFirst_63 : decode cX10_givesFirst 63 = .ok (.iconst 0, 1) := by decide +kernel
theorem dX10_givesFirst_64 : decode cX10_givesFirst 64 = .ok (.iload_n 1, 1) := by decide +kernel
theorem dX10_givesFirst_65 : decode cX10_givesFirst 65 = .ok (.iadd, 1) := by decide +kernel
theorem dX10_givesFirst_66 : decode cX10_givesFirst 66 = .ok (.laload, 1) := by decide +kernel
theorem dX10_givesFirst_67 : decode cX10_givesFirst 67 = .ok (.aload_n 0, 1) := by decide +kernel
theorem dX10_givesFirst_68 : decode cX10_givesFirst 68 = .ok (.getfield 7, 3) := by decide +kernel
theorem dX10_givesFirst_71 : decode cX10_givesFirst 71 = .ok (.iconst 0, 1) := by decide +kernel
theorem dX10_givesFirst_72 : decode cX10_givesFirst 72 = .ok (.iload_n 2, 1) := by decide +kernel
theorem dX10_givesFirst_73 : decode cX10_givesFirst 73 = .ok (.iadd, 1) := by decide +kernel
theorem dX10_givesFirst_74 : decode cX10_givesFirst 74 = .ok (.laload, 1) := by decide +kernel
theorem dX10_givesFirst_75 : decode cX10_givesFirst 75 = .ok (.lcmp, 1) := by decide +kernel
theorem dX10_givesFirst_76 : decode cX10_givesFirst 76 = .ok (.ifCond .le 7, 3) := by decide +kernel
theorem dX10_givesFirst_79 : decode cX10_givesFirst 79 = .ok (.iconst 1, 1) := by decide +kernel
theorem dX10_givesFirst_80 : decode cX10_givesFirst 80 = .ok (.goto 4, 3) := by decide +kernel
theorem dX10_givesFirst_83 : decode cX10_givesFirst 83 = .ok (.iconst 0, 1) := by decide +kernel
theorem dX10_givesFirst_84 : decode cX10_givesFirst 84 = .ok (.ireturn, 1) := by decide +kernel
set_option maxRecDepth 20000 in
theorem ggX10_giver_X10_excess : GoodIn wsX10_giver wsX10_excess := goodIn_r _ [9, 10, 11, 12, 13, 8, 14, 1, 3, 2, 28, 29, 30, 31, 32, 33, 34, 35, 36, 37, 38, 39, 40, 41, 42, 43, 44, 45, 46, 47, 48, 49, 50, 51, 52] (by decide +kernel) (by decide +kernel)
set_option maxRecDepth 20000 in
theorem gX10_giver_X10_excess : GoodIn wsX10_giver (wsV RX10 130 RX10 yX10_excess wsX10_excess) := goodIn_app (goodIn_of _ (by decide +kernel)) ggX10_giver_X10_excess
set_option maxRecDepth 20000 in
theorem ggX10_giver_X10_getter : GoodIn wsX10_giver wsX10_getter := goodIn_r _ [18, 1, 4, 2, 3, 19, 20, 21, 8, 22, 10, 23, 11, 12, 13, 14, 28, 29, 30, 31, 32, 33, 34, 35, 36, 37, 38, 39, 40, 41, 42, 43, 44, 45, 46, 47, 48, 49, 50, 51, 52] (by decide +kernel) (by decide +kernel)
set_option maxRecDepth 20000 in
theorem gX10_giver_X10_getter : GoodIn wsX10_giver (wsV RX10 133 RX10 yX10_getter wsX10_getter) := goodIn_app (goodIn_of _ (by decide +kernel)) ggX10_giver_X10_getter
set_option maxRecDepth 20000 in
theorem ggX10_giver_X10_givesFirst : GoodIn wsX10_giver wsX10_givesFirst := goodIn_r _ [27, 3, 2, 5, 6, 7, 8, 9, 10, 11, 12, 13, 14, 1, 28, 29, 30, 31, 32, 33, 34, 35, 36, 37, 38, 39, 40, 41, 42, 43, 44, 45, 46, 47, 48, 49, 50, 51, 52] (by decide +kernel) (by decide +kernel)
set_option maxRecDepth 20000 in
theorem gX10_giver_X10_givesFirst : GoodIn wsX10_giver (wsV RX10 137 RX10 yX10_givesFirst wsX10_givesFirst) := goodIn_app (goodIn_of _ (by decide +kernel)) ggX10_giver_X10_givesFirst
theorem dX10_giver_0 : decode cX10_giver 0 = .ok (.iconst (-1), 1) := by decide +kernel
theorem dX10_giver_1 : decode cX10_giver 1 = .ok (.istore_n 1, 1) := by decide +kernel
theorem dX10_giver_2 : decode cX10_giver 2 = .ok (.iconst 0, 1) := by decide +kernel
theorem dX10_giver_3 : decode cX10_giver 3 = .ok (.istore_n 2, 1) := by decide +kernel
theorem dX10_giver_4 : decode cX10_giver 4 = .ok (.iload_n 2, 1) := by decide +kernel
theorem dX10_giver_5 : decode cX10_giver 5 = .ok (.aload_n 0, 1) := by decide +kernel
theorem dX10_giver_6 : decode cX10_giver 6 = .ok (.getfield 79, 3) := by decide +kernel
theorem dX10_giver_9 : decode cX10_giver 9 = .ok (.if_icmp .ge 67, 3) := by decide +kernel
theorem dX10_giver_12 : decode cX10_giver 12 = .ok (.aload_n 0, 1) := by decide +kernel
theorem dX10_giver_13 : decode cX10_giver 13 = .ok (.getfield 7, 3) := by decide +kernel
theorem dX10_giver_16 : decode cX10_giver 16 = .ok (.iconst 0, 1) := by decide +kernel
theorem dX10_giver_17 : decode cX10_giver 17 = .ok (.iload_n 2, 1) := by decide +kernel
theorem dX10_giver_18 : decode cX10_giver 18 = .ok (.iadd, 1) := by decide +kernel
theorem dX10_giver_19 : decode cX10_giver 19 = .ok (.laload, 1) := by decide +kernel
theorem dX10_giver_20 : decode cX10_giver 20 = .ok (.lconst 0, 1) := by decide +kernel
theorem dX10_giver_21 : decode cX10_giver 21 = .ok (.lcmp, 1) := by decide +kernel
theorem dX10_giver_22 : decode cX10_giver 22 = .ok (.ifCond .le 48, 3) := by decide +kernel
theorem dX10_giver_25 : decode cX10_giver 25 = .ok (.aload_n 0, 1) := by decide +kernel
theorem dX10_giver_26 : decode cX10_giver 26 = .ok (.aload_n 0, 1) := by decide +kernel
theorem dX10_giver_27 : decode cX10_giver 27 = .ok (.getfield 23, 3) := by decide +kernel
theorem dX10_giver_30 : decode cX10_giver 30 = .ok (.iload_n 2, 1) := by decide +kernel
theorem dX10_giver_31 : decode cX10_giver 31 = .ok (.iaload, 1) := by decide +kernel
theorem dX10_giver_32 : decode cX10_giver 32 = .ok (.invokevirtual 130, 3) := by decide +kernel
theorem dX10_giver_35 : decode cX10_giver 35 = .ok (.lconst 0, 1) := by decide +kernel
theorem dX10_giver_36 : decode cX10_giver 36 = .ok (.lcmp, 1) := by decide +kernel
theorem dX10_giver_37 : decode cX10_giver 37 = .ok (.ifCond .le 33, 3) := by decide +kernel
theorem dX10_giver_40 : decode cX10_giver 40 = .ok (.aload_n 0, 1) := by decide +kernel
theorem dX10_giver_41 : decode cX10_giver 41 = .ok (.aload_n 0, 1) := by decide +kernel
theorem dX10_giver_42 : decode cX10_giver 42 = .ok (.getfield 20, 3) := by decide +kernel
theorem dX10_giver_45 : decode cX10_giver 45 = .ok (.iload_n 2, 1) := by decide +kernel
theorem dX10_giver_46 : decode cX10_giver 46 = .ok (.iaload, 1) := by decide +kernel
theorem dX10_giver_47 : decode cX10_giver 47 = .ok (.invokevirtual 133, 3) := by decide +kernel
theorem dX10_giver_50 : decode cX10_giver 50 = .ok (.iconst (-1), 1) := by decide +kernel
theorem dX10_giver_51 : decode cX10_giver 51 = .ok (.if_icmp .eq 19, 3) := by decide +kernel
theorem dX10_giver_54 : decode cX10_giver 54 = .ok (.iload_n 1, 1) := by decide +kernel
theorem dX10_giver_55 : decode cX10_giver 55 = .ok (.iconst (-1), 1) := by decide +kernel
theorem dX10_giver_56 : decode cX10_giver 56 = .ok (.if_icmp .eq 12, 3) := by decide +kernel
theorem dX10_giver_59 : decode cX10_giver 59 = .ok (.aload_n 0, 1) := by decide +kernel
theorem dX10_giver_60 : decode cX10_giver 60 = .ok (.iload_n 2, 1) := by decide +kernel
theorem dX10_giver_61 : decode cX10_giver 61 = .ok (.iload_n 1, 1) := by decide +kernel
theorem dX10_giver_62 : decode cX10_giver 62 = .ok (.invokevirtual 137, 3) := by decide +kernel
theorem dX10_giver_65 : decode cX10_giver 65 = .ok (.ifCond .eq 5, 3) := by decide +kernel
theorem dX10_giver_68 : decode cX10_giver 68 = .ok (.iload_n 2, 1) := by decide +kernel
theorem dX10_giver_69 : decode cX10_giver 69 = .ok (.istore_n 1, 1) := by decide +kernel
theorem dX10_giver_70 : decode cX10_giver 70 = .ok (.iinc 2 1, 3) := by decide +kernel
theorem dX10_giver_73 : decode cX10_giver 73 = .ok (.goto (-69), 3) := by decide +kernel
theorem dX10_giver_76 : decode cX10_giver 76 = .ok (.iload_n 1, 1) := by decide +kernel
theorem dX10_giver_77 : decode cX10_giver 77 = .ok (.ireturn, 1) := by decide +kernel
set_option maxRecDepth 20000 in
theorem ggX10_ease_X10_giver : GoodIn wsX10_ease wsX10_giver := goodIn_r _ [8, 9, 3, 2, 1, 10, 11, 12, 7, 13, 14, 15, 16, 17, 18, 19, 20, 21, 22, 23, 24, 25, 26, 27, 28, 29, 30, 31, 36, 37, 38, 39, 40, 41, 42, 43, 44, 45, 46, 47, 48, 49, 50, 51, 52, 53, 54, 55, 56, 57, 58, 59, 60] (by decide +kernel) (by decide +kernel)
set_option maxRecDepth 20000 in
theorem gX10_ease_X10_giver : GoodIn wsX10_ease (wsV RX10 141 RX10 yX10_giver wsX10_giver) := goodIn_app (goodIn_of _ (by decide +kernel)) ggX10_ease_X10_giver
set_option maxRecDepth 20000 in
theorem ggX10_ease_X10_getter : GoodIn wsX10_ease wsX10_getter := goodIn_r _ [22, 9, 1, 3, 2, 23, 24, 25, 7, 26, 14, 27, 15, 16, 17, 18, 36, 37, 38, 39, 40, 41, 42, 43, 44, 45, 46, 47, 48, 49, 50, 51, 52, 53, 54, 55, 56, 57, 58, 59, 60] (by decide +kernel) (by decide +kernel)
set_option maxRecDepth 20000 in
theorem gX10_ease_X10_getter : GoodIn wsX10_ease (wsV RX10 133 RX10 yX10_getter wsX10_getter) := goodIn_app (goodIn_of _ (by decide +kernel)) ggX10_ease_X10_getter
set_option maxRecDepth 20000 in
theorem ggX10_ease_X10_excess : GoodIn wsX10_ease wsX10_excess := goodIn_r _ [13, 14, 15, 16, 17, 7, 18, 9, 2, 3, 36, 37, 38, 39, 40, 41, 42, 43, 44, 45, 46, 47, 48, 49, 50, 51, 52, 53, 54, 55, 56, 57, 58, 59, 60] (by decide +kernel) (by decide +kernel)
set_option maxRecDepth 20000 in
theorem gX10_ease_X10_excess : GoodIn wsX10_ease (wsV RX10 130 RX10 yX10_excess wsX10_excess) := goodIn_app (goodIn_of _ (by decide +kernel)) ggX10_ease_X10_excess
set_option maxRecDepth 20000 in
theorem ggX10_ease_X10_room : GoodIn wsX10_ease wsX10_room := goodIn_r _ [26, 14, 27, 15, 16, 17, 7, 18, 9, 2, 3, 36, 37, 38, 39, 40, 41, 42, 43, 44, 45, 46, 47, 48, 49, 50, 51, 52, 53, 54, 55, 56, 57, 58, 59, 60] (by decide +kernel) (by decide +kernel)
set_option maxRecDepth 20000 in
theorem gX10_ease_X10_room : GoodIn wsX10_ease (wsV RX10 127 RX10 yX10_room wsX10_room) := goodIn_app (goodIn_of _ (by decide +kernel)) ggX10_ease_X10_room
set_option maxRecDepth 20000 in
theorem ggX10_ease_X10_moves : GoodIn wsX10_ease wsX10_moves := goodIn_r _ [35, 3, 36, 37, 38, 39, 40, 41, 42, 43, 44, 45, 46, 47, 48, 49, 50, 51, 52, 53, 54, 55, 56, 57, 58, 59, 60] (by decide +kernel) (by decide +kernel)
set_option maxRecDepth 20000 in
theorem gX10_ease_X10_moves : GoodIn wsX10_ease (wsV RX10 114 RX10 yX10_moves wsX10_moves) := goodIn_app (goodIn_of _ (by decide +kernel)) ggX10_ease_X10_moves
theorem dX10_ease_0 : decode cX10_ease 0 = .ok (.aload_n 0, 1) := by decide +kernel
theorem dX10_ease_1 : decode cX10_ease 1 = .ok (.invokevirtual 141, 3) := by decide +kernel
theorem dX10_ease_4 : decode cX10_ease 4 = .ok (.istore_n 1, 1) := by decide +kernel
theorem dX10_ease_5 : decode cX10_ease 5 = .ok (.iload_n 1, 1) := by decide +kernel
theorem dX10_ease_6 : decode cX10_ease 6 = .ok (.iconst (-1), 1) := by decide +kernel
theorem dX10_ease_7 : decode cX10_ease 7 = .ok (.if_icmp .eq 96, 3) := by decide +kernel
theorem dX10_ease_10 : decode cX10_ease 10 = .ok (.aload_n 0, 1) := by decide +kernel
theorem dX10_ease_11 : decode cX10_ease 11 = .ok (.aload_n 0, 1) := by decide +kernel
theorem dX10_ease_12 : decode cX10_ease 12 = .ok (.getfield 20, 3) := by decide +kernel
theorem dX10_ease_15 : decode cX10_ease 15 = .ok (.iload_n 1, 1) := by decide +kernel
theorem dX10_ease_16 : decode cX10_ease 16 = .ok (.iaload, 1) := by decide +kernel
theorem dX10_ease_17 : decode cX10_ease 17 = .ok (.invokevirtual 133, 3) := by decide +kernel
theorem dX10_ease_20 : decode cX10_ease 20 = .ok (.istore_n 2, 1) := by decide +kernel
theorem dX10_ease_21 : decode cX10_ease 21 = .ok (.aload_n 0, 1) := by decide +kernel
theorem dX10_ease_22 : decode cX10_ease 22 = .ok (.aload_n 0, 1) := by decide +kernel
theorem dX10_ease_23 : decode cX10_ease 23 = .ok (.getfield 23, 3) := by decide +kernel
theorem dX10_ease_26 : decode cX10_ease 26 = .ok (.iload_n 1, 1) := by decide +kernel
theorem dX10_ease_27 : decode cX10_ease 27 = .ok (.iaload, 1) := by decide +kernel
theorem dX10_ease_28 : decode cX10_ease 28 = .ok (.invokevirtual 130, 3) := by decide +kernel
theorem dX10_ease_31 : decode cX10_ease 31 = .ok (.lstore_n 3, 1) := by decide +kernel
theorem dX10_ease_32 : decode cX10_ease 32 = .ok (.aload_n 0, 1) := by decide +kernel
theorem dX10_ease_33 : decode cX10_ease 33 = .ok (.getfield 7, 3) := by decide +kernel
theorem dX10_ease_36 : decode cX10_ease 36 = .ok (.iconst 0, 1) := by decide +kernel
theorem dX10_ease_37 : decode cX10_ease 37 = .ok (.iload_n 1, 1) := by decide +kernel
theorem dX10_ease_38 : decode cX10_ease 38 = .ok (.iadd, 1) := by decide +kernel
theorem dX10_ease_39 : decode cX10_ease 39 = .ok (.laload, 1) := by decide +kernel
theorem dX10_ease_40 : decode cX10_ease 40 = .ok (.lload_n 3, 1) := by decide +kernel
theorem dX10_ease_41 : decode cX10_ease 41 = .ok (.lcmp, 1) := by decide +kernel
theorem dX10_ease_42 : decode cX10_ease 42 = .ok (.ifCond .ge 14, 3) := by decide +kernel
theorem dX10_ease_45 : decode cX10_ease 45 = .ok (.aload_n 0, 1) := by decide +kernel
theorem dX10_ease_46 : decode cX10_ease 46 = .ok (.getfield 7, 3) := by decide +kernel
theorem dX10_ease_49 : decode cX10_ease 49 = .ok (.iconst 0, 1) := by decide +kernel
theorem dX10_ease_50 : decode cX10_ease 50 = .ok (.iload_n 1, 1) := by decide +kernel
theorem dX10_ease_51 : decode cX10_ease 51 = .ok (.iadd, 1) := by decide +kernel
theorem dX10_ease_52 : decode cX10_ease 52 = .ok (.laload, 1) := by decide +kernel
theorem dX10_ease_53 : decode cX10_ease 53 = .ok (.goto 4, 3) := by decide +kernel
theorem dX10_ease_56 : decode cX10_ease 56 = .ok (.lload_n 3, 1) := by decide +kernel
theorem dX10_ease_57 : decode cX10_ease 57 = .ok (.lstore_n 3, 1) := by decide +kernel
theorem dX10_ease_58 : decode cX10_ease 58 = .ok (.aload_n 0, 1) := by decide +kernel
theorem dX10_ease_59 : decode cX10_ease 59 = .ok (.aload_n 0, 1) := by decide +kernel
theorem dX10_ease_60 : decode cX10_ease 60 = .ok (.getfield 23, 3) := by decide +kernel
theorem dX10_ease_63 : decode cX10_ease 63 = .ok (.iload_n 2, 1) := by decide +kernel
theorem dX10_ease_64 : decode cX10_ease 64 = .ok (.iaload, 1) := by decide +kernel
theorem dX10_ease_65 : decode cX10_ease 65 = .ok (.invokevirtual 127, 3) := by decide +kernel
theorem dX10_ease_68 : decode cX10_ease 68 = .ok (.lload_n 3, 1) := by decide +kernel
theorem dX10_ease_69 : decode cX10_ease 69 = .ok (.lcmp, 1) := by decide +kernel
theorem dX10_ease_70 : decode cX10_ease 70 = .ok (.ifCond .ge 16, 3) := by decide +kernel
theorem dX10_ease_73 : decode cX10_ease 73 = .ok (.aload_n 0, 1) := by decide +kernel
theorem dX10_ease_74 : decode cX10_ease 74 = .ok (.aload_n 0, 1) := by decide +kernel
theorem dX10_ease_75 : decode cX10_ease 75 = .ok (.getfield 23, 3) := by decide +kernel
theorem dX10_ease_78 : decode cX10_ease 78 = .ok (.iload_n 2, 1) := by decide +kernel
theorem dX10_ease_79 : decode cX10_ease 79 = .ok (.iaload, 1) := by decide +kernel
theorem dX10_ease_80 : decode cX10_ease 80 = .ok (.invokevirtual 127, 3) := by decide +kernel
theorem dX10_ease_83 : decode cX10_ease 83 = .ok (.goto 4, 3) := by decide +kernel
theorem dX10_ease_86 : decode cX10_ease 86 = .ok (.lload_n 3, 1) := by decide +kernel
theorem dX10_ease_87 : decode cX10_ease 87 = .ok (.lstore_n 3, 1) := by decide +kernel
theorem dX10_ease_88 : decode cX10_ease 88 = .ok (.aload_n 0, 1) := by decide +kernel
theorem dX10_ease_89 : decode cX10_ease 89 = .ok (.iload_n 1, 1) := by decide +kernel
theorem dX10_ease_90 : decode cX10_ease 90 = .ok (.iload_n 2, 1) := by decide +kernel
theorem dX10_ease_91 : decode cX10_ease 91 = .ok (.lload_n 3, 1) := by decide +kernel
theorem dX10_ease_92 : decode cX10_ease 92 = .ok (.invokevirtual 114, 3) := by decide +kernel
theorem dX10_ease_95 : decode cX10_ease 95 = .ok (.aload_n 0, 1) := by decide +kernel
theorem dX10_ease_96 : decode cX10_ease 96 = .ok (.invokevirtual 141, 3) := by decide +kernel
theorem dX10_ease_99 : decode cX10_ease 99 = .ok (.istore_n 1, 1) := by decide +kernel
theorem dX10_ease_100 : decode cX10_ease 100 = .ok (.goto (-95), 3) := by decide +kernel
theorem dX10_ease_103 : decode cX10_ease 103 = .ok (.return_, 1) := by decide +kernel
set_option maxRecDepth 20000 in
theorem ggX10_accrue_X10_isTop : GoodIn wsX10_accrue wsX10_isTop := goodIn_r _ [12, 13, 22, 23, 24, 25, 26, 27, 28, 29, 30, 31, 32, 33, 34, 35, 36, 37, 38, 39, 40, 41, 42, 43, 44, 45, 46] (by decide +kernel) (by decide +kernel)
set_option maxRecDepth 20000 in
theorem gX10_accrue_X10_isTop : GoodIn wsX10_accrue (wsV RX10 102 RX10 yX10_isTop wsX10_isTop) := goodIn_app (goodIn_of _ (by decide +kernel)) ggX10_accrue_X10_isTop
set_option maxRecDepth 20000 in
theorem ggX10_accrue_X10_sumOf : GoodIn wsX10_accrue wsX10_sumOf := goodIn_r _ [17, 1, 5, 2, 18, 19, 20, 11, 21, 13, 22, 23, 24, 25, 26, 27, 28, 29, 30, 31, 32, 33, 34, 35, 36, 37, 38, 39, 40, 41, 42, 43, 44, 45, 46] (by decide +kernel) (by decide +kernel)
set_option maxRecDepth 20000 in
theorem gX10_accrue_X10_sumOf : GoodIn wsX10_accrue (wsV RX10 145 RX10 yX10_sumOf wsX10_sumOf) := goodIn_app (goodIn_of _ (by decide +kernel)) ggX10_accrue_X10_sumOf
theorem dX10_accrue_0 : decode cX10_accrue 0 = .ok (.iconst 0, 1) := by decide +kernel
theorem dX10_accrue_1 : decode cX10_accrue 1 = .ok (.istore_n 1, 1) := by decide +kernel
theorem dX10_accrue_2 : decode cX10_accrue 2 = .ok (.iload_n 1, 1) := by decide +kernel
theorem dX10_accrue_3 : decode cX10_accrue 3 = .ok (.aload_n 0, 1) := by decide +kernel
theorem dX10_accrue_4 : decode cX10_accrue 4 = .ok (.getfield 79, 3) := by decide +kernel
theorem dX10_accrue_7 : decode cX10_accrue 7 = .ok (.if_icmp .ge 196, 3) := by decide +kernel
theorem dX10_accrue_10 : decode cX10_accrue 10 = .ok (.aload_n 0, 1) := by decide +kernel
theorem dX10_accrue_11 : decode cX10_accrue 11 = .ok (.iload_n 1, 1) := by decide +kernel
theorem dX10_accrue_12 : decode cX10_accrue 12 = .ok (.invokevirtual 102, 3) := by decide +kernel
theorem dX10_accrue_15 : decode cX10_accrue 15 = .ok (.ifCond .eq 182, 3) := by decide +kernel
theorem dX10_accrue_18 : decode cX10_accrue 18 = .ok (.aload_n 0, 1) := by decide +kernel
theorem dX10_accrue_19 : decode cX10_accrue 19 = .ok (.iload_n 1, 1) := by decide +kernel
theorem dX10_accrue_20 : decode cX10_accrue 20 = .ok (.iload_n 1, 1) := by decide +kernel
theorem dX10_accrue_21 : decode cX10_accrue 21 = .ok (.invokevirtual 145, 3) := by decide +kernel
theorem dX10_accrue_24 : decode cX10_accrue 24 = .ok (.lstore_n 2, 1) := by decide +kernel
theorem dX10_accrue_25 : decode cX10_accrue 25 = .ok (.aload_n 0, 1) := by decide +kernel
theorem dX10_accrue_26 : decode cX10_accrue 26 = .ok (.getfield 7, 3) := by decide +kernel
theorem dX10_accrue_29 : decode cX10_accrue 29 = .ok (.bipush 10, 2) := by decide +kernel
theorem dX10_accrue_31 : decode cX10_accrue 31 = .ok (.iload_n 1, 1) := by decide +kernel
theorem dX10_accrue_32 : decode cX10_accrue 32 = .ok (.iadd, 1) := by decide +kernel
theorem dX10_accrue_33 : decode cX10_accrue 33 = .ok (.dup2, 1) := by decide +kernel
theorem dX10_accrue_34 : decode cX10_accrue 34 = .ok (.laload, 1) := by decide +kernel
theorem dX10_accrue_35 : decode cX10_accrue 35 = .ok (.lload_n 2, 1) := by decide +kernel
theorem dX10_accrue_36 : decode cX10_accrue 36 = .ok (.lconst 0, 1) := by decide +kernel
theorem dX10_accrue_37 : decode cX10_accrue 37 = .ok (.lcmp, 1) := by decide +kernel
theorem dX10_accrue_38 : decode cX10_accrue 38 = .ok (.ifCond .le 15, 3) := by decide +kernel
theorem dX10_accrue_41 : decode cX10_accrue 41 = .ok (.lload_n 2, 1) := by decide +kernel
theorem dX10_accrue_42 : decode cX10_accrue 42 = .ok (.aload_n 0, 1) := by decide +kernel
theorem dX10_accrue_43 : decode cX10_accrue 43 = .ok (.getfield 35, 3) := by decide +kernel
theorem dX10_accrue_46 : decode cX10_accrue 46 = .ok (.iload_n 1, 1) := by decide +kernel
theorem dX10_accrue_47 : decode cX10_accrue 47 = .ok (.iaload, 1) := by decide +kernel
theorem dX10_accrue_48 : decode cX10_accrue 48 = .ok (.i2l, 1) := by decide +kernel
theorem dX10_accrue_49 : decode cX10_accrue 49 = .ok (.lmul, 1) := by decide +kernel
theorem dX10_accrue_50 : decode cX10_accrue 50 = .ok (.goto 4, 3) := by decide +kernel
theorem dX10_accrue_53 : decode cX10_accrue 53 = .ok (.lconst 0, 1) := by decide +kernel
theorem dX10_accrue_54 : decode cX10_accrue 54 = .ok (.ladd, 1) := by decide +kernel
theorem dX10_accrue_55 : decode cX10_accrue 55 = .ok (.lastore, 1) := by decide +kernel
theorem dX10_accrue_56 : decode cX10_accrue 56 = .ok (.aload_n 0, 1) := by decide +kernel
theorem dX10_accrue_57 : decode cX10_accrue 57 = .ok (.getfield 7, 3) := by decide +kernel
theorem dX10_accrue_60 : decode cX10_accrue 60 = .ok (.bipush 20, 2) := by decide +kernel
theorem dX10_accrue_62 : decode cX10_accrue 62 = .ok (.iload_n 1, 1) := by decide +kernel
theorem dX10_accrue_63 : decode cX10_accrue 63 = .ok (.iadd, 1) := by decide +kernel
theorem dX10_accrue_64 : decode cX10_accrue 64 = .ok (.dup2, 1) := by decide +kernel
theorem dX10_accrue_65 : decode cX10_accrue 65 = .ok (.laload, 1) := by decide +kernel
theorem dX10_accrue_66 : decode cX10_accrue 66 = .ok (.lload_n 2, 1) := by decide +kernel
theorem dX10_accrue_67 : decode cX10_accrue 67 = .ok (.lconst 0, 1) := by decide +kernel
theorem dX10_accrue_68 : decode cX10_accrue 68 = .ok (.lcmp, 1) := by decide +kernel
theorem dX10_accrue_69 : decode cX10_accrue 69 = .ok (.ifCond .ge 16, 3) := by decide +kernel
theorem dX10_accrue_72 : decode cX10_accrue 72 = .ok (.lload_n 2, 1) := by decide +kernel
theorem dX10_accrue_73 : decode cX10_accrue 73 = .ok (.lneg, 1) := by decide +kernel
theorem dX10_accrue_74 : decode cX10_accrue 74 = .ok (.aload_n 0, 1) := by decide +kernel
theorem dX10_accrue_75 : decode cX10_accrue 75 = .ok (.getfield 38, 3) := by decide +kernel
theorem dX10_accrue_78 : decode cX10_accrue 78 = .ok (.iload_n 1, 1) := by decide +kernel
theorem dX10_accrue_79 : decode cX10_accrue 79 = .ok (.iaload, 1) := by decide +kernel
theorem dX10_accrue_80 : decode cX10_accrue 80 = .ok (.i2l, 1) := by decide +kernel
theorem dX10_accrue_81 : decode cX10_accrue 81 = .ok (.lmul, 1) := by decide +kernel
theorem dX10_accrue_82 : decode cX10_accrue 82 = .ok (.goto 4, 3) := by decide +kernel
theorem dX10_accrue_85 : decode cX10_accrue 85 = .ok (.lconst 0, 1) := by decide +kernel
theorem dX10_accrue_86 : decode cX10_accrue 86 = .ok (.ladd, 1) := by decide +kernel
theorem dX10_accrue_87 : decode cX10_accrue 87 = .ok (.lastore, 1) := by decide +kernel
theorem dX10_accrue_88 : decode cX10_accrue 88 = .ok (.iconst 0, 1) := by decide +kernel
theorem dX10_accrue_89 : decode cX10_accrue 89 = .ok (.istore 4, 2) := by decide +kernel
theorem dX10_accrue_91 : decode cX10_accrue 91 = .ok (.iload 4, 2) := by decide +kernel
theorem dX10_accrue_93 : decode cX10_accrue 93 = .ok (.aload_n 0, 1) := by decide +kernel
theorem dX10_accrue_94 : decode cX10_accrue 94 = .ok (.getfield 79, 3) := by decide +kernel
theorem dX10_accrue_97 : decode cX10_accrue 97 = .ok (.if_icmp .ge 100, 3) := by decide +kernel
theorem dX10_accrue_100 : decode cX10_accrue 100 = .ok (.aload_n 0, 1) := by decide +kernel
theorem dX10_accrue_101 : decode cX10_accrue 101 = .ok (.getfield 20, 3) := by decide +kernel
theorem dX10_accrue_104 : decode cX10_accrue 104 = .ok (.iload 4, 2) := by decide +kernel
theorem dX10_accrue_106 : decode cX10_accrue 106 = .ok (.iaload, 1) := by decide +kernel
theorem dX10_accrue_107 : decode cX10_accrue 107 = .ok (.iload_n 1, 1) := by decide +kernel
theorem dX10_accrue_108 : decode cX10_accrue 108 = .ok (.if_icmp .ne 15, 3) := by decide +kernel
theorem dX10_accrue_111 : decode cX10_accrue 111 = .ok (.aload_n 0, 1) := by decide +kernel
theorem dX10_accrue_112 : decode cX10_accrue 112 = .ok (.getfield 7, 3) := by decide +kernel
theorem dX10_accrue_115 : decode cX10_accrue 115 = .ok (.iconst 0, 1) := by decide +kernel
theorem dX10_accrue_116 : decode cX10_accrue 116 = .ok (.iload 4, 2) := by decide +kernel
theorem dX10_accrue_118 : decode cX10_accrue 118 = .ok (.iadd, 1) := by decide +kernel
theorem dX10_accrue_119 : decode cX10_accrue 119 = .ok (.laload, 1) := by decide +kernel
theorem dX10_accrue_120 : decode cX10_accrue 120 = .ok (.goto 4, 3) := by decide +kernel
theorem dX10_accrue_123 : decode cX10_accrue 123 = .ok (.lconst 0, 1) := by decide +kernel
theorem dX10_accrue_124 : decode cX10_accrue 124 = .ok (.lstore 5, 2) := by decide +kernel
theorem dX10_accrue_126 : decode cX10_accrue 126 = .ok (.aload_n 0, 1) := by decide +kernel
theorem dX10_accrue_127 : decode cX10_accrue 127 = .ok (.getfield 7, 3) := by decide +kernel
theorem dX10_accrue_130 : decode cX10_accrue 130 = .ok (.bipush 30, 2) := by decide +kernel
theorem dX10_accrue_132 : decode cX10_accrue 132 = .ok (.iload 4, 2) := by decide +kernel
theorem dX10_accrue_134 : decode cX10_accrue 134 = .ok (.iadd, 1) := by decide +kernel
theorem dX10_accrue_135 : decode cX10_accrue 135 = .ok (.dup2, 1) := by decide +kernel
theorem dX10_accrue_136 : decode cX10_accrue 136 = .ok (.laload, 1) := by decide +kernel
theorem dX10_accrue_137 : decode cX10_accrue 137 = .ok (.lload_n 2, 1) := by decide +kernel
theorem dX10_accrue_138 : decode cX10_accrue 138 = .ok (.lconst 0, 1) := by decide +kernel
theorem dX10_accrue_139 : decode cX10_accrue 139 = .ok (.lcmp, 1) := by decide +kernel
theorem dX10_accrue_140 : decode cX10_accrue 140 = .ok (.ifCond .le 15, 3) := by decide +kernel
theorem dX10_accrue_143 : decode cX10_accrue 143 = .ok (.lload 5, 2) := by decide +kernel
theorem dX10_accrue_145 : decode cX10_accrue 145 = .ok (.lconst 0, 1) := by decide +kernel
theorem dX10_accrue_146 : decode cX10_accrue 146 = .ok (.lcmp, 1) := by decide +kernel
theorem dX10_accrue_147 : decode cX10_accrue 147 = .ok (.ifCond .le 8, 3) := by decide +kernel
theorem dX10_accrue_150 : decode cX10_accrue 150 = .ok (.lload 5, 2) := by decide +kernel
theorem dX10_accrue_152 : decode cX10_accrue 152 = .ok (.goto 4, 3) := by decide +kernel
theorem dX10_accrue_155 : decode cX10_accrue 155 = .ok (.lconst 0, 1) := by decide +kernel
theorem dX10_accrue_156 : decode cX10_accrue 156 = .ok (.ladd, 1) := by decide +kernel
theorem dX10_accrue_157 : decode cX10_accrue 157 = .ok (.lastore, 1) := by decide +kernel
theorem dX10_accrue_158 : decode cX10_accrue 158 = .ok (.aload_n 0, 1) := by decide +kernel
theorem dX10_accrue_159 : decode cX10_accrue 159 = .ok (.getfield 7, 3) := by decide +kernel
theorem dX10_accrue_162 : decode cX10_accrue 162 = .ok (.bipush 40, 2) := by decide +kernel
theorem dX10_accrue_164 : decode cX10_accrue 164 = .ok (.iload 4, 2) := by decide +kernel
theorem dX10_accrue_166 : decode cX10_accrue 166 = .ok (.iadd, 1) := by decide +kernel
theorem dX10_accrue_167 : decode cX10_accrue 167 = .ok (.dup2, 1) := by decide +kernel
theorem dX10_accrue_168 : decode cX10_accrue 168 = .ok (.laload, 1) := by decide +kernel
theorem dX10_accrue_169 : decode cX10_accrue 169 = .ok (.lload_n 2, 1) := by decide +kernel
theorem dX10_accrue_170 : decode cX10_accrue 170 = .ok (.lconst 0, 1) := by decide +kernel
theorem dX10_accrue_171 : decode cX10_accrue 171 = .ok (.lcmp, 1) := by decide +kernel
theorem dX10_accrue_172 : decode cX10_accrue 172 = .ok (.ifCond .ge 16, 3) := by decide +kernel
theorem dX10_accrue_175 : decode cX10_accrue 175 = .ok (.lload 5, 2) := by decide +kernel
theorem dX10_accrue_177 : decode cX10_accrue 177 = .ok (.lconst 0, 1) := by decide +kernel
theorem dX10_accrue_178 : decode cX10_accrue 178 = .ok (.lcmp, 1) := by decide +kernel
theorem dX10_accrue_179 : decode cX10_accrue 179 = .ok (.ifCond .ge 9, 3) := by decide +kernel
theorem dX10_accrue_182 : decode cX10_accrue 182 = .ok (.lload 5, 2) := by decide +kernel
theorem dX10_accrue_184 : decode cX10_accrue 184 = .ok (.lneg, 1) := by decide +kernel
theorem dX10_accrue_185 : decode cX10_accrue 185 = .ok (.goto 4, 3) := by decide +kernel
theorem dX10_accrue_188 : decode cX10_accrue 188 = .ok (.lconst 0, 1) := by decide +kernel
theorem dX10_accrue_189 : decode cX10_accrue 189 = .ok (.ladd, 1) := by decide +kernel
theorem dX10_accrue_190 : decode cX10_accrue 190 = .ok (.lastore, 1) := by decide +kernel
theorem dX10_accrue_191 : decode cX10_accrue 191 = .ok (.iinc 4 1, 3) := by decide +kernel
theorem dX10_accrue_194 : decode cX10_accrue 194 = .ok (.goto (-103), 3) := by decide +kernel
theorem dX10_accrue_197 : decode cX10_accrue 197 = .ok (.iinc 1 1, 3) := by decide +kernel
theorem dX10_accrue_200 : decode cX10_accrue 200 = .ok (.goto (-198), 3) := by decide +kernel
theorem dX10_accrue_203 : decode cX10_accrue 203 = .ok (.iconst 0, 1) := by decide +kernel
theorem dX10_accrue_204 : decode cX10_accrue 204 = .ok (.istore_n 1, 1) := by decide +kernel
theorem dX10_accrue_205 : decode cX10_accrue 205 = .ok (.iload_n 1, 1) := by decide +kernel
theorem dX10_accrue_206 : decode cX10_accrue 206 = .ok (.aload_n 0, 1) := by decide +kernel
theorem dX10_accrue_207 : decode cX10_accrue 207 = .ok (.getfield 106, 3) := by decide +kernel
theorem dX10_accrue_210 : decode cX10_accrue 210 = .ok (.if_icmp .ge 38, 3) := by decide +kernel
theorem dX10_accrue_213 : decode cX10_accrue 213 = .ok (.aload_n 0, 1) := by decide +kernel
theorem dX10_accrue_214 : decode cX10_accrue 214 = .ok (.getfield 7, 3) := by decide +kernel
theorem dX10_accrue_217 : decode cX10_accrue 217 = .ok (.bipush 76, 2) := by decide +kernel
theorem dX10_accrue_219 : decode cX10_accrue 219 = .ok (.iload_n 1, 1) := by decide +kernel
theorem dX10_accrue_220 : decode cX10_accrue 220 = .ok (.iadd, 1) := by decide +kernel
theorem dX10_accrue_221 : decode cX10_accrue 221 = .ok (.dup2, 1) := by decide +kernel
theorem dX10_accrue_222 : decode cX10_accrue 222 = .ok (.laload, 1) := by decide +kernel
theorem dX10_accrue_223 : decode cX10_accrue 223 = .ok (.aload_n 0, 1) := by decide +kernel
theorem dX10_accrue_224 : decode cX10_accrue 224 = .ok (.getfield 7, 3) := by decide +kernel
theorem dX10_accrue_227 : decode cX10_accrue 227 = .ok (.bipush 70, 2) := by decide +kernel
theorem dX10_accrue_229 : decode cX10_accrue 229 = .ok (.iload_n 1, 1) := by decide +kernel
theorem dX10_accrue_230 : decode cX10_accrue 230 = .ok (.iadd, 1) := by decide +kernel
theorem dX10_accrue_231 : decode cX10_accrue 231 = .ok (.laload, 1) := by decide +kernel
theorem dX10_accrue_232 : decode cX10_accrue 232 = .ok (.aload_n 0, 1) := by decide +kernel
theorem dX10_accrue_233 : decode cX10_accrue 233 = .ok (.getfield 47, 3) := by decide +kernel
theorem dX10_accrue_236 : decode cX10_accrue 236 = .ok (.iload_n 1, 1) := by decide +kernel
theorem dX10_accrue_237 : decode cX10_accrue 237 = .ok (.iaload, 1) := by decide +kernel
theorem dX10_accrue_238 : decode cX10_accrue 238 = .ok (.i2l, 1) := by decide +kernel
theorem dX10_accrue_239 : decode cX10_accrue 239 = .ok (.lmul, 1) := by decide +kernel
theorem dX10_accrue_240 : decode cX10_accrue 240 = .ok (.ladd, 1) := by decide +kernel
theorem dX10_accrue_241 : decode cX10_accrue 241 = .ok (.lastore, 1) := by decide +kernel
theorem dX10_accrue_242 : decode cX10_accrue 242 = .ok (.iinc 1 1, 3) := by decide +kernel
theorem dX10_accrue_245 : decode cX10_accrue 245 = .ok (.goto (-40), 3) := by decide +kernel
theorem dX10_accrue_248 : decode cX10_accrue 248 = .ok (.return_, 1) := by decide +kernel
theorem dX10_gets_0 : decode cX10_gets 0 = .ok (.aload_n 0, 1) := by decide +kernel
theorem dX10_gets_1 : decode cX10_gets 1 = .ok (.getfield 7, 3) := by decide +kernel
theorem dX10_gets_4 : decode cX10_gets 4 = .ok (.iconst 0, 1) := by decide +kernel
theorem dX10_gets_5 : decode cX10_gets 5 = .ok (.iload_n 1, 1) := by decide +kernel
theorem dX10_gets_6 : decode cX10_gets 6 = .ok (.iadd, 1) := by decide +kernel
theorem dX10_gets_7 : decode cX10_gets 7 = .ok (.dup2, 1) := by decide +kernel
theorem dX10_gets_8 : decode cX10_gets 8 = .ok (.laload, 1) := by decide +kernel
theorem dX10_gets_9 : decode cX10_gets 9 = .ok (.lload_n 2, 1) := by decide +kernel
theorem dX10_gets_10 : decode cX10_gets 10 = .ok (.ladd, 1) := by decide +kernel
theorem dX10_gets_11 : decode cX10_gets 11 = .ok (.lastore, 1) := by decide +kernel
theorem dX10_gets_12 : decode cX10_gets 12 = .ok (.aload_n 0, 1) := by decide +kernel
theorem dX10_gets_13 : decode cX10_gets 13 = .ok (.getfield 7, 3) := by decide +kernel
theorem dX10_gets_16 : decode cX10_gets 16 = .ok (.bipush 50, 2) := by decide +kernel
theorem dX10_gets_18 : decode cX10_gets 18 = .ok (.iload_n 1, 1) := by decide +kernel
theorem dX10_gets_19 : decode cX10_gets 19 = .ok (.iadd, 1) := by decide +kernel
theorem dX10_gets_20 : decode cX10_gets 20 = .ok (.dup2, 1) := by decide +kernel
theorem dX10_gets_21 : decode cX10_gets 21 = .ok (.laload, 1) := by decide +kernel
theorem dX10_gets_22 : decode cX10_gets 22 = .ok (.lload_n 2, 1) := by decide +kernel
theorem dX10_gets_23 : decode cX10_gets 23 = .ok (.ladd, 1) := by decide +kernel
theorem dX10_gets_24 : decode cX10_gets 24 = .ok (.lastore, 1) := by decide +kernel
theorem dX10_gets_25 : decode cX10_gets 25 = .ok (.return_, 1) := by decide +kernel
set_option maxRecDepth 20000 in
theorem ggX10_split_X10_gets : GoodIn wsX10_split wsX10_gets := goodIn_r _ [10, 3, 11, 12, 13, 14, 15, 16, 17, 18, 19, 20, 21, 22, 23, 24, 25, 26, 27, 28, 29, 30, 31, 32, 33, 34, 35] (by decide +kernel) (by decide +kernel)
set_option maxRecDepth 20000 in
theorem gX10_split_X10_gets : GoodIn wsX10_split (wsV RX10 151 RX10 yX10_gets wsX10_gets) := goodIn_app (goodIn_of _ (by decide +kernel)) ggX10_split_X10_gets
theorem dX10_split_0 : decode cX10_split 0 = .ok (.lconst 0, 1) := by decide +kernel
theorem dX10_split_1 : decode cX10_split 1 = .ok (.lstore 6, 2) := by decide +kernel
theorem dX10_split_3 : decode cX10_split 3 = .ok (.iconst 0, 1) := by decide +kernel
theorem dX10_split_4 : decode cX10_split 4 = .ok (.istore 8, 2) := by decide +kernel
theorem dX10_split_6 : decode cX10_split 6 = .ok (.iload 8, 2) := by decide +kernel
theorem dX10_split_8 : decode cX10_split 8 = .ok (.aload_n 0, 1) := by decide +kernel
theorem dX10_split_9 : decode cX10_split 9 = .ok (.getfield 79, 3) := by decide +kernel
theorem dX10_split_12 : decode cX10_split 12 = .ok (.if_icmp .ge 39, 3) := by decide +kernel
theorem dX10_split_15 : decode cX10_split 15 = .ok (.lload 6, 2) := by decide +kernel
theorem dX10_split_17 : decode cX10_split 17 = .ok (.aload_n 0, 1) := by decide +kernel
theorem dX10_split_18 : decode cX10_split 18 = .ok (.getfield 20, 3) := by decide +kernel
theorem dX10_split_21 : decode cX10_split 21 = .ok (.iload 8, 2) := by decide +kernel
theorem dX10_split_23 : decode cX10_split 23 = .ok (.iaload, 1) := by decide +kernel
theorem dX10_split_24 : decode cX10_split 24 = .ok (.iload_n 1, 1) := by decide +kernel
theorem dX10_split_25 : decode cX10_split 25 = .ok (.if_icmp .ne 16, 3) := by decide +kernel
theorem dX10_split_28 : decode cX10_split 28 = .ok (.aload_n 0, 1) := by decide +kernel
theorem dX10_split_29 : decode cX10_split 29 = .ok (.getfield 7, 3) := by decide +kernel
theorem dX10_split_32 : decode cX10_split 32 = .ok (.iload 4, 2) := by decide +kernel
theorem dX10_split_34 : decode cX10_split 34 = .ok (.iload 8, 2) := by decide +kernel
theorem dX10_split_36 : decode cX10_split 36 = .ok (.iadd, 1) := by decide +kernel
theorem dX10_split_37 : decode cX10_split 37 = .ok (.laload, 1) := by decide +kernel
theorem dX10_split_38 : decode cX10_split 38 = .ok (.goto 4, 3) := by decide +kernel
theorem dX10_split_41 : decode cX10_split 41 = .ok (.lconst 0, 1) := by decide +kernel
theorem dX10_split_42 : decode cX10_split 42 = .ok (.ladd, 1) := by decide +kernel
theorem dX10_split_43 : decode cX10_split 43 = .ok (.lstore 6, 2) := by decide +kernel
theorem dX10_split_45 : decode cX10_split 45 = .ok (.iinc 8 1, 3) := by decide +kernel
theorem dX10_split_48 : decode cX10_split 48 = .ok (.goto (-42), 3) := by decide +kernel
theorem dX10_split_51 : decode cX10_split 51 = .ok (.lload 6, 2) := by decide +kernel
theorem dX10_split_53 : decode cX10_split 53 = .ok (.lconst 0, 1) := by decide +kernel
theorem dX10_split_54 : decode cX10_split 54 = .ok (.lcmp, 1) := by decide +kernel
theorem dX10_split_55 : decode cX10_split 55 = .ok (.ifCond .ne 4, 3) := by decide +kernel
theorem dX10_split_58 : decode cX10_split 58 = .ok (.return_, 1) := by decide +kernel
theorem dX10_split_59 : decode cX10_split 59 = .ok (.lload_n 2, 1) := by decide +kernel
theorem dX10_split_60 : decode cX10_split 60 = .ok (.lstore 8, 2) := by decide +kernel
theorem dX10_split_62 : decode cX10_split 62 = .ok (.iconst 0, 1) := by decide +kernel
theorem dX10_split_63 : decode cX10_split 63 = .ok (.istore 10, 2) := by decide +kernel
theorem dX10_split_65 : decode cX10_split 65 = .ok (.iload 10, 2) := by decide +kernel
theorem dX10_split_67 : decode cX10_split 67 = .ok (.aload_n 0, 1) := by decide +kernel
theorem dX10_split_68 : decode cX10_split 68 = .ok (.getfield 79, 3) := by decide +kernel
theorem dX10_split_71 : decode cX10_split 71 = .ok (.if_icmp .ge 88, 3) := by decide +kernel
theorem dX10_split_74 : decode cX10_split 74 = .ok (.aload_n 0, 1) := by decide +kernel
theorem dX10_split_75 : decode cX10_split 75 = .ok (.getfield 72, 3) := by decide +kernel
theorem dX10_split_78 : decode cX10_split 78 = .ok (.iload 10, 2) := by decide +kernel
theorem dX10_split_80 : decode cX10_split 80 = .ok (.ldc2_w 149, 3) := by decide +kernel
theorem dX10_split_83 : decode cX10_split 83 = .ok (.lastore, 1) := by decide +kernel
theorem dX10_split_84 : decode cX10_split 84 = .ok (.aload_n 0, 1) := by decide +kernel
theorem dX10_split_85 : decode cX10_split 85 = .ok (.getfield 20, 3) := by decide +kernel
theorem dX10_split_88 : decode cX10_split 88 = .ok (.iload 10, 2) := by decide +kernel
theorem dX10_split_90 : decode cX10_split 90 = .ok (.iaload, 1) := by decide +kernel
theorem dX10_split_91 : decode cX10_split 91 = .ok (.iload_n 1, 1) := by decide +kernel
theorem dX10_split_92 : decode cX10_split 92 = .ok (.if_icmp .ne 61, 3) := by decide +kernel
theorem dX10_split_95 : decode cX10_split 95 = .ok (.lload_n 2, 1) := by decide +kernel
theorem dX10_split_96 : decode cX10_split 96 = .ok (.aload_n 0, 1) := by decide +kernel
theorem dX10_split_97 : decode cX10_split 97 = .ok (.getfield 7, 3) := by decide +kernel
theorem dX10_split_100 : decode cX10_split 100 = .ok (.iload 4, 2) := by decide +kernel
theorem dX10_split_102 : decode cX10_split 102 = .ok (.iload 10, 2) := by decide +kernel
theorem dX10_split_104 : decode cX10_split 104 = .ok (.iadd, 1) := by decide +kernel
theorem dX10_split_105 : decode cX10_split 105 = .ok (.laload, 1) := by decide +kernel
theorem dX10_split_106 : decode cX10_split 106 = .ok (.lmul, 1) := by decide +kernel
theorem dX10_split_107 : decode cX10_split 107 = .ok (.lload 6, 2) := by decide +kernel
theorem dX10_split_109 : decode cX10_split 109 = .ok (.ldiv, 1) := by decide +kernel
theorem dX10_split_110 : decode cX10_split 110 = .ok (.lstore 11, 2) := by decide +kernel
theorem dX10_split_112 : decode cX10_split 112 = .ok (.aload_n 0, 1) := by decide +kernel
theorem dX10_split_113 : decode cX10_split 113 = .ok (.getfield 72, 3) := by decide +kernel
theorem dX10_split_116 : decode cX10_split 116 = .ok (.iload 10, 2) := by decide +kernel
theorem dX10_split_118 : decode cX10_split 118 = .ok (.lload_n 2, 1) := by decide +kernel
theorem dX10_split_119 : decode cX10_split 119 = .ok (.aload_n 0, 1) := by decide +kernel
theorem dX10_split_120 : decode cX10_split 120 = .ok (.getfield 7, 3) := by decide +kernel
theorem dX10_split_123 : decode cX10_split 123 = .ok (.iload 4, 2) := by decide +kernel
theorem dX10_split_125 : decode cX10_split 125 = .ok (.iload 10, 2) := by decide +kernel
theorem dX10_split_127 : decode cX10_split 127 = .ok (.iadd, 1) := by decide +kernel
theorem dX10_split_128 : decode cX10_split 128 = .ok (.laload, 1) := by decide +kernel
theorem dX10_split_129 : decode cX10_split 129 = .ok (.lmul, 1) := by decide +kernel
theorem dX10_split_130 : decode cX10_split 130 = .ok (.lload 6, 2) := by decide +kernel
theorem dX10_split_132 : decode cX10_split 132 = .ok (.lrem, 1) := by decide +kernel
theorem dX10_split_133 : decode cX10_split 133 = .ok (.lastore, 1) := by decide +kernel
theorem dX10_split_134 : decode cX10_split 134 = .ok (.lload 8, 2) := by decide +kernel
theorem dX10_split_136 : decode cX10_split 136 = .ok (.lload 11, 2) := by decide +kernel
theorem dX10_split_138 : decode cX10_split 138 = .ok (.lsub, 1) := by decide +kernel
theorem dX10_split_139 : decode cX10_split 139 = .ok (.lstore 8, 2) := by decide +kernel
theorem dX10_split_141 : decode cX10_split 141 = .ok (.aload_n 0, 1) := by decide +kernel
theorem dX10_split_142 : decode cX10_split 142 = .ok (.iload 10, 2) := by decide +kernel
theorem dX10_split_144 : decode cX10_split 144 = .ok (.iload 5, 2) := by decide +kernel
theorem dX10_split_146 : decode cX10_split 146 = .ok (.i2l, 1) := by decide +kernel
theorem dX10_split_147 : decode cX10_split 147 = .ok (.lload 11, 2) := by decide +kernel
theorem dX10_split_149 : decode cX10_split 149 = .ok (.lmul, 1) := by decide +kernel
theorem dX10_split_150 : decode cX10_split 150 = .ok (.invokevirtual 151, 3) := by decide +kernel
theorem dX10_split_153 : decode cX10_split 153 = .ok (.iinc 10 1, 3) := by decide +kernel
theorem dX10_split_156 : decode cX10_split 156 = .ok (.goto (-91), 3) := by decide +kernel
theorem dX10_split_159 : decode cX10_split 159 = .ok (.lload 8, 2) := by decide +kernel
theorem dX10_split_161 : decode cX10_split 161 = .ok (.lconst 0, 1) := by decide +kernel
theorem dX10_split_162 : decode cX10_split 162 = .ok (.lcmp, 1) := by decide +kernel
theorem dX10_split_163 : decode cX10_split 163 = .ok (.ifCond .le 79, 3) := by decide +kernel
theorem dX10_split_166 : decode cX10_split 166 = .ok (.iconst 0, 1) := by decide +kernel
theorem dX10_split_167 : decode cX10_split 167 = .ok (.istore 10, 2) := by decide +kernel
theorem dX10_split_169 : decode cX10_split 169 = .ok (.iconst 1, 1) := by decide +kernel
theorem dX10_split_170 : decode cX10_split 170 = .ok (.istore 11, 2) := by decide +kernel
theorem dX10_split_172 : decode cX10_split 172 = .ok (.iload 11, 2) := by decide +kernel
theorem dX10_split_174 : decode cX10_split 174 = .ok (.aload_n 0, 1) := by decide +kernel
theorem dX10_split_175 : decode cX10_split 175 = .ok (.getfield 79, 3) := by decide +kernel
theorem dX10_split_178 : decode cX10_split 178 = .ok (.if_icmp .ge 36, 3) := by decide +kernel
theorem dX10_split_181 : decode cX10_split 181 = .ok (.aload_n 0, 1) := by decide +kernel
theorem dX10_split_182 : decode cX10_split 182 = .ok (.getfield 72, 3) := by decide +kernel
theorem dX10_split_185 : decode cX10_split 185 = .ok (.iload 11, 2) := by decide +kernel
theorem dX10_split_187 : decode cX10_split 187 = .ok (.laload, 1) := by decide +kernel
theorem dX10_split_188 : decode cX10_split 188 = .ok (.aload_n 0, 1) := by decide +kernel
theorem dX10_split_189 : decode cX10_split 189 = .ok (.getfield 72, 3) := by decide +kernel
theorem dX10_split_192 : decode cX10_split 192 = .ok (.iload 10, 2) := by decide +kernel
theorem dX10_split_194 : decode cX10_split 194 = .ok (.laload, 1) := by decide +kernel
theorem dX10_split_195 : decode cX10_split 195 = .ok (.lcmp, 1) := by decide +kernel
theorem dX10_split_196 : decode cX10_split 196 = .ok (.ifCond .le 8, 3) := by decide +kernel
theorem dX10_split_199 : decode cX10_split 199 = .ok (.iload 11, 2) := by decide +kernel
theorem dX10_split_201 : decode cX10_split 201 = .ok (.goto 5, 3) := by decide +kernel
theorem dX10_split_204 : decode cX10_split 204 = .ok (.iload 10, 2) := by decide +kernel
theorem dX10_split_206 : decode cX10_split 206 = .ok (.istore 10, 2) := by decide +kernel
theorem dX10_split_208 : decode cX10_split 208 = .ok (.iinc 11 1, 3) := by decide +kernel
theorem dX10_split_211 : decode cX10_split 211 = .ok (.goto (-39), 3) := by decide +kernel
theorem dX10_split_214 : decode cX10_split 214 = .ok (.aload_n 0, 1) := by decide +kernel
theorem dX10_split_215 : decode cX10_split 215 = .ok (.iload 10, 2) := by decide +kernel
theorem dX10_split_217 : decode cX10_split 217 = .ok (.iload 5, 2) := by decide +kernel
theorem dX10_split_219 : decode cX10_split 219 = .ok (.i2l, 1) := by decide +kernel
theorem dX10_split_220 : decode cX10_split 220 = .ok (.invokevirtual 151, 3) := by decide +kernel
theorem dX10_split_223 : decode cX10_split 223 = .ok (.aload_n 0, 1) := by decide +kernel
theorem dX10_split_224 : decode cX10_split 224 = .ok (.getfield 72, 3) := by decide +kernel
theorem dX10_split_227 : decode cX10_split 227 = .ok (.iload 10, 2) := by decide +kernel
theorem dX10_split_229 : decode cX10_split 229 = .ok (.ldc2_w 149, 3) := by decide +kernel
theorem dX10_split_232 : decode cX10_split 232 = .ok (.lastore, 1) := by decide +kernel
theorem dX10_split_233 : decode cX10_split 233 = .ok (.lload 8, 2) := by decide +kernel
theorem dX10_split_235 : decode cX10_split 235 = .ok (.lconst 1, 1) := by decide +kernel
theorem dX10_split_236 : decode cX10_split 236 = .ok (.lsub, 1) := by decide +kernel
theorem dX10_split_237 : decode cX10_split 237 = .ok (.lstore 8, 2) := by decide +kernel
theorem dX10_split_239 : decode cX10_split 239 = .ok (.goto (-80), 3) := by decide +kernel
theorem dX10_split_242 : decode cX10_split 242 = .ok (.return_, 1) := by decide +kernel
set_option maxRecDepth 20000 in
theorem ggX10_bookInterest_X10_isTop : GoodIn wsX10_bookInterest wsX10_isTop := goodIn_r _ [10, 11, 23, 24, 25, 26, 27, 28, 29, 30, 31, 32, 33, 34, 35, 36, 37, 38, 39, 40, 41, 42, 43, 44, 45, 46, 47] (by decide +kernel) (by decide +kernel)
set_option maxRecDepth 20000 in
theorem gX10_bookInterest_X10_isTop : GoodIn wsX10_bookInterest (wsV RX10 102 RX10 yX10_isTop wsX10_isTop) := goodIn_app (goodIn_of _ (by decide +kernel)) ggX10_bookInterest_X10_isTop
set_option maxRecDepth 20000 in
theorem ggX10_bookInterest_X10_split : GoodIn wsX10_bookInterest wsX10_split := goodIn_r _ [15, 1, 16, 2, 17, 18, 19, 20, 21, 9, 22, 23, 24, 25, 26, 27, 28, 29, 30, 31, 32, 33, 34, 35, 36, 37, 38, 39, 40, 41, 42, 43, 44, 45, 46, 47] (by decide +kernel) (by decide +kernel)
set_option maxRecDepth 20000 in
theorem gX10_bookInterest_X10_split : GoodIn wsX10_bookInterest (wsV RX10 157 RX10 yX10_split wsX10_split) := goodIn_app (goodIn_of _ (by decide +kernel)) ggX10_bookInterest_X10_split
theorem dX10_bookInterest_0 : decode cX10_bookInterest 0 = .ok (.iconst 0, 1) := by decide +kernel
theorem dX10_bookInterest_1 : decode cX10_bookInterest 1 = .ok (.istore_n 1, 1) := by decide +kernel
theorem dX10_bookInterest_2 : decode cX10_bookInterest 2 = .ok (.iload_n 1, 1) := by decide +kernel
theorem dX10_bookInterest_3 : decode cX10_bookInterest 3 = .ok (.aload_n 0, 1) := by decide +kernel
theorem dX10_bookInterest_4 : decode cX10_bookInterest 4 = .ok (.getfield 79, 3) := by decide +kernel
theorem dX10_bookInterest_7 : decode cX10_bookInterest 7 = .ok (.if_icmp .ge 111, 3) := by decide +kernel
theorem dX10_bookInterest_10 : decode cX10_bookInterest 10 = .ok (.aload_n 0, 1) := by decide +kernel
theorem dX10_bookInterest_11 : decode cX10_bookInterest 11 = .ok (.iload_n 1, 1) := by decide +kernel
theorem dX10_bookInterest_12 : decode cX10_bookInterest 12 = .ok (.invokevirtual 102, 3) := by decide +kernel
theorem dX10_bookInterest_15 : decode cX10_bookInterest 15 = .ok (.ifCond .eq 97, 3) := by decide +kernel
theorem dX10_bookInterest_18 : decode cX10_bookInterest 18 = .ok (.aload_n 0, 1) := by decide +kernel
theorem dX10_bookInterest_19 : decode cX10_bookInterest 19 = .ok (.getfield 7, 3) := by decide +kernel
theorem dX10_bookInterest_22 : decode cX10_bookInterest 22 = .ok (.bipush 10, 2) := by decide +kernel
theorem dX10_bookInterest_24 : decode cX10_bookInterest 24 = .ok (.iload_n 1, 1) := by decide +kernel
theorem dX10_bookInterest_25 : decode cX10_bookInterest 25 = .ok (.iadd, 1) := by decide +kernel
theorem dX10_bookInterest_26 : decode cX10_bookInterest 26 = .ok (.laload, 1) := by decide +kernel
theorem dX10_bookInterest_27 : decode cX10_bookInterest 27 = .ok (.ldc2_w 155, 3) := by decide +kernel
theorem dX10_bookInterest_30 : decode cX10_bookInterest 30 = .ok (.ldiv, 1) := by decide +kernel
theorem dX10_bookInterest_31 : decode cX10_bookInterest 31 = .ok (.lstore_n 2, 1) := by decide +kernel
theorem dX10_bookInterest_32 : decode cX10_bookInterest 32 = .ok (.aload_n 0, 1) := by decide +kernel
theorem dX10_bookInterest_33 : decode cX10_bookInterest 33 = .ok (.getfield 7, 3) := by decide +kernel
theorem dX10_bookInterest_36 : decode cX10_bookInterest 36 = .ok (.bipush 20, 2) := by decide +kernel
theorem dX10_bookInterest_38 : decode cX10_bookInterest 38 = .ok (.iload_n 1, 1) := by decide +kernel
theorem dX10_bookInterest_39 : decode cX10_bookInterest 39 = .ok (.iadd, 1) := by decide +kernel
theorem dX10_bookInterest_40 : decode cX10_bookInterest 40 = .ok (.laload, 1) := by decide +kernel
theorem dX10_bookInterest_41 : decode cX10_bookInterest 41 = .ok (.ldc2_w 155, 3) := by decide +kernel
theorem dX10_bookInterest_44 : decode cX10_bookInterest 44 = .ok (.ldiv, 1) := by decide +kernel
theorem dX10_bookInterest_45 : decode cX10_bookInterest 45 = .ok (.lstore 4, 2) := by decide +kernel
theorem dX10_bookInterest_47 : decode cX10_bookInterest 47 = .ok (.aload_n 0, 1) := by decide +kernel
theorem dX10_bookInterest_48 : decode cX10_bookInterest 48 = .ok (.iload_n 1, 1) := by decide +kernel
theorem dX10_bookInterest_49 : decode cX10_bookInterest 49 = .ok (.lload_n 2, 1) := by decide +kernel
theorem dX10_bookInterest_50 : decode cX10_bookInterest 50 = .ok (.bipush 30, 2) := by decide +kernel
theorem dX10_bookInterest_52 : decode cX10_bookInterest 52 = .ok (.iconst 1, 1) := by decide +kernel
theorem dX10_bookInterest_53 : decode cX10_bookInterest 53 = .ok (.invokevirtual 157, 3) := by decide +kernel
theorem dX10_bookInterest_56 : decode cX10_bookInterest 56 = .ok (.aload_n 0, 1) := by decide +kernel
theorem dX10_bookInterest_57 : decode cX10_bookInterest 57 = .ok (.iload_n 1, 1) := by decide +kernel
theorem dX10_bookInterest_58 : decode cX10_bookInterest 58 = .ok (.lload 4, 2) := by decide +kernel
theorem dX10_bookInterest_60 : decode cX10_bookInterest 60 = .ok (.bipush 40, 2) := by decide +kernel
theorem dX10_bookInterest_62 : decode cX10_bookInterest 62 = .ok (.iconst (-1), 1) := by decide +kernel
theorem dX10_bookInterest_63 : decode cX10_bookInterest 63 = .ok (.invokevirtual 157, 3) := by decide +kernel
theorem dX10_bookInterest_66 : decode cX10_bookInterest 66 = .ok (.aload_n 0, 1) := by decide +kernel
theorem dX10_bookInterest_67 : decode cX10_bookInterest 67 = .ok (.getfield 7, 3) := by decide +kernel
theorem dX10_bookInterest_70 : decode cX10_bookInterest 70 = .ok (.bipush 10, 2) := by decide +kernel
theorem dX10_bookInterest_72 : decode cX10_bookInterest 72 = .ok (.iload_n 1, 1) := by decide +kernel
theorem dX10_bookInterest_73 : decode cX10_bookInterest 73 = .ok (.iadd, 1) := by decide +kernel
theorem dX10_bookInterest_74 : decode cX10_bookInterest 74 = .ok (.dup2, 1) := by decide +kernel
theorem dX10_bookInterest_75 : decode cX10_bookInterest 75 = .ok (.laload, 1) := by decide +kernel
theorem dX10_bookInterest_76 : decode cX10_bookInterest 76 = .ok (.ldc2_w 155, 3) := by decide +kernel
theorem dX10_bookInterest_79 : decode cX10_bookInterest 79 = .ok (.lrem, 1) := by decide +kernel
theorem dX10_bookInterest_80 : decode cX10_bookInterest 80 = .ok (.lastore, 1) := by decide +kernel
theorem dX10_bookInterest_81 : decode cX10_bookInterest 81 = .ok (.aload_n 0, 1) := by decide +kernel
theorem dX10_bookInterest_82 : decode cX10_bookInterest 82 = .ok (.getfield 7, 3) := by decide +kernel
theorem dX10_bookInterest_85 : decode cX10_bookInterest 85 = .ok (.bipush 20, 2) := by decide +kernel
theorem dX10_bookInterest_87 : decode cX10_bookInterest 87 = .ok (.iload_n 1, 1) := by decide +kernel
theorem dX10_bookInterest_88 : decode cX10_bookInterest 88 = .ok (.iadd, 1) := by decide +kernel
theorem dX10_bookInterest_89 : decode cX10_bookInterest 89 = .ok (.dup2, 1) := by decide +kernel
theorem dX10_bookInterest_90 : decode cX10_bookInterest 90 = .ok (.laload, 1) := by decide +kernel
theorem dX10_bookInterest_91 : decode cX10_bookInterest 91 = .ok (.ldc2_w 155, 3) := by decide +kernel
theorem dX10_bookInterest_94 : decode cX10_bookInterest 94 = .ok (.lrem, 1) := by decide +kernel
theorem dX10_bookInterest_95 : decode cX10_bookInterest 95 = .ok (.lastore, 1) := by decide +kernel
theorem dX10_bookInterest_96 : decode cX10_bookInterest 96 = .ok (.aload_n 0, 1) := by decide +kernel
theorem dX10_bookInterest_97 : decode cX10_bookInterest 97 = .ok (.getfield 7, 3) := by decide +kernel
theorem dX10_bookInterest_100 : decode cX10_bookInterest 100 = .ok (.bipush 60, 2) := by decide +kernel
theorem dX10_bookInterest_102 : decode cX10_bookInterest 102 = .ok (.iload_n 1, 1) := by decide +kernel
theorem dX10_bookInterest_103 : decode cX10_bookInterest 103 = .ok (.iadd, 1) := by decide +kernel
theorem dX10_bookInterest_104 : decode cX10_bookInterest 104 = .ok (.dup2, 1) := by decide +kernel
theorem dX10_bookInterest_105 : decode cX10_bookInterest 105 = .ok (.laload, 1) := by decide +kernel
theorem dX10_bookInterest_106 : decode cX10_bookInterest 106 = .ok (.lload_n 2, 1) := by decide +kernel
theorem dX10_bookInterest_107 : decode cX10_bookInterest 107 = .ok (.lload 4, 2) := by decide +kernel
theorem dX10_bookInterest_109 : decode cX10_bookInterest 109 = .ok (.lsub, 1) := by decide +kernel
theorem dX10_bookInterest_110 : decode cX10_bookInterest 110 = .ok (.ladd, 1) := by decide +kernel
theorem dX10_bookInterest_111 : decode cX10_bookInterest 111 = .ok (.lastore, 1) := by decide +kernel
theorem dX10_bookInterest_112 : decode cX10_bookInterest 112 = .ok (.iinc 1 1, 3) := by decide +kernel
theorem dX10_bookInterest_115 : decode cX10_bookInterest 115 = .ok (.goto (-113), 3) := by decide +kernel
theorem dX10_bookInterest_118 : decode cX10_bookInterest 118 = .ok (.iconst 0, 1) := by decide +kernel
theorem dX10_bookInterest_119 : decode cX10_bookInterest 119 = .ok (.istore_n 1, 1) := by decide +kernel
theorem dX10_bookInterest_120 : decode cX10_bookInterest 120 = .ok (.iload_n 1, 1) := by decide +kernel
theorem dX10_bookInterest_121 : decode cX10_bookInterest 121 = .ok (.aload_n 0, 1) := by decide +kernel
theorem dX10_bookInterest_122 : decode cX10_bookInterest 122 = .ok (.getfield 79, 3) := by decide +kernel
theorem dX10_bookInterest_125 : decode cX10_bookInterest 125 = .ok (.if_icmp .ge 29, 3) := by decide +kernel
theorem dX10_bookInterest_128 : decode cX10_bookInterest 128 = .ok (.aload_n 0, 1) := by decide +kernel
theorem dX10_bookInterest_129 : decode cX10_bookInterest 129 = .ok (.getfield 7, 3) := by decide +kernel
theorem dX10_bookInterest_132 : decode cX10_bookInterest 132 = .ok (.bipush 30, 2) := by decide +kernel
theorem dX10_bookInterest_134 : decode cX10_bookInterest 134 = .ok (.iload_n 1, 1) := by decide +kernel
theorem dX10_bookInterest_135 : decode cX10_bookInterest 135 = .ok (.iadd, 1) := by decide +kernel
theorem dX10_bookInterest_136 : decode cX10_bookInterest 136 = .ok (.lconst 0, 1) := by decide +kernel
theorem dX10_bookInterest_137 : decode cX10_bookInterest 137 = .ok (.lastore, 1) := by decide +kernel
theorem dX10_bookInterest_138 : decode cX10_bookInterest 138 = .ok (.aload_n 0, 1) := by decide +kernel
theorem dX10_bookInterest_139 : decode cX10_bookInterest 139 = .ok (.getfield 7, 3) := by decide +kernel
theorem dX10_bookInterest_142 : decode cX10_bookInterest 142 = .ok (.bipush 40, 2) := by decide +kernel
theorem dX10_bookInterest_144 : decode cX10_bookInterest 144 = .ok (.iload_n 1, 1) := by decide +kernel
theorem dX10_bookInterest_145 : decode cX10_bookInterest 145 = .ok (.iadd, 1) := by decide +kernel
theorem dX10_bookInterest_146 : decode cX10_bookInterest 146 = .ok (.lconst 0, 1) := by decide +kernel
theorem dX10_bookInterest_147 : decode cX10_bookInterest 147 = .ok (.lastore, 1) := by decide +kernel
theorem dX10_bookInterest_148 : decode cX10_bookInterest 148 = .ok (.iinc 1 1, 3) := by decide +kernel
theorem dX10_bookInterest_151 : decode cX10_bookInterest 151 = .ok (.goto (-31), 3) := by decide +kernel
theorem dX10_bookInterest_154 : decode cX10_bookInterest 154 = .ok (.iconst 0, 1) := by decide +kernel
theorem dX10_bookInterest_155 : decode cX10_bookInterest 155 = .ok (.istore_n 1, 1) := by decide +kernel
theorem dX10_bookInterest_156 : decode cX10_bookInterest 156 = .ok (.iload_n 1, 1) := by decide +kernel
theorem dX10_bookInterest_157 : decode cX10_bookInterest 157 = .ok (.aload_n 0, 1) := by decide +kernel
theorem dX10_bookInterest_158 : decode cX10_bookInterest 158 = .ok (.getfield 106, 3) := by decide +kernel
theorem dX10_bookInterest_161 : decode cX10_bookInterest 161 = .ok (.if_icmp .ge 68, 3) := by decide +kernel
theorem dX10_bookInterest_164 : decode cX10_bookInterest 164 = .ok (.aload_n 0, 1) := by decide +kernel
theorem dX10_bookInterest_165 : decode cX10_bookInterest 165 = .ok (.getfield 7, 3) := by decide +kernel
theorem dX10_bookInterest_168 : decode cX10_bookInterest 168 = .ok (.bipush 76, 2) := by decide +kernel
theorem dX10_bookInterest_170 : decode cX10_bookInterest 170 = .ok (.iload_n 1, 1) := by decide +kernel
theorem dX10_bookInterest_171 : decode cX10_bookInterest 171 = .ok (.iadd, 1) := by decide +kernel
theorem dX10_bookInterest_172 : decode cX10_bookInterest 172 = .ok (.laload, 1) := by decide +kernel
theorem dX10_bookInterest_173 : decode cX10_bookInterest 173 = .ok (.ldc2_w 155, 3) := by decide +kernel
theorem dX10_bookInterest_176 : decode cX10_bookInterest 176 = .ok (.ldiv, 1) := by decide +kernel
theorem dX10_bookInterest_177 : decode cX10_bookInterest 177 = .ok (.lstore_n 2, 1) := by decide +kernel
theorem dX10_bookInterest_178 : decode cX10_bookInterest 178 = .ok (.aload_n 0, 1) := by decide +kernel
theorem dX10_bookInterest_179 : decode cX10_bookInterest 179 = .ok (.getfield 7, 3) := by decide +kernel
theorem dX10_bookInterest_182 : decode cX10_bookInterest 182 = .ok (.bipush 76, 2) := by decide +kernel
theorem dX10_bookInterest_184 : decode cX10_bookInterest 184 = .ok (.iload_n 1, 1) := by decide +kernel
theorem dX10_bookInterest_185 : decode cX10_bookInterest 185 = .ok (.iadd, 1) := by decide +kernel
theorem dX10_bookInterest_186 : decode cX10_bookInterest 186 = .ok (.dup2, 1) := by decide +kernel
theorem dX10_bookInterest_187 : decode cX10_bookInterest 187 = .ok (.laload, 1) := by decide +kernel
theorem dX10_bookInterest_188 : decode cX10_bookInterest 188 = .ok (.ldc2_w 155, 3) := by decide +kernel
theorem dX10_bookInterest_191 : decode cX10_bookInterest 191 = .ok (.lrem, 1) := by decide +kernel
theorem dX10_bookInterest_192 : decode cX10_bookInterest 192 = .ok (.lastore, 1) := by decide +kernel
theorem dX10_bookInterest_193 : decode cX10_bookInterest 193 = .ok (.aload_n 0, 1) := by decide +kernel
theorem dX10_bookInterest_194 : decode cX10_bookInterest 194 = .ok (.getfield 7, 3) := by decide +kernel
theorem dX10_bookInterest_197 : decode cX10_bookInterest 197 = .ok (.bipush 82, 2) := by decide +kernel
theorem dX10_bookInterest_199 : decode cX10_bookInterest 199 = .ok (.iload_n 1, 1) := by decide +kernel
theorem dX10_bookInterest_200 : decode cX10_bookInterest 200 = .ok (.iadd, 1) := by decide +kernel
theorem dX10_bookInterest_201 : decode cX10_bookInterest 201 = .ok (.dup2, 1) := by decide +kernel
theorem dX10_bookInterest_202 : decode cX10_bookInterest 202 = .ok (.laload, 1) := by decide +kernel
theorem dX10_bookInterest_203 : decode cX10_bookInterest 203 = .ok (.lload_n 2, 1) := by decide +kernel
theorem dX10_bookInterest_204 : decode cX10_bookInterest 204 = .ok (.ladd, 1) := by decide +kernel
theorem dX10_bookInterest_205 : decode cX10_bookInterest 205 = .ok (.lastore, 1) := by decide +kernel
theorem dX10_bookInterest_206 : decode cX10_bookInterest 206 = .ok (.aload_n 0, 1) := by decide +kernel
theorem dX10_bookInterest_207 : decode cX10_bookInterest 207 = .ok (.getfield 7, 3) := by decide +kernel
theorem dX10_bookInterest_210 : decode cX10_bookInterest 210 = .ok (.iconst 0, 1) := by decide +kernel
theorem dX10_bookInterest_211 : decode cX10_bookInterest 211 = .ok (.aload_n 0, 1) := by decide +kernel
theorem dX10_bookInterest_212 : decode cX10_bookInterest 212 = .ok (.getfield 41, 3) := by decide +kernel
theorem dX10_bookInterest_215 : decode cX10_bookInterest 215 = .ok (.iload_n 1, 1) := by decide +kernel
theorem dX10_bookInterest_216 : decode cX10_bookInterest 216 = .ok (.iaload, 1) := by decide +kernel
theorem dX10_bookInterest_217 : decode cX10_bookInterest 217 = .ok (.iadd, 1) := by decide +kernel
theorem dX10_bookInterest_218 : decode cX10_bookInterest 218 = .ok (.dup2, 1) := by decide +kernel
theorem dX10_bookInterest_219 : decode cX10_bookInterest 219 = .ok (.laload, 1) := by decide +kernel
theorem dX10_bookInterest_220 : decode cX10_bookInterest 220 = .ok (.lload_n 2, 1) := by decide +kernel
theorem dX10_bookInterest_221 : decode cX10_bookInterest 221 = .ok (.lsub, 1) := by decide +kernel
theorem dX10_bookInterest_222 : decode cX10_bookInterest 222 = .ok (.lastore, 1) := by decide +kernel
theorem dX10_bookInterest_223 : decode cX10_bookInterest 223 = .ok (.iinc 1 1, 3) := by decide +kernel
theorem dX10_bookInterest_226 : decode cX10_bookInterest 226 = .ok (.goto (-70), 3) := by decide +kernel
theorem dX10_bookInterest_229 : decode cX10_bookInterest 229 = .ok (.return_, 1) := by decide +kernel
theorem dX10_due_0 : decode cX10_due 0 = .ok (.aload_n 0, 1) := by decide +kernel
theorem dX10_due_1 : decode cX10_due 1 = .ok (.getfield 59, 3) := by decide +kernel
theorem dX10_due_4 : decode cX10_due 4 = .ok (.iload_n 1, 1) := by decide +kernel
theorem dX10_due_5 : decode cX10_due 5 = .ok (.iaload, 1) := by decide +kernel
theorem dX10_due_6 : decode cX10_due 6 = .ok (.iload_n 2, 1) := by decide +kernel
theorem dX10_due_7 : decode cX10_due 7 = .ok (.aload_n 0, 1) := by decide +kernel
theorem dX10_due_8 : decode cX10_due 8 = .ok (.getfield 62, 3) := by decide +kernel
theorem dX10_due_11 : decode cX10_due 11 = .ok (.iload_n 1, 1) := by decide +kernel
theorem dX10_due_12 : decode cX10_due 12 = .ok (.iaload, 1) := by decide +kernel
theorem dX10_due_13 : decode cX10_due 13 = .ok (.imul, 1) := by decide +kernel
theorem dX10_due_14 : decode cX10_due 14 = .ok (.iadd, 1) := by decide +kernel
theorem dX10_due_15 : decode cX10_due 15 = .ok (.ireturn, 1) := by decide +kernel
set_option maxRecDepth 20000 in
theorem ggX10_passDay_X10_isSettlement : GoodIn wsX10_passDay wsX10_isSettlement := goodIn_r _ [11, 12, 112, 113, 114, 115, 116, 117, 118, 119, 120, 121, 122, 123, 124, 125, 126, 127, 128, 129, 130, 131, 132, 133, 134, 135, 136] (by decide +kernel) (by decide +kernel)
set_option maxRecDepth 20000 in
theorem gX10_passDay_X10_isSettlement : GoodIn wsX10_passDay (wsV RX10 161 RX10 yX10_isSettlement wsX10_isSettlement) := goodIn_app (goodIn_of _ (by decide +kernel)) ggX10_passDay_X10_isSettlement
set_option maxRecDepth 20000 in
theorem ggX10_passDay_X10_due : GoodIn wsX10_passDay wsX10_due := goodIn_r _ [16, 17, 18, 112, 113, 114, 115, 116, 117, 118, 119, 120, 121, 122, 123, 124, 125, 126, 127, 128, 129, 130, 131, 132, 133, 134, 135, 136] (by decide +kernel) (by decide +kernel)
set_option maxRecDepth 20000 in
theorem gX10_passDay_X10_due : GoodIn wsX10_passDay (wsV RX10 167 RX10 yX10_due wsX10_due) := goodIn_app (goodIn_of _ (by decide +kernel)) ggX10_passDay_X10_due
set_option maxRecDepth 20000 in
theorem ggX10_passDay_X10_sweep : GoodIn wsX10_passDay wsX10_sweep := goodIn_r _ [22, 6, 23, 1, 24, 25, 26, 27, 10, 28, 29, 30, 31, 32, 33, 34, 35, 36, 37, 38, 112, 113, 114, 115, 116, 117, 118, 119, 120, 121, 122, 123, 124, 125, 126, 127, 128, 129, 130, 131, 132, 133, 134, 135, 136] (by decide +kernel) (by decide +kernel)
set_option maxRecDepth 20000 in
theorem gX10_passDay_X10_sweep : GoodIn wsX10_passDay (wsV RX10 171 RX10 yX10_sweep wsX10_sweep) := goodIn_app (goodIn_of _ (by decide +kernel)) ggX10_passDay_X10_sweep
set_option maxRecDepth 20000 in
theorem ggX10_passDay_X10_isTop : GoodIn wsX10_passDay wsX10_isTop := goodIn_r _ [28, 23, 112, 113, 114, 115, 116, 117, 118, 119, 120, 121, 122, 123, 124, 125, 126, 127, 128, 129, 130, 131, 132, 133, 134, 135, 136] (by decide +kernel) (by decide +kernel)
set_option maxRecDepth 20000 in
theorem gX10_passDay_X10_isTop : GoodIn wsX10_passDay (wsV RX10 102 RX10 yX10_isTop wsX10_isTop) := goodIn_app (goodIn_of _ (by decide +kernel)) ggX10_passDay_X10_isTop
set_option maxRecDepth 20000 in
theorem ggX10_passDay_X10_cover : GoodIn wsX10_passDay wsX10_cover := goodIn_r _ [42, 1, 43, 44, 45, 46, 10, 47, 48, 49, 50, 112, 113, 114, 115, 116, 117, 118, 119, 120, 121, 122, 123, 124, 125, 126, 127, 128, 129, 130, 131, 132, 133, 134, 135, 136] (by decide +kernel) (by decide +kernel)
set_option maxRecDepth 20000 in
theorem gX10_passDay_X10_cover : GoodIn wsX10_passDay (wsV RX10 174 RX10 yX10_cover wsX10_cover) := goodIn_app (goodIn_of _ (by decide +kernel)) ggX10_passDay_X10_cover
set_option maxRecDepth 20000 in
theorem ggX10_passDay_X10_ease : GoodIn wsX10_passDay wsX10_ease := goodIn_r _ [54, 55, 56, 1, 57, 58, 59, 10, 60, 6, 61, 62, 63, 64, 65, 66, 67, 68, 69, 70, 71, 72, 73, 74, 75, 76, 77, 78, 79, 80, 81, 82, 35, 36, 37, 38, 112, 113, 114, 115, 116, 117, 118, 119, 120, 121, 122, 123, 124, 125, 126, 127, 128, 129, 130, 131, 132, 133, 134, 135, 136] (by decide +kernel) (by decide +kernel)
set_option maxRecDepth 20000 in
theorem gX10_passDay_X10_ease : GoodIn wsX10_passDay (wsV RX10 178 RX10 yX10_ease wsX10_ease) := goodIn_app (goodIn_of _ (by decide +kernel)) ggX10_passDay_X10_ease
set_option maxRecDepth 20000 in
theorem ggX10_passDay_X10_accrue : GoodIn wsX10_passDay wsX10_accrue := goodIn_r _ [86, 6, 1, 87, 88, 55, 48, 50, 25, 26, 27, 10, 28, 23, 89, 90, 91, 92, 93, 94, 95, 96, 112, 113, 114, 115, 116, 117, 118, 119, 120, 121, 122, 123, 124, 125, 126, 127, 128, 129, 130, 131, 132, 133, 134, 135, 136] (by decide +kernel) (by decide +kernel)
set_option maxRecDepth 20000 in
theorem gX10_passDay_X10_accrue : GoodIn wsX10_passDay (wsV RX10 181 RX10 yX10_accrue wsX10_accrue) := goodIn_app (goodIn_of _ (by decide +kernel)) ggX10_passDay_X10_accrue
set_option maxRecDepth 20000 in
theorem ggX10_passDay_X10_bookInterest : GoodIn wsX10_passDay wsX10_bookInterest := goodIn_r _ [100, 6, 1, 101, 48, 49, 25, 26, 27, 10, 28, 23, 102, 103, 104, 105, 55, 106, 107, 108, 109, 110, 111, 112, 113, 114, 115, 116, 117, 118, 119, 120, 121, 122, 123, 124, 125, 126, 127, 128, 129, 130, 131, 132, 133, 134, 135, 136] (by decide +kernel) (by decide +kernel)
set_option maxRecDepth 20000 in
theorem gX10_passDay_X10_bookInterest : GoodIn wsX10_passDay (wsV RX10 184 RX10 yX10_bookInterest wsX10_bookInterest) := goodIn_app (goodIn_of _ (by decide +kernel)) ggX10_passDay_X10_bookInterest
theorem dX10_passDay_0 : decode cX10_passDay 0 = .ok (.aload_n 0, 1) := by decide +kernel
theorem dX10_passDay_1 : decode cX10_passDay 1 = .ok (.getfield 7, 3) := by decide +kernel
theorem dX10_passDay_4 : decode cX10_passDay 4 = .ok (.bipush 108, 2) := by decide +kernel
theorem dX10_passDay_6 : decode cX10_passDay 6 = .ok (.laload, 1) := by decide +kernel
theorem dX10_passDay_7 : decode cX10_passDay 7 = .ok (.l2i, 1) := by decide +kernel
theorem dX10_passDay_8 : decode cX10_passDay 8 = .ok (.istore_n 1, 1) := by decide +kernel
theorem dX10_passDay_9 : decode cX10_passDay 9 = .ok (.aload_n 0, 1) := by decide +kernel
theorem dX10_passDay_10 : decode cX10_passDay 10 = .ok (.iload_n 1, 1) := by decide +kernel
theorem dX10_passDay_11 : decode cX10_passDay 11 = .ok (.invokevirtual 161, 3) := by decide +kernel
theorem dX10_passDay_14 : decode cX10_passDay 14 = .ok (.ifCond .eq 134, 3) := by decide +kernel
theorem dX10_passDay_17 : decode cX10_passDay 17 = .ok (.iconst 0, 1) := by decide +kernel
theorem dX10_passDay_18 : decode cX10_passDay 18 = .ok (.istore_n 2, 1) := by decide +kernel
theorem dX10_passDay_19 : decode cX10_passDay 19 = .ok (.iload_n 2, 1) := by decide +kernel
theorem dX10_passDay_20 : decode cX10_passDay 20 = .ok (.aload_n 0, 1) := by decide +kernel
theorem dX10_passDay_21 : decode cX10_passDay 21 = .ok (.getfield 164, 3) := by decide +kernel
theorem dX10_passDay_24 : decode cX10_passDay 24 = .ok (.if_icmp .ge 87, 3) := by decide +kernel
theorem dX10_passDay_27 : decode cX10_passDay 27 = .ok (.aload_n 0, 1) := by decide +kernel
theorem dX10_passDay_28 : decode cX10_passDay 28 = .ok (.getfield 7, 3) := by decide +kernel
theorem dX10_passDay_31 : decode cX10_passDay 31 = .ok (.bipush 88, 2) := by decide +kernel
theorem dX10_passDay_33 : decode cX10_passDay 33 = .ok (.iload_n 2, 1) := by decide +kernel
theorem dX10_passDay_34 : decode cX10_passDay 34 = .ok (.iadd, 1) := by decide +kernel
theorem dX10_passDay_35 : decode cX10_passDay 35 = .ok (.laload, 1) := by decide +kernel
theorem dX10_passDay_36 : decode cX10_passDay 36 = .ok (.aload_n 0, 1) := by decide +kernel
theorem dX10_passDay_37 : decode cX10_passDay 37 = .ok (.getfield 65, 3) := by decide +kernel
theorem dX10_passDay_40 : decode cX10_passDay 40 = .ok (.iload_n 2, 1) := by decide +kernel
theorem dX10_passDay_41 : decode cX10_passDay 41 = .ok (.iaload, 1) := by decide +kernel
theorem dX10_passDay_42 : decode cX10_passDay 42 = .ok (.i2l, 1) := by decide +kernel
theorem dX10_passDay_43 : decode cX10_passDay 43 = .ok (.lcmp, 1) := by decide +kernel
theorem dX10_passDay_44 : decode cX10_passDay 44 = .ok (.ifCond .ge 61, 3) := by decide +kernel
theorem dX10_passDay_47 : decode cX10_passDay 47 = .ok (.aload_n 0, 1) := by decide +kernel
theorem dX10_passDay_48 : decode cX10_passDay 48 = .ok (.iload_n 2, 1) := by decide +kernel
theorem dX10_passDay_49 : decode cX10_passDay 49 = .ok (.aload_n 0, 1) := by decide +kernel
theorem dX10_passDay_50 : decode cX10_passDay 50 = .ok (.getfield 7, 3) := by decide +kernel
theorem dX10_passDay_53 : decode cX10_passDay 53 = .ok (.bipush 88, 2) := by decide +kernel
theorem dX10_passDay_55 : decode cX10_passDay 55 = .ok (.iload_n 2, 1) := by decide +kernel
theorem dX10_passDay_56 : decode cX10_passDay 56 = .ok (.iadd, 1) := by decide +kernel
theorem dX10_passDay_57 : decode cX10_passDay 57 = .ok (.laload, 1) := by decide +kernel
theorem dX10_passDay_58 : decode cX10_passDay 58 = .ok (.l2i, 1) := by decide +kernel
theorem dX10_passDay_59 : decode cX10_passDay 59 = .ok (.invokevirtual 167, 3) := by decide +kernel
theorem dX10_passDay_62 : decode cX10_passDay 62 = .ok (.iload_n 1, 1) := by decide +kernel
theorem dX10_passDay_63 : decode cX10_passDay 63 = .ok (.if_icmp .gt 42, 3) := by decide +kernel
theorem dX10_passDay_66 : decode cX10_passDay 66 = .ok (.aload_n 0, 1) := by decide +kernel
theorem dX10_passDay_67 : decode cX10_passDay 67 = .ok (.getfield 7, 3) := by decide +kernel
theorem dX10_passDay_70 : decode cX10_passDay 70 = .ok (.iconst 0, 1) := by decide +kernel
theorem dX10_passDay_71 : decode cX10_passDay 71 = .ok (.aload_n 0, 1) := by decide +kernel
theorem dX10_passDay_72 : decode cX10_passDay 72 = .ok (.getfield 53, 3) := by decide +kernel
theorem dX10_passDay_75 : decode cX10_passDay 75 = .ok (.iload_n 2, 1) := by decide +kernel
theorem dX10_passDay_76 : decode cX10_passDay 76 = .ok (.iaload, 1) := by decide +kernel
theorem dX10_passDay_77 : decode cX10_passDay 77 = .ok (.iadd, 1) := by decide +kernel
theorem dX10_passDay_78 : decode cX10_passDay 78 = .ok (.dup2, 1) := by decide +kernel
theorem dX10_passDay_79 : decode cX10_passDay 79 = .ok (.laload, 1) := by decide +kernel
theorem dX10_passDay_80 : decode cX10_passDay 80 = .ok (.aload_n 0, 1) := by decide +kernel
theorem dX10_passDay_81 : decode cX10_passDay 81 = .ok (.getfield 56, 3) := by decide +kernel
theorem dX10_passDay_84 : decode cX10_passDay 84 = .ok (.iload_n 2, 1) := by decide +kernel
theorem dX10_passDay_85 : decode cX10_passDay 85 = .ok (.iaload, 1) := by decide +kernel
theorem dX10_passDay_86 : decode cX10_passDay 86 = .ok (.i2l, 1) := by decide +kernel
theorem dX10_passDay_87 : decode cX10_passDay 87 = .ok (.ladd, 1) := by decide +kernel
theorem dX10_passDay_88 : decode cX10_passDay 88 = .ok (.lastore, 1) := by decide +kernel
theorem dX10_passDay_89 : decode cX10_passDay 89 = .ok (.aload_n 0, 1) := by decide +kernel
theorem dX10_passDay_90 : decode cX10_passDay 90 = .ok (.getfield 7, 3) := by decide +kernel
theorem dX10_passDay_93 : decode cX10_passDay 93 = .ok (.bipush 88, 2) := by decide +kernel
theorem dX10_passDay_95 : decode cX10_passDay 95 = .ok (.iload_n 2, 1) := by decide +kernel
theorem dX10_passDay_96 : decode cX10_passDay 96 = .ok (.iadd, 1) := by decide +kernel
theorem dX10_passDay_97 : decode cX10_passDay 97 = .ok (.dup2, 1) := by decide +kernel
theorem dX10_passDay_98 : decode cX10_passDay 98 = .ok (.laload, 1) := by decide +kernel
theorem dX10_passDay_99 : decode cX10_passDay 99 = .ok (.lconst 1, 1) := by decide +kernel
theorem dX10_passDay_100 : decode cX10_passDay 100 = .ok (.ladd, 1) := by decide +kernel
theorem dX10_passDay_101 : decode cX10_passDay 101 = .ok (.lastore, 1) := by decide +kernel
theorem dX10_passDay_102 : decode cX10_passDay 102 = .ok (.goto (-75), 3) := by decide +kernel
theorem dX10_passDay_105 : decode cX10_passDay 105 = .ok (.iinc 2 1, 3) := by decide +kernel
theorem dX10_passDay_108 : decode cX10_passDay 108 = .ok (.goto (-89), 3) := by decide +kernel
theorem dX10_passDay_111 : decode cX10_passDay 111 = .ok (.aload_n 0, 1) := by decide +kernel
theorem dX10_passDay_112 : decode cX10_passDay 112 = .ok (.invokevirtual 171, 3) := by decide +kernel
theorem dX10_passDay_115 : decode cX10_passDay 115 = .ok (.iconst 0, 1) := by decide +kernel
theorem dX10_passDay_116 : decode cX10_passDay 116 = .ok (.istore_n 2, 1) := by decide +kernel
theorem dX10_passDay_117 : decode cX10_passDay 117 = .ok (.iload_n 2, 1) := by decide +kernel
theorem dX10_passDay_118 : decode cX10_passDay 118 = .ok (.aload_n 0, 1) := by decide +kernel
theorem dX10_passDay_119 : decode cX10_passDay 119 = .ok (.getfield 79, 3) := by decide +kernel
theorem dX10_passDay_122 : decode cX10_passDay 122 = .ok (.if_icmp .ge 22, 3) := by decide +kernel
theorem dX10_passDay_125 : decode cX10_passDay 125 = .ok (.aload_n 0, 1) := by decide +kernel
theorem dX10_passDay_126 : decode cX10_passDay 126 = .ok (.iload_n 2, 1) := by decide +kernel
theorem dX10_passDay_127 : decode cX10_passDay 127 = .ok (.invokevirtual 102, 3) := by decide +kernel
theorem dX10_passDay_130 : decode cX10_passDay 130 = .ok (.ifCond .eq 8, 3) := by decide +kernel
theorem dX10_passDay_133 : decode cX10_passDay 133 = .ok (.aload_n 0, 1) := by decide +kernel
theorem dX10_passDay_134 : decode cX10_passDay 134 = .ok (.iload_n 2, 1) := by decide +kernel
theorem dX10_passDay_135 : decode cX10_passDay 135 = .ok (.invokevirtual 174, 3) := by decide +kernel
theorem dX10_passDay_138 : decode cX10_passDay 138 = .ok (.iinc 2 1, 3) := by decide +kernel
theorem dX10_passDay_141 : decode cX10_passDay 141 = .ok (.goto (-24), 3) := by decide +kernel
theorem dX10_passDay_144 : decode cX10_passDay 144 = .ok (.aload_n 0, 1) := by decide +kernel
theorem dX10_passDay_145 : decode cX10_passDay 145 = .ok (.invokevirtual 178, 3) := by decide +kernel
theorem dX10_passDay_148 : decode cX10_passDay 148 = .ok (.aload_n 0, 1) := by decide +kernel
theorem dX10_passDay_149 : decode cX10_passDay 149 = .ok (.invokevirtual 181, 3) := by decide +kernel
theorem dX10_passDay_152 : decode cX10_passDay 152 = .ok (.iload_n 1, 1) := by decide +kernel
theorem dX10_passDay_153 : decode cX10_passDay 153 = .ok (.iconst 1, 1) := by decide +kernel
theorem dX10_passDay_154 : decode cX10_passDay 154 = .ok (.iadd, 1) := by decide +kernel
theorem dX10_passDay_155 : decode cX10_passDay 155 = .ok (.bipush 20, 2) := by decide +kernel
theorem dX10_passDay_157 : decode cX10_passDay 157 = .ok (.irem, 1) := by decide +kernel
theorem dX10_passDay_158 : decode cX10_passDay 158 = .ok (.ifCond .ne 7, 3) := by decide +kernel
theorem dX10_passDay_161 : decode cX10_passDay 161 = .ok (.aload_n 0, 1) := by decide +kernel
theorem dX10_passDay_162 : decode cX10_passDay 162 = .ok (.invokevirtual 184, 3) := by decide +kernel
theorem dX10_passDay_165 : decode cX10_passDay 165 = .ok (.aload_n 0, 1) := by decide +kernel
theorem dX10_passDay_166 : decode cX10_passDay 166 = .ok (.getfield 7, 3) := by decide +kernel
theorem dX10_passDay_169 : decode cX10_passDay 169 = .ok (.bipush 108, 2) := by decide +kernel
theorem dX10_passDay_171 : decode cX10_passDay 171 = .ok (.iload_n 1, 1) := by decide +kernel
theorem dX10_passDay_172 : decode cX10_passDay 172 = .ok (.iconst 1, 1) := by decide +kernel
theorem dX10_passDay_173 : decode cX10_passDay 173 = .ok (.iadd, 1) := by decide +kernel
theorem dX10_passDay_174 : decode cX10_passDay 174 = .ok (.i2l, 1) := by decide +kernel
theorem dX10_passDay_175 : decode cX10_passDay 175 = .ok (.lastore, 1) := by decide +kernel
theorem dX10_passDay_176 : decode cX10_passDay 176 = .ok (.return_, 1) := by decide +kernel
theorem dX10_keep_0 : decode cX10_keep 0 = .ok (.iconst 0, 1) := by decide +kernel
theorem dX10_keep_1 : decode cX10_keep 1 = .ok (.istore_n 1, 1) := by decide +kernel
theorem dX10_keep_2 : decode cX10_keep 2 = .ok (.iload_n 1, 1) := by decide +kernel
theorem dX10_keep_3 : decode cX10_keep 3 = .ok (.bipush 109, 2) := by decide +kernel
theorem dX10_keep_5 : decode cX10_keep 5 = .ok (.if_icmp .ge 21, 3) := by decide +kernel
theorem dX10_keep_8 : decode cX10_keep 8 = .ok (.aload_n 0, 1) := by decide +kernel
theorem dX10_keep_9 : decode cX10_keep 9 = .ok (.getfield 13, 3) := by decide +kernel
theorem dX10_keep_12 : decode cX10_keep 12 = .ok (.iload_n 1, 1) := by decide +kernel
theorem dX10_keep_13 : decode cX10_keep 13 = .ok (.aload_n 0, 1) := by decide +kernel
theorem dX10_keep_14 : decode cX10_keep 14 = .ok (.getfield 7, 3) := by decide +kernel
theorem dX10_keep_17 : decode cX10_keep 17 = .ok (.iload_n 1, 1) := by decide +kernel
theorem dX10_keep_18 : decode cX10_keep 18 = .ok (.laload, 1) := by decide +kernel
theorem dX10_keep_19 : decode cX10_keep 19 = .ok (.lastore, 1) := by decide +kernel
theorem dX10_keep_20 : decode cX10_keep 20 = .ok (.iinc 1 1, 3) := by decide +kernel
theorem dX10_keep_23 : decode cX10_keep 23 = .ok (.goto (-21), 3) := by decide +kernel
theorem dX10_keep_26 : decode cX10_keep 26 = .ok (.return_, 1) := by decide +kernel
theorem dX10_goBack_0 : decode cX10_goBack 0 = .ok (.iconst 0, 1) := by decide +kernel
theorem dX10_goBack_1 : decode cX10_goBack 1 = .ok (.istore_n 1, 1) := by decide +kernel
theorem dX10_goBack_2 : decode cX10_goBack 2 = .ok (.iload_n 1, 1) := by decide +kernel
theorem dX10_goBack_3 : decode cX10_goBack 3 = .ok (.bipush 109, 2) := by decide +kernel
theorem dX10_goBack_5 : decode cX10_goBack 5 = .ok (.if_icmp .ge 21, 3) := by decide +kernel
theorem dX10_goBack_8 : decode cX10_goBack 8 = .ok (.aload_n 0, 1) := by decide +kernel
theorem dX10_goBack_9 : decode cX10_goBack 9 = .ok (.getfield 7, 3) := by decide +kernel
theorem dX10_goBack_12 : decode cX10_goBack 12 = .ok (.iload_n 1, 1) := by decide +kernel
theorem dX10_goBack_13 : decode cX10_goBack 13 = .ok (.aload_n 0, 1) := by decide +kernel
theorem dX10_goBack_14 : decode cX10_goBack 14 = .ok (.getfield 13, 3) := by decide +kernel
theorem dX10_goBack_17 : decode cX10_goBack 17 = .ok (.iload_n 1, 1) := by decide +kernel
theorem dX10_goBack_18 : decode cX10_goBack 18 = .ok (.laload, 1) := by decide +kernel
theorem dX10_goBack_19 : decode cX10_goBack 19 = .ok (.lastore, 1) := by decide +kernel
theorem dX10_goBack_20 : decode cX10_goBack 20 = .ok (.iinc 1 1, 3) := by decide +kernel
theorem dX10_goBack_23 : decode cX10_goBack 23 = .ok (.goto (-21), 3) := by decide +kernel
theorem dX10_goBack_26 : decode cX10_goBack 26 = .ok (.return_, 1) := by decide +kernel
theorem dX10_today_0 : decode cX10_today 0 = .ok (.aload_n 0, 1) := by decide +kernel
theorem dX10_today_1 : decode cX10_today 1 = .ok (.iconst 0, 1) := by decide +kernel
theorem dX10_today_2 : decode cX10_today 2 = .ok (.putfield 75, 3) := by decide +kernel
theorem dX10_today_5 : decode cX10_today 5 = .ok (.aload_n 0, 1) := by decide +kernel
theorem dX10_today_6 : decode cX10_today 6 = .ok (.getfield 7, 3) := by decide +kernel
theorem dX10_today_9 : decode cX10_today 9 = .ok (.bipush 108, 2) := by decide +kernel
theorem dX10_today_11 : decode cX10_today 11 = .ok (.laload, 1) := by decide +kernel
theorem dX10_today_12 : decode cX10_today 12 = .ok (.l2i, 1) := by decide +kernel
theorem dX10_today_13 : decode cX10_today 13 = .ok (.ireturn, 1) := by decide +kernel
set_option maxRecDepth 20000 in
theorem ggX10_addHoliday_X10_isIn : GoodIn wsX10_addHoliday wsX10_isIn := goodIn_r _ [5] (by decide +kernel) (by decide +kernel)
set_option maxRecDepth 20000 in
theorem gX10_addHoliday_X10_isIn : GoodIn wsX10_addHoliday (va_wsS RX10 82 yX10_isIn wsX10_isIn) := goodIn_app (goodIn_of _ (by decide +kernel)) ggX10_addHoliday_X10_isIn
set_option maxRecDepth 20000 in
theorem ggX10_addHoliday_X10_can : GoodIn wsX10_addHoliday wsX10_can := goodIn_r _ [9, 10, 15, 16, 17, 18, 19, 20, 21, 22, 23, 24, 25, 26, 27, 28, 29, 30, 31, 32, 33, 34, 35, 36, 37, 38, 39] (by decide +kernel) (by decide +kernel)
set_option maxRecDepth 20000 in
theorem gX10_addHoliday_X10_can : GoodIn wsX10_addHoliday (wsV RX10 86 RX10 yX10_can wsX10_can) := goodIn_app (goodIn_of _ (by decide +kernel)) ggX10_addHoliday_X10_can
set_option maxRecDepth 20000 in
theorem ggX10_addHoliday_X10_isSettlement : GoodIn wsX10_addHoliday wsX10_isSettlement := goodIn_r _ [14, 1, 15, 16, 17, 18, 19, 20, 21, 22, 23, 24, 25, 26, 27, 28, 29, 30, 31, 32, 33, 34, 35, 36, 37, 38, 39] (by decide +kernel) (by decide +kernel)
set_option maxRecDepth 20000 in
theorem gX10_addHoliday_X10_isSettlement : GoodIn wsX10_addHoliday (wsV RX10 161 RX10 yX10_isSettlement wsX10_isSettlement) := goodIn_app (goodIn_of _ (by decide +kernel)) ggX10_addHoliday_X10_isSettlement
theorem dX10_addHoliday_0 : decode cX10_addHoliday 0 = .ok (.aload_n 0, 1) := by decide +kernel
theorem dX10_addHoliday_1 : decode cX10_addHoliday 1 = .ok (.iload_n 1, 1) := by decide +kernel
theorem dX10_addHoliday_2 : decode cX10_addHoliday 2 = .ok (.iconst 0, 1) := by decide +kernel
theorem dX10_addHoliday_3 : decode cX10_addHoliday 3 = .ok (.sipush 450, 3) := by decide +kernel
theorem dX10_addHoliday_6 : decode cX10_addHoliday 6 = .ok (.invokestatic 82, 3) := by decide +kernel
theorem dX10_addHoliday_9 : decode cX10_addHoliday 9 = .ok (.ifCond .eq 7, 3) := by decide +kernel
theorem dX10_addHoliday_12 : decode cX10_addHoliday 12 = .ok (.iconst 0, 1) := by decide +kernel
theorem dX10_addHoliday_13 : decode cX10_addHoliday 13 = .ok (.goto 4, 3) := by decide +kernel
theorem dX10_addHoliday_16 : decode cX10_addHoliday 16 = .ok (.iconst 1, 1) := by decide +kernel
theorem dX10_addHoliday_17 : decode cX10_addHoliday 17 = .ok (.invokevirtual 86, 3) := by decide +kernel
theorem dX10_addHoliday_20 : decode cX10_addHoliday 20 = .ok (.ifCond .ne 5, 3) := by decide +kernel
theorem dX10_addHoliday_23 : decode cX10_addHoliday 23 = .ok (.iconst 0, 1) := by decide +kernel
theorem dX10_addHoliday_24 : decode cX10_addHoliday 24 = .ok (.ireturn, 1) := by decide +kernel
theorem dX10_addHoliday_25 : decode cX10_addHoliday 25 = .ok (.aload_n 0, 1) := by decide +kernel
theorem dX10_addHoliday_26 : decode cX10_addHoliday 26 = .ok (.getfield 68, 3) := by decide +kernel
theorem dX10_addHoliday_29 : decode cX10_addHoliday 29 = .ok (.iload_n 1, 1) := by decide +kernel
theorem dX10_addHoliday_30 : decode cX10_addHoliday 30 = .ok (.iconst 1, 1) := by decide +kernel
theorem dX10_addHoliday_31 : decode cX10_addHoliday 31 = .ok (.bastore, 1) := by decide +kernel
theorem dX10_addHoliday_32 : decode cX10_addHoliday 32 = .ok (.iconst 0, 1) := by decide +kernel
theorem dX10_addHoliday_33 : decode cX10_addHoliday 33 = .ok (.istore_n 2, 1) := by decide +kernel
theorem dX10_addHoliday_34 : decode cX10_addHoliday 34 = .ok (.iconst 0, 1) := by decide +kernel
theorem dX10_addHoliday_35 : decode cX10_addHoliday 35 = .ok (.istore_n 3, 1) := by decide +kernel
theorem dX10_addHoliday_36 : decode cX10_addHoliday 36 = .ok (.iload_n 3, 1) := by decide +kernel
theorem dX10_addHoliday_37 : decode cX10_addHoliday 37 = .ok (.sipush 450, 3) := by decide +kernel
theorem dX10_addHoliday_40 : decode cX10_addHoliday 40 = .ok (.if_icmp .gt 25, 3) := by decide +kernel
theorem dX10_addHoliday_43 : decode cX10_addHoliday 43 = .ok (.iload_n 2, 1) := by decide +kernel
theorem dX10_addHoliday_44 : decode cX10_addHoliday 44 = .ok (.aload_n 0, 1) := by decide +kernel
theorem dX10_addHoliday_45 : decode cX10_addHoliday 45 = .ok (.iload_n 3, 1) := by decide +kernel
theorem dX10_addHoliday_46 : decode cX10_addHoliday 46 = .ok (.invokevirtual 161, 3) := by decide +kernel
theorem dX10_addHoliday_49 : decode cX10_addHoliday 49 = .ok (.ifCond .eq 7, 3) := by decide +kernel
theorem dX10_addHoliday_52 : decode cX10_addHoliday 52 = .ok (.iconst 1, 1) := by decide +kernel
theorem dX10_addHoliday_53 : decode cX10_addHoliday 53 = .ok (.goto 4, 3) := by decide +kernel
theorem dX10_addHoliday_56 : decode cX10_addHoliday 56 = .ok (.iconst 0, 1) := by decide +kernel
theorem dX10_addHoliday_57 : decode cX10_addHoliday 57 = .ok (.iadd, 1) := by decide +kernel
theorem dX10_addHoliday_58 : decode cX10_addHoliday 58 = .ok (.istore_n 2, 1) := by decide +kernel
theorem dX10_addHoliday_59 : decode cX10_addHoliday 59 = .ok (.iinc 3 1, 3) := by decide +kernel
theorem dX10_addHoliday_62 : decode cX10_addHoliday 62 = .ok (.goto (-26), 3) := by decide +kernel
theorem dX10_addHoliday_65 : decode cX10_addHoliday 65 = .ok (.iload_n 2, 1) := by decide +kernel
theorem dX10_addHoliday_66 : decode cX10_addHoliday 66 = .ok (.ireturn, 1) := by decide +kernel
set_option maxRecDepth 20000 in
theorem ggX10_settles_X10_isSettlement : GoodIn wsX10_settles wsX10_isSettlement := goodIn_r _ [5, 6, 7, 8, 9, 10, 11, 12, 13, 14, 15, 16, 17, 18, 19, 20, 21, 22, 23, 24, 25, 26, 27, 28, 29, 30, 31] (by decide +kernel) (by decide +kernel)
set_option maxRecDepth 20000 in
theorem gX10_settles_X10_isSettlement : GoodIn wsX10_settles (wsV RX10 161 RX10 yX10_isSettlement wsX10_isSettlement) := goodIn_app (goodIn_of _ (by decide +kernel)) ggX10_settles_X10_isSettlement
