theorem dX8_leftBefore_76 : decode cX8_leftBefore 76 = .ok (.iload_n 1, 1) := by decide +kernel
theorem dX8_leftBefore_77 : decode cX8_leftBefore 77 = .ok (.if_icmp .ge 17, 3) := by decide +kernel
theorem dX8_leftBefore_80 : decode cX8_leftBefore 80 = .ok (.lload_n 3, 1) := by decide +kernel
theorem dX8_leftBefore_81 : decode cX8_leftBefore 81 = .ok (.aload 6, 2) := by decide +kernel
theorem dX8_leftBefore_83 : decode cX8_leftBefore 83 = .ok (.aload 6, 2) := by decide +kernel
theorem dX8_leftBefore_85 : decode cX8_leftBefore 85 = .ok (.invokestatic 71, 3) := by decide +kernel
theorem dX8_leftBefore_88 : decode cX8_leftBefore 88 = .ok (.lload_n 3, 1) := by decide +kernel
theorem dX8_leftBefore_89 : decode cX8_leftBefore 89 = .ok (.invokestatic 56, 3) := by decide +kernel
theorem dX8_leftBefore_92 : decode cX8_leftBefore 92 = .ok (.lsub, 1) := by decide +kernel
theorem dX8_leftBefore_93 : decode cX8_leftBefore 93 = .ok (.lstore_n 3, 1) := by decide +kernel
theorem dX8_leftBefore_94 : decode cX8_leftBefore 94 = .ok (.iinc 5 1, 3) := by decide +kernel
theorem dX8_leftBefore_97 : decode cX8_leftBefore 97 = .ok (.goto (-52), 3) := by decide +kernel
theorem dX8_leftBefore_100 : decode cX8_leftBefore 100 = .ok (.lload_n 3, 1) := by decide +kernel
theorem dX8_leftBefore_101 : decode cX8_leftBefore 101 = .ok (.lreturn, 1) := by decide +kernel
set_option maxRecDepth 20000 in
theorem ggX8_heldBetweenPasses_X8_heldWithGifts : GoodIn wsX8_heldBetweenPasses wsX8_heldWithGifts := goodIn_r _ [8, 9, 10, 11, 1, 2, 3, 4, 12, 13, 14, 15, 16, 17, 18, 19, 20, 21, 22, 23, 24, 25, 26, 27, 28, 29, 30, 31, 32, 33, 34, 5, 6, 7, 35, 36, 37, 38, 39, 40, 41, 42, 43, 44, 45, 46, 47, 48, 49, 50, 51, 52, 53, 54, 55, 56, 57, 58, 59, 60] (by decide +kernel) (by decide +kernel)
set_option maxRecDepth 20000 in
theorem gX8_heldBetweenPasses_X8_heldWithGifts : GoodIn wsX8_heldBetweenPasses (va_wsS RX8 78 yX8_heldWithGifts wsX8_heldWithGifts) := goodIn_app (goodIn_of _ (by decide +kernel)) ggX8_heldBetweenPasses_X8_heldWithGifts
set_option maxRecDepth 20000 in
theorem ggX8_heldBetweenPasses_X0_surplusOf : GoodIn wsX8_heldBetweenPasses wsX0_surplusOf := goodIn_r _ [39, 40, 41, 42, 2, 3, 4, 43, 44, 45, 46, 47, 48, 49, 50, 51, 52, 53, 54, 55, 56, 57] (by decide +kernel) (by decide +kernel)
set_option maxRecDepth 20000 in
theorem gX8_heldBetweenPasses_X0_surplusOf : GoodIn wsX8_heldBetweenPasses (wsV RX8 42 RX0 yX0_surplusOf wsX0_surplusOf) := goodIn_app (goodIn_of _ (by decide +kernel)) ggX8_heldBetweenPasses_X0_surplusOf
theorem dX8_heldBetweenPasses_0 : decode cX8_heldBetweenPasses 0 = .ok (.aload_n 0, 1) := by decide +kernel
theorem dX8_heldBetweenPasses_1 : decode cX8_heldBetweenPasses 1 = .ok (.iconst 0, 1) := by decide +kernel
theorem dX8_heldBetweenPasses_2 : decode cX8_heldBetweenPasses 2 = .ok (.invokestatic 78, 3) := by decide +kernel
theorem dX8_heldBetweenPasses_5 : decode cX8_heldBetweenPasses 5 = .ok (.lstore_n 1, 1) := by decide +kernel
theorem dX8_heldBetweenPasses_6 : decode cX8_heldBetweenPasses 6 = .ok (.lload_n 1, 1) := by decide +kernel
theorem dX8_heldBetweenPasses_7 : decode cX8_heldBetweenPasses 7 = .ok (.aload_n 0, 1) := by decide +kernel
theorem dX8_heldBetweenPasses_8 : decode cX8_heldBetweenPasses 8 = .ok (.lload_n 1, 1) := by decide +kernel
theorem dX8_heldBetweenPasses_9 : decode cX8_heldBetweenPasses 9 = .ok (.invokevirtual 42, 3) := by decide +kernel
theorem dX8_heldBetweenPasses_12 : decode cX8_heldBetweenPasses 12 = .ok (.lconst 0, 1) := by decide +kernel
theorem dX8_heldBetweenPasses_13 : decode cX8_heldBetweenPasses 13 = .ok (.invokestatic 46, 3) := by decide +kernel
theorem dX8_heldBetweenPasses_16 : decode cX8_heldBetweenPasses 16 = .ok (.lsub, 1) := by decide +kernel
theorem dX8_heldBetweenPasses_17 : decode cX8_heldBetweenPasses 17 = .ok (.lreturn, 1) := by decide +kernel
set_option maxRecDepth 20000 in
theorem ggX8_heldWithGifts_Jx4a65c_size_8abf5 : GoodIn wsX8_heldWithGifts wsJx4a65c_size_8abf5 := goodIn_r _ [12, 13, 57, 58, 59] (by decide +kernel) (by decide +kernel)
set_option maxRecDepth 20000 in
theorem gX8_heldWithGifts_Jx4a65c_size_8abf5 : GoodIn wsX8_heldWithGifts (wsV RX8 19 RJx4a65c yJx4a65c_size_8abf5 wsJx4a65c_size_8abf5) := goodIn_app (goodIn_of _ (by decide +kernel)) ggX8_heldWithGifts_Jx4a65c_size_8abf5
set_option maxRecDepth 20000 in
theorem ggX8_heldWithGifts_Jx4a65c_get_915e3 : GoodIn wsX8_heldWithGifts wsJx4a65c_get_915e3 := goodIn_r _ [17, 13, 18, 19, 20, 21, 22, 23, 24, 25, 26, 27, 28, 11, 29, 30, 57, 58, 59] (by decide +kernel) (by decide +kernel)
set_option maxRecDepth 20000 in
theorem gX8_heldWithGifts_Jx4a65c_get_915e3 : GoodIn wsX8_heldWithGifts (wsV RX8 25 RJx4a65c yJx4a65c_get_915e3 wsJx4a65c_get_915e3) := goodIn_app (goodIn_of _ (by decide +kernel)) ggX8_heldWithGifts_Jx4a65c_get_915e3
set_option maxRecDepth 20000 in
theorem ggX8_heldWithGifts_X8_heldWithGifts : GoodIn wsX8_heldWithGifts wsX8_heldWithGifts := goodIn_r _ [0, 1, 2, 3, 4, 5, 6, 7, 8, 9, 10, 11, 12, 13, 14, 15, 16, 17, 18, 19, 20, 21, 22, 23, 24, 25, 26, 27, 28, 29, 30, 31, 32, 33, 34, 35, 36, 37, 38, 39, 40, 41, 42, 43, 44, 45, 46, 47, 48, 49, 50, 51, 52, 53, 54, 55, 56, 57, 58, 59] (by decide +kernel) (by decide +kernel)
set_option maxRecDepth 20000 in
theorem gX8_heldWithGifts_X8_heldWithGifts : GoodIn wsX8_heldWithGifts (va_wsS RX8 78 yX8_heldWithGifts wsX8_heldWithGifts) := goodIn_app (goodIn_of _ (by decide +kernel)) ggX8_heldWithGifts_X8_heldWithGifts
set_option maxRecDepth 20000 in
theorem ggX8_heldWithGifts_X0_surplusOf : GoodIn wsX8_heldWithGifts wsX0_surplusOf := goodIn_r _ [38, 39, 40, 41, 5, 6, 7, 42, 43, 44, 45, 46, 47, 48, 49, 50, 51, 52, 53, 54, 55, 56] (by decide +kernel) (by decide +kernel)
set_option maxRecDepth 20000 in
theorem gX8_heldWithGifts_X0_surplusOf : GoodIn wsX8_heldWithGifts (wsV RX8 42 RX0 yX0_surplusOf wsX0_surplusOf) := goodIn_app (goodIn_of _ (by decide +kernel)) ggX8_heldWithGifts_X0_surplusOf
theorem dX8_heldWithGifts_0 : decode cX8_heldWithGifts 0 = .ok (.iload_n 1, 1) := by decide +kernel
theorem dX8_heldWithGifts_1 : decode cX8_heldWithGifts 1 = .ok (.bipush 10, 2) := by decide +kernel
theorem dX8_heldWithGifts_3 : decode cX8_heldWithGifts 3 = .ok (.if_icmp .le 5, 3) := by decide +kernel
theorem dX8_heldWithGifts_6 : decode cX8_heldWithGifts 6 = .ok (.lconst 0, 1) := by decide +kernel
theorem dX8_heldWithGifts_7 : decode cX8_heldWithGifts 7 = .ok (.lreturn, 1) := by decide +kernel
theorem dX8_heldWithGifts_8 : decode cX8_heldWithGifts 8 = .ok (.aload_n 0, 1) := by decide +kernel
theorem dX8_heldWithGifts_9 : decode cX8_heldWithGifts 9 = .ok (.getfield 9, 3) := by decide +kernel
theorem dX8_heldWithGifts_12 : decode cX8_heldWithGifts 12 = .ok (.lstore_n 2, 1) := by decide +kernel
theorem dX8_heldWithGifts_13 : decode cX8_heldWithGifts 13 = .ok (.iconst 0, 1) := by decide +kernel
theorem dX8_heldWithGifts_14 : decode cX8_heldWithGifts 14 = .ok (.istore 4, 2) := by decide +kernel
theorem dX8_heldWithGifts_16 : decode cX8_heldWithGifts 16 = .ok (.iload 4, 2) := by decide +kernel
theorem dX8_heldWithGifts_18 : decode cX8_heldWithGifts 18 = .ok (.aload_n 0, 1) := by decide +kernel
theorem dX8_heldWithGifts_19 : decode cX8_heldWithGifts 19 = .ok (.getfield 15, 3) := by decide +kernel
theorem dX8_heldWithGifts_22 : decode cX8_heldWithGifts 22 = .ok (.invokevirtual 19, 3) := by decide +kernel
theorem dX8_heldWithGifts_25 : decode cX8_heldWithGifts 25 = .ok (.if_icmp .ge 43, 3) := by decide +kernel
theorem dX8_heldWithGifts_28 : decode cX8_heldWithGifts 28 = .ok (.aload_n 0, 1) := by decide +kernel
theorem dX8_heldWithGifts_29 : decode cX8_heldWithGifts 29 = .ok (.getfield 15, 3) := by decide +kernel
theorem dX8_heldWithGifts_32 : decode cX8_heldWithGifts 32 = .ok (.iload 4, 2) := by decide +kernel
theorem dX8_heldWithGifts_34 : decode cX8_heldWithGifts 34 = .ok (.invokevirtual 25, 3) := by decide +kernel
theorem dX8_heldWithGifts_37 : decode cX8_heldWithGifts 37 = .ok (.checkcast 10, 3) := by decide +kernel
theorem dX8_heldWithGifts_40 : decode cX8_heldWithGifts 40 = .ok (.astore 5, 2) := by decide +kernel
theorem dX8_heldWithGifts_42 : decode cX8_heldWithGifts 42 = .ok (.lload_n 2, 1) := by decide +kernel
theorem dX8_heldWithGifts_43 : decode cX8_heldWithGifts 43 = .ok (.aload 5, 2) := by decide +kernel
theorem dX8_heldWithGifts_45 : decode cX8_heldWithGifts 45 = .ok (.aload 5, 2) := by decide +kernel
theorem dX8_heldWithGifts_47 : decode cX8_heldWithGifts 47 = .ok (.iload_n 1, 1) := by decide +kernel
theorem dX8_heldWithGifts_48 : decode cX8_heldWithGifts 48 = .ok (.iconst 1, 1) := by decide +kernel
theorem dX8_heldWithGifts_49 : decode cX8_heldWithGifts 49 = .ok (.iadd, 1) := by decide +kernel
theorem dX8_heldWithGifts_50 : decode cX8_heldWithGifts 50 = .ok (.invokestatic 78, 3) := by decide +kernel
theorem dX8_heldWithGifts_53 : decode cX8_heldWithGifts 53 = .ok (.invokevirtual 42, 3) := by decide +kernel
theorem dX8_heldWithGifts_56 : decode cX8_heldWithGifts 56 = .ok (.lconst 0, 1) := by decide +kernel
theorem dX8_heldWithGifts_57 : decode cX8_heldWithGifts 57 = .ok (.invokestatic 46, 3) := by decide +kernel
theorem dX8_heldWithGifts_60 : decode cX8_heldWithGifts 60 = .ok (.ladd, 1) := by decide +kernel
theorem dX8_heldWithGifts_61 : decode cX8_heldWithGifts 61 = .ok (.lstore_n 2, 1) := by decide +kernel
theorem dX8_heldWithGifts_62 : decode cX8_heldWithGifts 62 = .ok (.iinc 4 1, 3) := by decide +kernel
theorem dX8_heldWithGifts_65 : decode cX8_heldWithGifts 65 = .ok (.goto (-49), 3) := by decide +kernel
theorem dX8_heldWithGifts_68 : decode cX8_heldWithGifts 68 = .ok (.lload_n 2, 1) := by decide +kernel
theorem dX8_heldWithGifts_69 : decode cX8_heldWithGifts 69 = .ok (.lreturn, 1) := by decide +kernel
set_option maxRecDepth 20000 in
theorem ggX9_init_X3_init : GoodIn wsX9_init wsX3_init := goodIn_r _ [10, 11, 2, 3, 12, 13, 14, 15, 16, 17, 18, 19, 20, 21, 22, 23, 24, 25, 26, 27, 28, 29, 30, 31, 32, 33, 34, 35, 36, 37, 38, 39, 40, 41, 42, 43, 44, 45, 46, 47, 48, 49, 50, 51, 52, 53, 54, 55, 56, 57, 58, 59, 60, 61, 62, 63, 64, 65, 66, 67, 68, 69, 70, 71, 72, 73, 74, 75, 76, 77, 78, 79, 80, 81, 82, 83, 84, 85, 86, 87, 88, 89, 90, 91, 92, 93, 94, 95, 96, 97, 98, 99, 100, 101, 102, 103, 104, 105, 115, 116, 117, 106, 107, 108, 109, 110, 111, 112, 113, 118, 119, 120, 121] (by decide +kernel) (by decide +kernel)
set_option maxRecDepth 20000 in
theorem gX9_init_X3_init : GoodIn wsX9_init (wsX3_init) := ggX9_init_X3_init
theorem dX9_init_0 : decode cX9_init 0 = .ok (.aload_n 0, 1) := by decide +kernel
theorem dX9_init_1 : decode cX9_init 1 = .ok (.invokespecial 1, 3) := by decide +kernel
theorem dX9_init_4 : decode cX9_init 4 = .ok (.aload_n 0, 1) := by decide +kernel
theorem dX9_init_5 : decode cX9_init 5 = .ok (.new 7, 3) := by decide +kernel
theorem dX9_init_8 : decode cX9_init 8 = .ok (.dup, 1) := by decide +kernel
theorem dX9_init_9 : decode cX9_init 9 = .ok (.invokespecial 9, 3) := by decide +kernel
theorem dX9_init_12 : decode cX9_init 12 = .ok (.putfield 10, 3) := by decide +kernel
theorem dX9_init_15 : decode cX9_init 15 = .ok (.return_, 1) := by decide +kernel
set_option maxRecDepth 20000 in
theorem ggX9_addPool_X9_bankAt : GoodIn wsX9_addPool wsX9_bankAt := goodIn_ca (goodIn_r _ [6, 7, 8, 1, 9, 10, 11, 12, 13, 14, 15, 16, 17, 18, 19, 20, 21, 22, 23, 24, 25, 26, 27, 28, 29, 30, 31, 32, 33, 168, 169, 170, 171, 172, 173, 174, 175, 176, 177, 178, 179] (by decide +kernel) (by decide +kernel)) (goodIn_sub (fun _ h => List.mem_cons_of_mem _ (List.mem_append_left _ (List.mem_append_right _ h))) (by decide +kernel))
set_option maxRecDepth 20000 in
theorem gX9_addPool_X9_bankAt : GoodIn wsX9_addPool (wsV RX9 16 RX9 yX9_bankAt wsX9_bankAt) := goodIn_app (goodIn_of _ (by decide +kernel)) ggX9_addPool_X9_bankAt
set_option maxRecDepth 20000 in
theorem ggX9_addPool_X9_requireWithin : GoodIn wsX9_addPool wsX9_requireWithin := goodIn_ca (goodIn_r _ [36, 7, 8] (by decide +kernel) (by decide +kernel)) (goodIn_sub (fun _ h => List.mem_cons_of_mem _ (List.mem_append_left _ (List.mem_append_right _ h))) (by decide +kernel))
set_option maxRecDepth 20000 in
theorem gX9_addPool_X9_requireWithin : GoodIn wsX9_addPool (va_wsS RX9 20 yX9_requireWithin wsX9_requireWithin) := goodIn_app (goodIn_of _ (by decide +kernel)) ggX9_addPool_X9_requireWithin
set_option maxRecDepth 20000 in
theorem ggX9_addPool_X9_requireAccountLeft : GoodIn wsX9_addPool wsX9_requireAccountLeft := goodIn_ca (goodIn_r _ [40, 41, 42, 1, 43, 11, 12, 13, 14, 15, 16, 168, 169, 170, 171, 172, 173, 174, 175, 176, 177, 178, 179] (by decide +kernel) (by decide +kernel)) (goodIn_sub (fun _ h => List.mem_cons_of_mem _ (List.mem_append_right _ h)) (by decide +kernel))
set_option maxRecDepth 20000 in
theorem gX9_addPool_X9_requireAccountLeft : GoodIn wsX9_addPool (wsV RX9 24 RX9 yX9_requireAccountLeft wsX9_requireAccountLeft) := goodIn_app (goodIn_of _ (by decide +kernel)) ggX9_addPool_X9_requireAccountLeft
set_option maxRecDepth 20000 in
theorem ggX9_addPool_X3_openPool : GoodIn wsX9_addPool wsX3_openPool := goodIn_r _ [48, 49, 50, 51, 52, 53, 54, 55, 56, 57, 12, 13, 14, 15, 16, 58, 59, 60, 61, 62, 63, 64, 65, 66, 67, 68, 69, 70, 71, 72, 73, 74, 75, 76, 77, 33, 78, 79, 80, 81, 82, 83, 84, 85, 86, 87, 88, 89, 90, 91, 92, 93, 94, 95, 96, 97, 98, 99, 100, 101, 102, 103, 104, 105, 106, 107, 108, 109, 110, 111, 112, 113, 114, 115, 116, 117, 118, 119, 120, 121, 122, 123, 124, 125, 126, 127, 128, 129, 130, 131, 132, 133, 134, 135, 136, 137, 138, 139, 140, 141, 142, 143, 144, 145, 146, 147, 148, 149, 150, 151, 152, 153, 154, 155, 156, 157, 158, 159, 160, 161, 162, 163, 164, 47, 165, 166, 167, 169, 170, 171, 172, 173, 174, 175, 176, 180, 181, 182, 183, 184, 185, 186, 187, 188, 189, 190, 191, 192, 193, 194, 195, 196, 177, 178, 179, 197, 198, 199, 200, 201, 202, 203, 204, 205, 206] (by decide +kernel) (by decide +kernel)
set_option maxRecDepth 20000 in
theorem gX9_addPool_X3_openPool : GoodIn wsX9_addPool (wsV RX9 27 RX3 yX3_openPool wsX3_openPool) := goodIn_app (goodIn_of _ (by decide +kernel)) ggX9_addPool_X3_openPool
theorem dX9_addPool_0 : decode cX9_addPool 0 = .ok (.aload_n 0, 1) := by decide +kernel
theorem dX9_addPool_1 : decode cX9_addPool 1 = .ok (.iload_n 1, 1) := by decide +kernel
theorem dX9_addPool_2 : decode cX9_addPool 2 = .ok (.invokevirtual 16, 3) := by decide +kernel
theorem dX9_addPool_5 : decode cX9_addPool 5 = .ok (.astore 4, 2) := by decide +kernel
theorem dX9_addPool_7 : decode cX9_addPool 7 = .ok (.iload_n 2, 1) := by decide +kernel
theorem dX9_addPool_8 : decode cX9_addPool 8 = .ok (.iconst 0, 1) := by decide +kernel
theorem dX9_addPool_9 : decode cX9_addPool 9 = .ok (.sipush 1000, 3) := by decide +kernel
theorem dX9_addPool_12 : decode cX9_addPool 12 = .ok (.invokestatic 20, 3) := by decide +kernel
theorem dX9_addPool_15 : decode cX9_addPool 15 = .ok (.iload_n 3, 1) := by decide +kernel
theorem dX9_addPool_16 : decode cX9_addPool 16 = .ok (.iconst 0, 1) := by decide +kernel
theorem dX9_addPool_17 : decode cX9_addPool 17 = .ok (.sipush 1000, 3) := by decide +kernel
theorem dX9_addPool_20 : decode cX9_addPool 20 = .ok (.invokestatic 20, 3) := by decide +kernel
theorem dX9_addPool_23 : decode cX9_addPool 23 = .ok (.aload_n 0, 1) := by decide +kernel
theorem dX9_addPool_24 : decode cX9_addPool 24 = .ok (.invokevirtual 24, 3) := by decide +kernel
theorem dX9_addPool_27 : decode cX9_addPool 27 = .ok (.aload_n 0, 1) := by decide +kernel
theorem dX9_addPool_28 : decode cX9_addPool 28 = .ok (.getfield 10, 3) := by decide +kernel
theorem dX9_addPool_31 : decode cX9_addPool 31 = .ok (.aload 4, 2) := by decide +kernel
theorem dX9_addPool_33 : decode cX9_addPool 33 = .ok (.iload_n 2, 1) := by decide +kernel
theorem dX9_addPool_34 : decode cX9_addPool 34 = .ok (.iload_n 3, 1) := by decide +kernel
theorem dX9_addPool_35 : decode cX9_addPool 35 = .ok (.invokevirtual 27, 3) := by decide +kernel
theorem dX9_addPool_38 : decode cX9_addPool 38 = .ok (.ireturn, 1) := by decide +kernel
set_option maxRecDepth 20000 in
theorem ggX9_addAccount_X9_accountAt : GoodIn wsX9_addAccount wsX9_accountAt := goodIn_ca (goodIn_r _ [6, 7, 8, 1, 9, 10, 11, 12, 13, 14, 15, 16, 17, 18, 19, 20, 21, 22, 23, 24, 25, 26, 27, 28, 29, 30, 31, 32, 33, 144, 145, 146, 147, 148, 149, 150, 151, 152, 153, 154, 155] (by decide +kernel) (by decide +kernel)) (goodIn_sub (fun _ h => List.mem_cons_of_mem _ (List.mem_append_left _ (List.mem_append_left _ (List.mem_append_right _ h)))) (by decide +kernel))
set_option maxRecDepth 20000 in
theorem gX9_addAccount_X9_accountAt : GoodIn wsX9_addAccount (wsV RX9 31 RX9 yX9_accountAt wsX9_accountAt) := goodIn_app (goodIn_of _ (by decide +kernel)) ggX9_addAccount_X9_accountAt
set_option maxRecDepth 20000 in
theorem ggX9_addAccount_X9_bankAt : GoodIn wsX9_addAccount wsX9_bankAt := goodIn_ca (goodIn_r _ [37, 38, 39, 1, 40, 41, 11, 12, 13, 14, 15, 16, 17, 18, 19, 20, 21, 22, 23, 24, 25, 26, 27, 28, 29, 30, 31, 32, 33, 144, 145, 146, 147, 148, 149, 150, 151, 152, 153, 154, 155] (by decide +kernel) (by decide +kernel)) (goodIn_sub (fun _ h => List.mem_cons_of_mem _ (List.mem_append_left _ (List.mem_append_right _ h))) (by decide +kernel))
set_option maxRecDepth 20000 in
theorem gX9_addAccount_X9_bankAt : GoodIn wsX9_addAccount (wsV RX9 16 RX9 yX9_bankAt wsX9_bankAt) := goodIn_app (goodIn_of _ (by decide +kernel)) ggX9_addAccount_X9_bankAt
set_option maxRecDepth 20000 in
theorem ggX9_addAccount_X9_requireAccountLeft : GoodIn wsX9_addAccount wsX9_requireAccountLeft := goodIn_ca (goodIn_r _ [45, 46, 47, 1, 9, 11, 12, 13, 14, 15, 16, 144, 145, 146, 147, 148, 149, 150, 151, 152, 153, 154, 155] (by decide +kernel) (by decide +kernel)) (goodIn_sub (fun _ h => List.mem_cons_of_mem _ (List.mem_append_right _ h)) (by decide +kernel))
set_option maxRecDepth 20000 in
theorem gX9_addAccount_X9_requireAccountLeft : GoodIn wsX9_addAccount (wsV RX9 24 RX9 yX9_requireAccountLeft wsX9_requireAccountLeft) := goodIn_app (goodIn_of _ (by decide +kernel)) ggX9_addAccount_X9_requireAccountLeft
set_option maxRecDepth 20000 in
theorem ggX9_addAccount_X3_openAccount : GoodIn wsX9_addAccount wsX3_openAccount := goodIn_r _ [52, 53, 54, 55, 56, 57, 58, 59, 12, 13, 14, 15, 16, 60, 61, 62, 63, 64, 65, 66, 67, 68, 69, 70, 71, 72, 73, 74, 75, 76, 33, 77, 78, 79, 80, 81, 82, 83, 84, 85, 86, 87, 88, 89, 90, 91, 92, 93, 94, 95, 96, 97, 98, 99, 100, 101, 102, 103, 104, 105, 106, 107, 108, 109, 110, 111, 112, 113, 114, 115, 116, 117, 118, 119, 120, 121, 122, 123, 124, 125, 126, 127, 128, 129, 130, 131, 132, 133, 134, 135, 136, 137, 138, 139, 140, 141, 51, 142, 143, 145, 146, 147, 148, 149, 150, 151, 152, 156, 157, 158, 159, 160, 161, 162, 163, 164, 165, 166, 167, 153, 154, 155, 168, 169, 170, 171, 172] (by decide +kernel) (by decide +kernel)
set_option maxRecDepth 20000 in
theorem gX9_addAccount_X3_openAccount : GoodIn wsX9_addAccount (wsV RX9 35 RX3 yX3_openAccount wsX3_openAccount) := goodIn_app (goodIn_of _ (by decide +kernel)) ggX9_addAccount_X3_openAccount
theorem dX9_addAccount_0 : decode cX9_addAccount 0 = .ok (.aload_n 0, 1) := by decide +kernel
theorem dX9_addAccount_1 : decode cX9_addAccount 1 = .ok (.iload_n 1, 1) := by decide +kernel
theorem dX9_addAccount_2 : decode cX9_addAccount 2 = .ok (.invokevirtual 31, 3) := by decide +kernel
theorem dX9_addAccount_5 : decode cX9_addAccount 5 = .ok (.astore_n 3, 1) := by decide +kernel
theorem dX9_addAccount_6 : decode cX9_addAccount 6 = .ok (.aload_n 0, 1) := by decide +kernel
theorem dX9_addAccount_7 : decode cX9_addAccount 7 = .ok (.iload_n 2, 1) := by decide +kernel
theorem dX9_addAccount_8 : decode cX9_addAccount 8 = .ok (.invokevirtual 16, 3) := by decide +kernel
theorem dX9_addAccount_11 : decode cX9_addAccount 11 = .ok (.astore 4, 2) := by decide +kernel
theorem dX9_addAccount_13 : decode cX9_addAccount 13 = .ok (.aload_n 0, 1) := by decide +kernel
theorem dX9_addAccount_14 : decode cX9_addAccount 14 = .ok (.invokevirtual 24, 3) := by decide +kernel
theorem dX9_addAccount_17 : decode cX9_addAccount 17 = .ok (.aload_n 0, 1) := by decide +kernel
theorem dX9_addAccount_18 : decode cX9_addAccount 18 = .ok (.getfield 10, 3) := by decide +kernel
theorem dX9_addAccount_21 : decode cX9_addAccount 21 = .ok (.aload_n 3, 1) := by decide +kernel
theorem dX9_addAccount_22 : decode cX9_addAccount 22 = .ok (.aload 4, 2) := by decide +kernel
theorem dX9_addAccount_24 : decode cX9_addAccount 24 = .ok (.invokevirtual 35, 3) := by decide +kernel
theorem dX9_addAccount_27 : decode cX9_addAccount 27 = .ok (.ireturn, 1) := by decide +kernel
set_option maxRecDepth 20000 in
theorem ggX9_setRule_X9_accountAt : GoodIn wsX9_setRule wsX9_accountAt := goodIn_ca (goodIn_r _ [12, 13, 14, 15, 16, 17, 18, 19, 20, 21, 22, 23, 24, 25, 26, 27, 28, 29, 30, 31, 32, 33, 34, 35, 36, 37, 38, 39, 40, 58, 59, 60, 61, 62, 63, 64, 65, 66, 67, 68, 69] (by decide +kernel) (by decide +kernel)) (goodIn_sub (fun _ h => List.mem_cons_of_mem _ (List.mem_append_left _ (List.mem_append_right _ h))) (by decide +kernel))
set_option maxRecDepth 20000 in
theorem gX9_setRule_X9_accountAt : GoodIn wsX9_setRule (wsV RX9 31 RX9 yX9_accountAt wsX9_accountAt) := goodIn_app (goodIn_of _ (by decide +kernel)) ggX9_setRule_X9_accountAt
set_option maxRecDepth 20000 in
theorem ggX9_setRule_X9_requireWithin : GoodIn wsX9_setRule wsX9_requireWithin := goodIn_ca (goodIn_r _ [43, 44, 45] (by decide +kernel) (by decide +kernel)) (goodIn_sub (fun _ h => List.mem_cons_of_mem _ (List.mem_append_right _ h)) (by decide +kernel))
set_option maxRecDepth 20000 in
theorem gX9_setRule_X9_requireWithin : GoodIn wsX9_setRule (va_wsS RX9 20 yX9_requireWithin wsX9_requireWithin) := goodIn_app (goodIn_of _ (by decide +kernel)) ggX9_setRule_X9_requireWithin
theorem dX9_setRule_0 : decode cX9_setRule 0 = .ok (.aload_n 0, 1) := by decide +kernel
theorem dX9_setRule_1 : decode cX9_setRule 1 = .ok (.iload_n 1, 1) := by decide +kernel
theorem dX9_setRule_2 : decode cX9_setRule 2 = .ok (.invokevirtual 31, 3) := by decide +kernel
theorem dX9_setRule_5 : decode cX9_setRule 5 = .ok (.astore 4, 2) := by decide +kernel
theorem dX9_setRule_7 : decode cX9_setRule 7 = .ok (.iload_n 2, 1) := by decide +kernel
theorem dX9_setRule_8 : decode cX9_setRule 8 = .ok (.iconst 0, 1) := by decide +kernel
theorem dX9_setRule_9 : decode cX9_setRule 9 = .ok (.iconst 3, 1) := by decide +kernel
theorem dX9_setRule_10 : decode cX9_setRule 10 = .ok (.invokestatic 20, 3) := by decide +kernel
theorem dX9_setRule_13 : decode cX9_setRule 13 = .ok (.iload_n 3, 1) := by decide +kernel
theorem dX9_setRule_14 : decode cX9_setRule 14 = .ok (.ldc 39, 2) := by decide +kernel
theorem dX9_setRule_16 : decode cX9_setRule 16 = .ok (.ldc 40, 2) := by decide +kernel
theorem dX9_setRule_18 : decode cX9_setRule 18 = .ok (.invokestatic 20, 3) := by decide +kernel
theorem dX9_setRule_21 : decode cX9_setRule 21 = .ok (.aload 4, 2) := by decide +kernel
theorem dX9_setRule_23 : decode cX9_setRule 23 = .ok (.getfield 41, 3) := by decide +kernel
theorem dX9_setRule_26 : decode cX9_setRule 26 = .ok (.ifnonnull 13, 3) := by decide +kernel
theorem dX9_setRule_29 : decode cX9_setRule 29 = .ok (.new 47, 3) := by decide +kernel
theorem dX9_setRule_32 : decode cX9_setRule 32 = .ok (.dup, 1) := by decide +kernel
theorem dX9_setRule_33 : decode cX9_setRule 33 = .ok (.ldc 49, 2) := by decide +kernel
theorem dX9_setRule_35 : decode cX9_setRule 35 = .ok (.invokespecial 51, 3) := by decide +kernel
theorem dX9_setRule_38 : decode cX9_setRule 38 = .ok (.athrow, 1) := by decide +kernel
theorem dX9_setRule_39 : decode cX9_setRule 39 = .ok (.aload 4, 2) := by decide +kernel
theorem dX9_setRule_41 : decode cX9_setRule 41 = .ok (.getfield 54, 3) := by decide +kernel
theorem dX9_setRule_44 : decode cX9_setRule 44 = .ok (.istore 5, 2) := by decide +kernel
theorem dX9_setRule_46 : decode cX9_setRule 46 = .ok (.aload 4, 2) := by decide +kernel
theorem dX9_setRule_48 : decode cX9_setRule 48 = .ok (.iload_n 2, 1) := by decide +kernel
theorem dX9_setRule_49 : decode cX9_setRule 49 = .ok (.putfield 54, 3) := by decide +kernel
theorem dX9_setRule_52 : decode cX9_setRule 52 = .ok (.aload 4, 2) := by decide +kernel
theorem dX9_setRule_54 : decode cX9_setRule 54 = .ok (.iload_n 3, 1) := by decide +kernel
theorem dX9_setRule_55 : decode cX9_setRule 55 = .ok (.putfield 58, 3) := by decide +kernel
theorem dX9_setRule_58 : decode cX9_setRule 58 = .ok (.iload 5, 2) := by decide +kernel
theorem dX9_setRule_60 : decode cX9_setRule 60 = .ok (.ireturn, 1) := by decide +kernel
set_option maxRecDepth 20000 in
theorem ggX9_setFloor_X9_accountAt : GoodIn wsX9_setFloor wsX9_accountAt := goodIn_ca (goodIn_r _ [8, 9, 10, 11, 12, 13, 14, 15, 16, 17, 18, 19, 20, 21, 22, 23, 24, 25, 26, 27, 28, 29, 30, 31, 32, 33, 34, 35, 36, 54, 55, 56, 57, 58, 59, 60, 61, 62, 63, 64, 65] (by decide +kernel) (by decide +kernel)) (goodIn_sub (fun _ h => List.mem_cons_of_mem _ (List.mem_append_left _ (List.mem_append_right _ h))) (by decide +kernel))
set_option maxRecDepth 20000 in
theorem gX9_setFloor_X9_accountAt : GoodIn wsX9_setFloor (wsV RX9 31 RX9 yX9_accountAt wsX9_accountAt) := goodIn_app (goodIn_of _ (by decide +kernel)) ggX9_setFloor_X9_accountAt
set_option maxRecDepth 20000 in
theorem ggX9_setFloor_X9_requireWithin : GoodIn wsX9_setFloor wsX9_requireWithin := goodIn_ca (goodIn_r _ [39, 40, 41] (by decide +kernel) (by decide +kernel)) (goodIn_sub (fun _ h => List.mem_cons_of_mem _ (List.mem_append_right _ h)) (by decide +kernel))
set_option maxRecDepth 20000 in
theorem gX9_setFloor_X9_requireWithin : GoodIn wsX9_setFloor (va_wsS RX9 20 yX9_requireWithin wsX9_requireWithin) := goodIn_app (goodIn_of _ (by decide +kernel)) ggX9_setFloor_X9_requireWithin
theorem dX9_setFloor_0 : decode cX9_setFloor 0 = .ok (.aload_n 0, 1) := by decide +kernel
theorem dX9_setFloor_1 : decode cX9_setFloor 1 = .ok (.iload_n 1, 1) := by decide +kernel
theorem dX9_setFloor_2 : decode cX9_setFloor 2 = .ok (.invokevirtual 31, 3) := by decide +kernel
theorem dX9_setFloor_5 : decode cX9_setFloor 5 = .ok (.astore_n 3, 1) := by decide +kernel
theorem dX9_setFloor_6 : decode cX9_setFloor 6 = .ok (.iload_n 2, 1) := by decide +kernel
theorem dX9_setFloor_7 : decode cX9_setFloor 7 = .ok (.ldc 39, 2) := by decide +kernel
theorem dX9_setFloor_9 : decode cX9_setFloor 9 = .ok (.ldc 40, 2) := by decide +kernel
theorem dX9_setFloor_11 : decode cX9_setFloor 11 = .ok (.invokestatic 20, 3) := by decide +kernel
theorem dX9_setFloor_14 : decode cX9_setFloor 14 = .ok (.aload_n 3, 1) := by decide +kernel
theorem dX9_setFloor_15 : decode cX9_setFloor 15 = .ok (.getfield 61, 3) := by decide +kernel
theorem dX9_setFloor_18 : decode cX9_setFloor 18 = .ok (.istore 4, 2) := by decide +kernel
theorem dX9_setFloor_20 : decode cX9_setFloor 20 = .ok (.aload_n 3, 1) := by decide +kernel
theorem dX9_setFloor_21 : decode cX9_setFloor 21 = .ok (.iload_n 2, 1) := by decide +kernel
theorem dX9_setFloor_22 : decode cX9_setFloor 22 = .ok (.putfield 61, 3) := by decide +kernel
theorem dX9_setFloor_25 : decode cX9_setFloor 25 = .ok (.iload 4, 2) := by decide +kernel
theorem dX9_setFloor_27 : decode cX9_setFloor 27 = .ok (.ireturn, 1) := by decide +kernel
set_option maxRecDepth 20000 in
theorem ggX9_addLine_X9_accountAt : GoodIn wsX9_addLine wsX9_accountAt := goodIn_ca (goodIn_r _ [10, 11, 12, 4, 13, 14, 15, 16, 17, 18, 19, 20, 21, 22, 23, 24, 25, 26, 27, 28, 29, 30, 31, 32, 33, 34, 35, 36, 37, 139, 140, 141, 142, 143, 144, 145, 146, 147, 148, 149, 150] (by decide +kernel) (by decide +kernel)) (goodIn_sub (fun _ h => List.mem_cons_of_mem _ (List.mem_append_left _ (List.mem_append_right _ h))) (by decide +kernel))
set_option maxRecDepth 20000 in
theorem gX9_addLine_X9_accountAt : GoodIn wsX9_addLine (wsV RX9 31 RX9 yX9_accountAt wsX9_accountAt) := goodIn_app (goodIn_of _ (by decide +kernel)) ggX9_addLine_X9_accountAt
set_option maxRecDepth 20000 in
theorem ggX9_addLine_X9_requireWithin : GoodIn wsX9_addLine wsX9_requireWithin := goodIn_ca (goodIn_r _ [40, 41, 42] (by decide +kernel) (by decide +kernel)) (goodIn_sub (fun _ h => List.mem_cons_of_mem _ (List.mem_append_right _ h)) (by decide +kernel))
set_option maxRecDepth 20000 in
theorem gX9_addLine_X9_requireWithin : GoodIn wsX9_addLine (va_wsS RX9 20 yX9_requireWithin wsX9_requireWithin) := goodIn_app (goodIn_of _ (by decide +kernel)) ggX9_addLine_X9_requireWithin
set_option maxRecDepth 20000 in
theorem ggX9_addLine_X9_requireTop : GoodIn wsX9_addLine wsX9_requireTop := goodIn_ca (goodIn_r _ [45, 1, 2, 46, 151, 152, 153, 154, 155, 156, 157, 158, 159, 160, 161, 162] (by decide +kernel) (by decide +kernel)) (goodIn_sub (fun _ h => List.mem_cons_of_mem _ (List.mem_append_left _ (List.mem_append_left _ (List.mem_append_right _ h)))) (by decide +kernel))
set_option maxRecDepth 20000 in
theorem gX9_addLine_X9_requireTop : GoodIn wsX9_addLine (va_wsS RX9 65 yX9_requireTop wsX9_requireTop) := goodIn_app (goodIn_of _ (by decide +kernel)) ggX9_addLine_X9_requireTop
set_option maxRecDepth 20000 in
theorem ggX9_addLine_Jx4a65c_size_8abf5 : GoodIn wsX9_addLine wsJx4a65c_size_8abf5 := goodIn_r _ [19, 20, 148, 149, 150] (by decide +kernel) (by decide +kernel)
set_option maxRecDepth 20000 in
theorem gX9_addLine_Jx4a65c_size_8abf5 : GoodIn wsX9_addLine (wsV RX9 73 RJx4a65c yJx4a65c_size_8abf5 wsJx4a65c_size_8abf5) := goodIn_app (goodIn_of _ (by decide +kernel)) ggX9_addLine_Jx4a65c_size_8abf5
set_option maxRecDepth 20000 in
theorem ggX9_addLine_X3_openLine : GoodIn wsX9_addLine wsX3_openLine := goodIn_r _ [51, 52, 53, 54, 55, 56, 57, 58, 59, 60, 61, 62, 63, 64, 65, 66, 67, 68, 18, 69, 70, 71, 37, 20, 72, 73, 74, 75, 76, 77, 78, 79, 80, 81, 82, 83, 84, 85, 86, 87, 88, 89, 90, 91, 92, 93, 94, 95, 96, 97, 98, 99, 100, 101, 102, 103, 104, 105, 106, 107, 108, 109, 110, 111, 112, 113, 114, 115, 116, 117, 118, 119, 120, 121, 122, 123, 124, 125, 126, 127, 16, 17, 19, 128, 22, 23, 24, 25, 26, 27, 28, 29, 30, 31, 32, 33, 34, 35, 36, 129, 130, 131, 132, 133, 134, 135, 136, 137, 138, 163, 164, 165, 166, 167, 168, 169, 170, 171, 140, 141, 142, 143, 144, 145, 146, 147, 151, 152, 153, 154, 155, 156, 157, 158, 159, 160, 161, 162, 148, 149, 150, 172, 173, 174, 175, 176] (by decide +kernel) (by decide +kernel)
set_option maxRecDepth 20000 in
theorem gX9_addLine_X3_openLine : GoodIn wsX9_addLine (wsV RX9 81 RX3 yX3_openLine wsX3_openLine) := goodIn_app (goodIn_of _ (by decide +kernel)) ggX9_addLine_X3_openLine
theorem dX9_addLine_0 : decode cX9_addLine 0 = .ok (.aload_n 0, 1) := by decide +kernel
theorem dX9_addLine_1 : decode cX9_addLine 1 = .ok (.iload_n 1, 1) := by decide +kernel
theorem dX9_addLine_2 : decode cX9_addLine 2 = .ok (.invokevirtual 31, 3) := by decide +kernel
theorem dX9_addLine_5 : decode cX9_addLine 5 = .ok (.astore 4, 2) := by decide +kernel
theorem dX9_addLine_7 : decode cX9_addLine 7 = .ok (.iload_n 2, 1) := by decide +kernel
theorem dX9_addLine_8 : decode cX9_addLine 8 = .ok (.iconst 1, 1) := by decide +kernel
theorem dX9_addLine_9 : decode cX9_addLine 9 = .ok (.ldc 64, 2) := by decide +kernel
theorem dX9_addLine_11 : decode cX9_addLine 11 = .ok (.invokestatic 20, 3) := by decide +kernel
theorem dX9_addLine_14 : decode cX9_addLine 14 = .ok (.iload_n 3, 1) := by decide +kernel
theorem dX9_addLine_15 : decode cX9_addLine 15 = .ok (.iconst 0, 1) := by decide +kernel
theorem dX9_addLine_16 : decode cX9_addLine 16 = .ok (.sipush 1000, 3) := by decide +kernel
theorem dX9_addLine_19 : decode cX9_addLine 19 = .ok (.invokestatic 20, 3) := by decide +kernel
theorem dX9_addLine_22 : decode cX9_addLine 22 = .ok (.aload 4, 2) := by decide +kernel
theorem dX9_addLine_24 : decode cX9_addLine 24 = .ok (.invokestatic 65, 3) := by decide +kernel
theorem dX9_addLine_27 : decode cX9_addLine 27 = .ok (.aload_n 0, 1) := by decide +kernel
theorem dX9_addLine_28 : decode cX9_addLine 28 = .ok (.getfield 10, 3) := by decide +kernel
theorem dX9_addLine_31 : decode cX9_addLine 31 = .ok (.getfield 69, 3) := by decide +kernel
theorem dX9_addLine_34 : decode cX9_addLine 34 = .ok (.invokevirtual 73, 3) := by decide +kernel
theorem dX9_addLine_37 : decode cX9_addLine 37 = .ok (.bipush 6, 2) := by decide +kernel
theorem dX9_addLine_39 : decode cX9_addLine 39 = .ok (.if_icmp .lt 13, 3) := by decide +kernel
theorem dX9_addLine_42 : decode cX9_addLine 42 = .ok (.new 47, 3) := by decide +kernel
theorem dX9_addLine_45 : decode cX9_addLine 45 = .ok (.dup, 1) := by decide +kernel
theorem dX9_addLine_46 : decode cX9_addLine 46 = .ok (.ldc 79, 2) := by decide +kernel
theorem dX9_addLine_48 : decode cX9_addLine 48 = .ok (.invokespecial 51, 3) := by decide +kernel
theorem dX9_addLine_51 : decode cX9_addLine 51 = .ok (.athrow, 1) := by decide +kernel
theorem dX9_addLine_52 : decode cX9_addLine 52 = .ok (.aload_n 0, 1) := by decide +kernel
theorem dX9_addLine_53 : decode cX9_addLine 53 = .ok (.getfield 10, 3) := by decide +kernel
theorem dX9_addLine_56 : decode cX9_addLine 56 = .ok (.aload 4, 2) := by decide +kernel
theorem dX9_addLine_58 : decode cX9_addLine 58 = .ok (.iload_n 2, 1) := by decide +kernel
theorem dX9_addLine_59 : decode cX9_addLine 59 = .ok (.iload_n 3, 1) := by decide +kernel
theorem dX9_addLine_60 : decode cX9_addLine 60 = .ok (.invokevirtual 81, 3) := by decide +kernel
theorem dX9_addLine_63 : decode cX9_addLine 63 = .ok (.ireturn, 1) := by decide +kernel
set_option maxRecDepth 20000 in
theorem ggX9_setBankLimit_X9_bankAt : GoodIn wsX9_setBankLimit wsX9_bankAt := goodIn_ca (goodIn_r _ [7, 8, 9, 10, 11, 12, 13, 14, 15, 16, 17, 18, 19, 20, 21, 22, 23, 24, 25, 26, 27, 28, 29, 30, 31, 32, 33, 34, 35, 42, 43, 44, 45, 46, 47, 48, 49, 50, 51, 52, 53] (by decide +kernel) (by decide +kernel)) (goodIn_sub (fun _ h => List.mem_cons_of_mem _ (List.mem_append_right _ h)) (by decide +kernel))
set_option maxRecDepth 20000 in
theorem gX9_setBankLimit_X9_bankAt : GoodIn wsX9_setBankLimit (wsV RX9 16 RX9 yX9_bankAt wsX9_bankAt) := goodIn_app (goodIn_of _ (by decide +kernel)) ggX9_setBankLimit_X9_bankAt
set_option maxRecDepth 20000 in
theorem ggX9_setBankLimit_X9_requireWithin : GoodIn wsX9_setBankLimit wsX9_requireWithin := goodIn_ca (goodIn_r _ [38, 8, 9] (by decide +kernel) (by decide +kernel)) (goodIn_sub (fun _ h => List.mem_cons_of_mem _ (List.mem_append_right _ h)) (by decide +kernel))
set_option maxRecDepth 20000 in
theorem gX9_setBankLimit_X9_requireWithin : GoodIn wsX9_setBankLimit (va_wsS RX9 20 yX9_requireWithin wsX9_requireWithin) := goodIn_app (goodIn_of _ (by decide +kernel)) ggX9_setBankLimit_X9_requireWithin
theorem dX9_setBankLimit_0 : decode cX9_setBankLimit 0 = .ok (.aload_n 0, 1) := by decide +kernel
theorem dX9_setBankLimit_1 : decode cX9_setBankLimit 1 = .ok (.iload_n 1, 1) := by decide +kernel
theorem dX9_setBankLimit_2 : decode cX9_setBankLimit 2 = .ok (.invokevirtual 16, 3) := by decide +kernel
theorem dX9_setBankLimit_5 : decode cX9_setBankLimit 5 = .ok (.astore_n 3, 1) := by decide +kernel
theorem dX9_setBankLimit_6 : decode cX9_setBankLimit 6 = .ok (.iload_n 2, 1) := by decide +kernel
theorem dX9_setBankLimit_7 : decode cX9_setBankLimit 7 = .ok (.iconst (-1), 1) := by decide +kernel
theorem dX9_setBankLimit_8 : decode cX9_setBankLimit 8 = .ok (.ldc 85, 2) := by decide +kernel
theorem dX9_setBankLimit_10 : decode cX9_setBankLimit 10 = .ok (.invokestatic 20, 3) := by decide +kernel
theorem dX9_setBankLimit_13 : decode cX9_setBankLimit 13 = .ok (.aload_n 3, 1) := by decide +kernel
theorem dX9_setBankLimit_14 : decode cX9_setBankLimit 14 = .ok (.getfield 86, 3) := by decide +kernel
theorem dX9_setBankLimit_17 : decode cX9_setBankLimit 17 = .ok (.istore 4, 2) := by decide +kernel
theorem dX9_setBankLimit_19 : decode cX9_setBankLimit 19 = .ok (.aload_n 3, 1) := by decide +kernel
theorem dX9_setBankLimit_20 : decode cX9_setBankLimit 20 = .ok (.iload_n 2, 1) := by decide +kernel
theorem dX9_setBankLimit_21 : decode cX9_setBankLimit 21 = .ok (.putfield 86, 3) := by decide +kernel
theorem dX9_setBankLimit_24 : decode cX9_setBankLimit 24 = .ok (.iload 4, 2) := by decide +kernel
theorem dX9_setBankLimit_26 : decode cX9_setBankLimit 26 = .ok (.ireturn, 1) := by decide +kernel
theorem dX9_today_0 : decode cX9_today 0 = .ok (.aload_n 0, 1) := by decide +kernel
theorem dX9_today_1 : decode cX9_today 1 = .ok (.getfield 10, 3) := by decide +kernel
theorem dX9_today_4 : decode cX9_today 4 = .ok (.getfield 91, 3) := by decide +kernel
theorem dX9_today_7 : decode cX9_today 7 = .ok (.ireturn, 1) := by decide +kernel
set_option maxRecDepth 20000 in
theorem ggX9_addHoliday_X9_requireWithin : GoodIn wsX9_addHoliday wsX9_requireWithin := goodIn_ca (goodIn_r _ [6, 7, 8] (by decide +kernel) (by decide +kernel)) (goodIn_sub (fun _ h => List.mem_cons_of_mem _ (List.mem_append_right _ h)) (by decide +kernel))
set_option maxRecDepth 20000 in
theorem gX9_addHoliday_X9_requireWithin : GoodIn wsX9_addHoliday (va_wsS RX9 20 yX9_requireWithin wsX9_requireWithin) := goodIn_app (goodIn_of _ (by decide +kernel)) ggX9_addHoliday_X9_requireWithin
set_option maxRecDepth 20000 in
theorem ggX9_addHoliday_X2_markHoliday : GoodIn wsX9_addHoliday wsX2_markHoliday := goodIn_r _ [13, 14, 32] (by decide +kernel) (by decide +kernel)
set_option maxRecDepth 20000 in
theorem gX9_addHoliday_X2_markHoliday : GoodIn wsX9_addHoliday (wsV RX9 98 RX2 yX2_markHoliday wsX2_markHoliday) := goodIn_app (goodIn_of _ (by decide +kernel)) ggX9_addHoliday_X2_markHoliday
set_option maxRecDepth 20000 in
theorem ggX9_addHoliday_X2_countSettling : GoodIn wsX9_addHoliday wsX2_countSettling := goodIn_r _ [18, 19, 20, 21, 12, 22, 14, 32] (by decide +kernel) (by decide +kernel)
set_option maxRecDepth 20000 in
theorem gX9_addHoliday_X2_countSettling : GoodIn wsX9_addHoliday (wsV RX9 104 RX2 yX2_countSettling wsX2_countSettling) := goodIn_app (goodIn_of _ (by decide +kernel)) ggX9_addHoliday_X2_countSettling
theorem dX9_addHoliday_0 : decode cX9_addHoliday 0 = .ok (.iload_n 1, 1) := by decide +kernel
theorem dX9_addHoliday_1 : decode cX9_addHoliday 1 = .ok (.iconst 0, 1) := by decide +kernel
theorem dX9_addHoliday_2 : decode cX9_addHoliday 2 = .ok (.sipush 450, 3) := by decide +kernel
theorem dX9_addHoliday_5 : decode cX9_addHoliday 5 = .ok (.invokestatic 20, 3) := by decide +kernel
theorem dX9_addHoliday_8 : decode cX9_addHoliday 8 = .ok (.aload_n 0, 1) := by decide +kernel
theorem dX9_addHoliday_9 : decode cX9_addHoliday 9 = .ok (.getfield 10, 3) := by decide +kernel
theorem dX9_addHoliday_12 : decode cX9_addHoliday 12 = .ok (.getfield 94, 3) := by decide +kernel
theorem dX9_addHoliday_15 : decode cX9_addHoliday 15 = .ok (.iload_n 1, 1) := by decide +kernel
theorem dX9_addHoliday_16 : decode cX9_addHoliday 16 = .ok (.invokevirtual 98, 3) := by decide +kernel
theorem dX9_addHoliday_19 : decode cX9_addHoliday 19 = .ok (.aload_n 0, 1) := by decide +kernel
theorem dX9_addHoliday_20 : decode cX9_addHoliday 20 = .ok (.getfield 10, 3) := by decide +kernel
theorem dX9_addHoliday_23 : decode cX9_addHoliday 23 = .ok (.getfield 94, 3) := by decide +kernel
theorem dX9_addHoliday_26 : decode cX9_addHoliday 26 = .ok (.invokevirtual 104, 3) := by decide +kernel
theorem dX9_addHoliday_29 : decode cX9_addHoliday 29 = .ok (.ireturn, 1) := by decide +kernel
set_option maxRecDepth 20000 in
theorem ggX9_settlementDay_X9_requireWithin : GoodIn wsX9_settlementDay wsX9_requireWithin := goodIn_ca (goodIn_r _ [6, 7, 8] (by decide +kernel) (by decide +kernel)) (goodIn_sub (fun _ h => List.mem_cons_of_mem _ (List.mem_append_right _ h)) (by decide +kernel))
set_option maxRecDepth 20000 in
theorem gX9_settlementDay_X9_requireWithin : GoodIn wsX9_settlementDay (va_wsS RX9 20 yX9_requireWithin wsX9_requireWithin) := goodIn_app (goodIn_of _ (by decide +kernel)) ggX9_settlementDay_X9_requireWithin
set_option maxRecDepth 20000 in
theorem ggX9_settlementDay_X2_firstSettlingFrom : GoodIn wsX9_settlementDay wsX2_firstSettlingFrom := goodIn_r _ [13, 14, 15, 16, 12, 17, 18, 28] (by decide +kernel) (by decide +kernel)
set_option maxRecDepth 20000 in
theorem gX9_settlementDay_X2_firstSettlingFrom : GoodIn wsX9_settlementDay (wsV RX9 107 RX2 yX2_firstSettlingFrom wsX2_firstSettlingFrom) := goodIn_app (goodIn_of _ (by decide +kernel)) ggX9_settlementDay_X2_firstSettlingFrom
theorem dX9_settlementDay_0 : decode cX9_settlementDay 0 = .ok (.iload_n 1, 1) := by decide +kernel
theorem dX9_settlementDay_1 : decode cX9_settlementDay 1 = .ok (.iconst 0, 1) := by decide +kernel
theorem dX9_settlementDay_2 : decode cX9_settlementDay 2 = .ok (.sipush 450, 3) := by decide +kernel
theorem dX9_settlementDay_5 : decode cX9_settlementDay 5 = .ok (.invokestatic 20, 3) := by decide +kernel
theorem dX9_settlementDay_8 : decode cX9_settlementDay 8 = .ok (.aload_n 0, 1) := by decide +kernel
theorem dX9_settlementDay_9 : decode cX9_settlementDay 9 = .ok (.getfield 10, 3) := by decide +kernel
theorem dX9_settlementDay_12 : decode cX9_settlementDay 12 = .ok (.getfield 94, 3) := by decide +kernel
theorem dX9_settlementDay_15 : decode cX9_settlementDay 15 = .ok (.iload_n 1, 1) := by decide +kernel
theorem dX9_settlementDay_16 : decode cX9_settlementDay 16 = .ok (.invokevirtual 107, 3) := by decide +kernel
theorem dX9_settlementDay_19 : decode cX9_settlementDay 19 = .ok (.ireturn, 1) := by decide +kernel
set_option maxRecDepth 20000 in
theorem ggX9_passDays_X9_requireWithin : GoodIn wsX9_passDays wsX9_requireWithin := goodIn_ca (goodIn_r _ [8, 9, 10] (by decide +kernel) (by decide +kernel)) (goodIn_sub (fun _ h => List.mem_cons_of_mem _ (List.mem_append_right _ h)) (by decide +kernel))
set_option maxRecDepth 20000 in
theorem gX9_passDays_X9_requireWithin : GoodIn wsX9_passDays (va_wsS RX9 20 yX9_requireWithin wsX9_requireWithin) := goodIn_app (goodIn_of _ (by decide +kernel)) ggX9_passDays_X9_requireWithin
set_option maxRecDepth 20000 in
theorem ggX9_passDays_X3_passDay : GoodIn wsX9_passDays wsX3_passDay := goodIn_r _ [15, 16, 17, 18, 19, 20, 21, 22, 23, 24, 25, 26, 14, 27, 28, 29, 30, 31, 32, 33, 34, 35, 36, 37, 38, 39, 40, 41, 42, 43, 44, 45, 46, 47, 48, 49, 50, 51, 52, 53, 54, 55, 56, 57, 58, 59, 60, 61, 62, 63, 64, 65, 66, 67, 68, 69, 70, 71, 72, 73, 74, 75, 76, 77, 78, 79, 80, 81, 82, 83, 84, 85, 86, 87, 88, 89, 90, 91, 92, 93, 94, 95, 96, 97, 98, 99, 100, 101, 102, 103, 104, 105, 106, 107, 108, 109, 110, 111, 112, 113, 114, 115, 116, 117, 118, 119, 120, 121, 122, 123, 124, 125, 126, 127, 128, 129, 130, 131, 132, 133, 134, 135, 136, 137, 138, 139, 140, 141, 142, 143, 144, 145, 146, 147, 148, 149, 150, 151, 152, 153, 154, 155, 156, 157, 158, 159, 160, 161, 162, 163, 164, 165, 166, 167, 168, 169, 170, 171, 172, 173, 174, 175, 176, 177, 178, 179, 180, 181, 182, 183, 184, 185, 186, 187, 188, 189, 190, 191, 192, 193, 194, 195, 196, 197, 198, 199, 200, 201, 202, 203, 204, 205, 206, 207, 208, 209, 210, 211, 212, 213, 214, 215, 216, 217, 218, 219, 220, 221, 222, 223, 224, 225, 226, 227, 228, 229, 230, 231, 232, 233, 234, 235, 236, 237, 238, 239, 240, 241, 242, 243, 244, 245, 246, 247, 248, 250, 251, 252, 253, 254, 255, 256, 257, 258, 259, 260, 261, 262, 263, 264, 265, 266, 267, 268, 269, 270, 271, 272, 273, 274, 275, 276, 277, 278, 279, 280, 281, 282, 283, 284, 285, 286, 287, 288, 289, 290, 291, 292, 293, 294, 295, 296, 297, 298, 299, 300, 301, 302, 303, 304, 305, 306, 307] (by decide +kernel) (by decide +kernel)
set_option maxRecDepth 20000 in
theorem gX9_passDays_X3_passDay : GoodIn wsX9_passDays (wsV RX9 113 RX3 yX3_passDay wsX3_passDay) := goodIn_app (goodIn_of _ (by decide +kernel)) ggX9_passDays_X3_passDay
theorem dX9_passDays_0 : decode cX9_passDays 0 = .ok (.iload_n 1, 1) := by decide +kernel
theorem dX9_passDays_1 : decode cX9_passDays 1 = .ok (.iconst 1, 1) := by decide +kernel
theorem dX9_passDays_2 : decode cX9_passDays 2 = .ok (.bipush 60, 2) := by decide +kernel
theorem dX9_passDays_4 : decode cX9_passDays 4 = .ok (.invokestatic 20, 3) := by decide +kernel
theorem dX9_passDays_7 : decode cX9_passDays 7 = .ok (.aload_n 0, 1) := by decide +kernel
theorem dX9_passDays_8 : decode cX9_passDays 8 = .ok (.getfield 10, 3) := by decide +kernel
theorem dX9_passDays_11 : decode cX9_passDays 11 = .ok (.getfield 91, 3) := by decide +kernel
theorem dX9_passDays_14 : decode cX9_passDays 14 = .ok (.iload_n 1, 1) := by decide +kernel
theorem dX9_passDays_15 : decode cX9_passDays 15 = .ok (.iadd, 1) := by decide +kernel
theorem dX9_passDays_16 : decode cX9_passDays 16 = .ok (.sipush 400, 3) := by decide +kernel
theorem dX9_passDays_19 : decode cX9_passDays 19 = .ok (.if_icmp .le 13, 3) := by decide +kernel
theorem dX9_passDays_22 : decode cX9_passDays 22 = .ok (.new 47, 3) := by decide +kernel
theorem dX9_passDays_25 : decode cX9_passDays 25 = .ok (.dup, 1) := by decide +kernel
theorem dX9_passDays_26 : decode cX9_passDays 26 = .ok (.ldc 111, 2) := by decide +kernel
theorem dX9_passDays_28 : decode cX9_passDays 28 = .ok (.invokespecial 51, 3) := by decide +kernel
theorem dX9_passDays_31 : decode cX9_passDays 31 = .ok (.athrow, 1) := by decide +kernel
theorem dX9_passDays_32 : decode cX9_passDays 32 = .ok (.iconst 0, 1) := by decide +kernel
theorem dX9_passDays_33 : decode cX9_passDays 33 = .ok (.istore_n 2, 1) := by decide +kernel
theorem dX9_passDays_34 : decode cX9_passDays 34 = .ok (.iload_n 2, 1) := by decide +kernel
theorem dX9_passDays_35 : decode cX9_passDays 35 = .ok (.iload_n 1, 1) := by decide +kernel
theorem dX9_passDays_36 : decode cX9_passDays 36 = .ok (.if_icmp .ge 16, 3) := by decide +kernel
theorem dX9_passDays_39 : decode cX9_passDays 39 = .ok (.aload_n 0, 1) := by decide +kernel
theorem dX9_passDays_40 : decode cX9_passDays 40 = .ok (.getfield 10, 3) := by decide +kernel
theorem dX9_passDays_43 : decode cX9_passDays 43 = .ok (.invokevirtual 113, 3) := by decide +kernel
theorem dX9_passDays_46 : decode cX9_passDays 46 = .ok (.iinc 2 1, 3) := by decide +kernel
theorem dX9_passDays_49 : decode cX9_passDays 49 = .ok (.goto (-15), 3) := by decide +kernel
theorem dX9_passDays_52 : decode cX9_passDays 52 = .ok (.aload_n 0, 1) := by decide +kernel
theorem dX9_passDays_53 : decode cX9_passDays 53 = .ok (.getfield 10, 3) := by decide +kernel
theorem dX9_passDays_56 : decode cX9_passDays 56 = .ok (.getfield 91, 3) := by decide +kernel
theorem dX9_passDays_59 : decode cX9_passDays 59 = .ok (.ireturn, 1) := by decide +kernel
set_option maxRecDepth 20000 in
theorem ggX9_book_X9_accountAt : GoodIn wsX9_book wsX9_accountAt := goodIn_ca (goodIn_r _ [6, 7, 8, 9, 10, 11, 12, 13, 14, 15, 16, 17, 18, 19, 20, 21, 22, 23, 24, 25, 26, 27, 28, 29, 30, 31, 32, 33, 34, 57, 58, 59, 60, 61, 62, 63, 64, 65, 66, 67, 68] (by decide +kernel) (by decide +kernel)) (goodIn_sub (fun _ h => List.mem_cons_of_mem _ (List.mem_append_left _ (List.mem_append_right _ h))) (by decide +kernel))
set_option maxRecDepth 20000 in
theorem gX9_book_X9_accountAt : GoodIn wsX9_book (wsV RX9 31 RX9 yX9_accountAt wsX9_accountAt) := goodIn_app (goodIn_of _ (by decide +kernel)) ggX9_book_X9_accountAt
set_option maxRecDepth 20000 in
theorem ggX9_book_X9_requireAmount : GoodIn wsX9_book wsX9_requireAmount := goodIn_ca (goodIn_r _ [37, 38, 39, 40, 41, 42, 43, 5, 44] (by decide +kernel) (by decide +kernel)) (goodIn_sub (fun _ h => List.mem_cons_of_mem _ (List.mem_append_right _ h)) (by decide +kernel))
set_option maxRecDepth 20000 in
theorem gX9_book_X9_requireAmount : GoodIn wsX9_book (va_wsS RX9 116 yX9_requireAmount wsX9_requireAmount) := goodIn_app (goodIn_of _ (by decide +kernel)) ggX9_book_X9_requireAmount
theorem dX9_book_0 : decode cX9_book 0 = .ok (.aload_n 0, 1) := by decide +kernel
theorem dX9_book_1 : decode cX9_book 1 = .ok (.iload_n 1, 1) := by decide +kernel
theorem dX9_book_2 : decode cX9_book 2 = .ok (.invokevirtual 31, 3) := by decide +kernel
theorem dX9_book_5 : decode cX9_book 5 = .ok (.astore_n 3, 1) := by decide +kernel
theorem dX9_book_6 : decode cX9_book 6 = .ok (.iload_n 2, 1) := by decide +kernel
theorem dX9_book_7 : decode cX9_book 7 = .ok (.invokestatic 116, 3) := by decide +kernel
theorem dX9_book_10 : decode cX9_book 10 = .ok (.aload_n 3, 1) := by decide +kernel
theorem dX9_book_11 : decode cX9_book 11 = .ok (.dup, 1) := by decide +kernel
theorem dX9_book_12 : decode cX9_book 12 = .ok (.getfield 119, 3) := by decide +kernel
theorem dX9_book_15 : decode cX9_book 15 = .ok (.iload_n 2, 1) := by decide +kernel
theorem dX9_book_16 : decode cX9_book 16 = .ok (.i2l, 1) := by decide +kernel
theorem dX9_book_17 : decode cX9_book 17 = .ok (.ladd, 1) := by decide +kernel
theorem dX9_book_18 : decode cX9_book 18 = .ok (.putfield 119, 3) := by decide +kernel
theorem dX9_book_21 : decode cX9_book 21 = .ok (.aload_n 3, 1) := by decide +kernel
theorem dX9_book_22 : decode cX9_book 22 = .ok (.getfield 119, 3) := by decide +kernel
theorem dX9_book_25 : decode cX9_book 25 = .ok (.lreturn, 1) := by decide +kernel
set_option maxRecDepth 20000 in
theorem ggX9_schedule_X9_accountAt : GoodIn wsX9_schedule wsX9_accountAt := goodIn_ca (goodIn_r _ [13, 14, 15, 3, 16, 17, 18, 19, 20, 21, 22, 23, 24, 25, 26, 27, 28, 29, 30, 31, 32, 33, 34, 35, 36, 37, 38, 39, 40, 115, 116, 117, 118, 119, 120, 121, 122, 123, 131, 132, 133] (by decide +kernel) (by decide +kernel)) (goodIn_sub (fun _ h => List.mem_cons_of_mem _ (List.mem_append_left _ (List.mem_append_right _ h))) (by decide +kernel))
set_option maxRecDepth 20000 in
theorem gX9_schedule_X9_accountAt : GoodIn wsX9_schedule (wsV RX9 31 RX9 yX9_accountAt wsX9_accountAt) := goodIn_app (goodIn_of _ (by decide +kernel)) ggX9_schedule_X9_accountAt
set_option maxRecDepth 20000 in
theorem ggX9_schedule_X9_requireAmount : GoodIn wsX9_schedule wsX9_requireAmount := goodIn_ca (goodIn_r _ [43, 44, 45, 46, 47, 48, 49, 12, 50] (by decide +kernel) (by decide +kernel)) (goodIn_sub (fun _ h => List.mem_cons_of_mem _ (List.mem_append_right _ h)) (by decide +kernel))
set_option maxRecDepth 20000 in
theorem gX9_schedule_X9_requireAmount : GoodIn wsX9_schedule (va_wsS RX9 116 yX9_requireAmount wsX9_requireAmount) := goodIn_app (goodIn_of _ (by decide +kernel)) ggX9_schedule_X9_requireAmount
set_option maxRecDepth 20000 in
theorem ggX9_schedule_X9_requireWithin : GoodIn wsX9_schedule wsX9_requireWithin := goodIn_ca (goodIn_r _ [50, 44, 45] (by decide +kernel) (by decide +kernel)) (goodIn_sub (fun _ h => List.mem_cons_of_mem _ (List.mem_append_right _ h)) (by decide +kernel))
set_option maxRecDepth 20000 in
theorem gX9_schedule_X9_requireWithin : GoodIn wsX9_schedule (va_wsS RX9 20 yX9_requireWithin wsX9_requireWithin) := goodIn_app (goodIn_of _ (by decide +kernel)) ggX9_schedule_X9_requireWithin
set_option maxRecDepth 20000 in
theorem ggX9_schedule_Jx4a65c_size_8abf5 : GoodIn wsX9_schedule wsJx4a65c_size_8abf5 := goodIn_r _ [22, 23, 131, 132, 133] (by decide +kernel) (by decide +kernel)
set_option maxRecDepth 20000 in
theorem gX9_schedule_Jx4a65c_size_8abf5 : GoodIn wsX9_schedule (wsV RX9 73 RJx4a65c yJx4a65c_size_8abf5 wsJx4a65c_size_8abf5) := goodIn_app (goodIn_of _ (by decide +kernel)) ggX9_schedule_Jx4a65c_size_8abf5
set_option maxRecDepth 20000 in
theorem ggX9_schedule_X4_init : GoodIn wsX9_schedule wsX4_init := goodIn_r _ [53, 54, 55, 56, 57, 58, 59, 60, 61, 124, 125, 126, 127, 128, 129, 130] (by decide +kernel) (by decide +kernel)
set_option maxRecDepth 20000 in
theorem gX9_schedule_X4_init : GoodIn wsX9_schedule (wsX4_init) := ggX9_schedule_X4_init
set_option maxRecDepth 20000 in
theorem ggX9_schedule_Jx4a65c_add_9ea2d : GoodIn wsX9_schedule wsJx4a65c_add_9ea2d := goodIn_r _ [65, 66, 67, 40, 23, 68, 69, 70, 21, 71, 72, 73, 74, 75, 76, 77, 78, 79, 80, 81, 82, 83, 84, 85, 86, 87, 88, 89, 90, 91, 92, 93, 94, 95, 96, 97, 98, 99, 100, 101, 102, 103, 104, 105, 106, 107, 108, 109, 110, 111, 112, 113, 114, 131, 132, 133] (by decide +kernel) (by decide +kernel)
set_option maxRecDepth 20000 in
theorem gX9_schedule_Jx4a65c_add_9ea2d : GoodIn wsX9_schedule (wsV RX9 133 RJx4a65c yJx4a65c_add_9ea2d wsJx4a65c_add_9ea2d) := goodIn_app (goodIn_of _ (by decide +kernel)) ggX9_schedule_Jx4a65c_add_9ea2d
theorem dX9_schedule_0 : decode cX9_schedule 0 = .ok (.aload_n 0, 1) := by decide +kernel
theorem dX9_schedule_1 : decode cX9_schedule 1 = .ok (.iload_n 1, 1) := by decide +kernel
theorem dX9_schedule_2 : decode cX9_schedule 2 = .ok (.invokevirtual 31, 3) := by decide +kernel
theorem dX9_schedule_5 : decode cX9_schedule 5 = .ok (.astore 6, 2) := by decide +kernel
theorem dX9_schedule_7 : decode cX9_schedule 7 = .ok (.iload_n 2, 1) := by decide +kernel
theorem dX9_schedule_8 : decode cX9_schedule 8 = .ok (.invokestatic 116, 3) := by decide +kernel
theorem dX9_schedule_11 : decode cX9_schedule 11 = .ok (.iload_n 3, 1) := by decide +kernel
theorem dX9_schedule_12 : decode cX9_schedule 12 = .ok (.aload_n 0, 1) := by decide +kernel
theorem dX9_schedule_13 : decode cX9_schedule 13 = .ok (.getfield 10, 3) := by decide +kernel
theorem dX9_schedule_16 : decode cX9_schedule 16 = .ok (.getfield 91, 3) := by decide +kernel
theorem dX9_schedule_19 : decode cX9_schedule 19 = .ok (.sipush 450, 3) := by decide +kernel
theorem dX9_schedule_22 : decode cX9_schedule 22 = .ok (.invokestatic 20, 3) := by decide +kernel
theorem dX9_schedule_25 : decode cX9_schedule 25 = .ok (.iload 4, 2) := by decide +kernel
theorem dX9_schedule_27 : decode cX9_schedule 27 = .ok (.iconst 1, 1) := by decide +kernel
theorem dX9_schedule_28 : decode cX9_schedule 28 = .ok (.bipush 100, 2) := by decide +kernel
theorem dX9_schedule_30 : decode cX9_schedule 30 = .ok (.invokestatic 20, 3) := by decide +kernel
theorem dX9_schedule_33 : decode cX9_schedule 33 = .ok (.iload 5, 2) := by decide +kernel
theorem dX9_schedule_35 : decode cX9_schedule 35 = .ok (.iconst 1, 1) := by decide +kernel
theorem dX9_schedule_36 : decode cX9_schedule 36 = .ok (.bipush 30, 2) := by decide +kernel
theorem dX9_schedule_38 : decode cX9_schedule 38 = .ok (.invokestatic 20, 3) := by decide +kernel
theorem dX9_schedule_41 : decode cX9_schedule 41 = .ok (.aload_n 0, 1) := by decide +kernel
theorem dX9_schedule_42 : decode cX9_schedule 42 = .ok (.getfield 10, 3) := by decide +kernel
theorem dX9_schedule_45 : decode cX9_schedule 45 = .ok (.getfield 123, 3) := by decide +kernel
theorem dX9_schedule_48 : decode cX9_schedule 48 = .ok (.invokevirtual 73, 3) := by decide +kernel
theorem dX9_schedule_51 : decode cX9_schedule 51 = .ok (.bipush 20, 2) := by decide +kernel
theorem dX9_schedule_53 : decode cX9_schedule 53 = .ok (.if_icmp .lt 13, 3) := by decide +kernel
theorem dX9_schedule_56 : decode cX9_schedule 56 = .ok (.new 47, 3) := by decide +kernel
theorem dX9_schedule_59 : decode cX9_schedule 59 = .ok (.dup, 1) := by decide +kernel
theorem dX9_schedule_60 : decode cX9_schedule 60 = .ok (.ldc 126, 2) := by decide +kernel
theorem dX9_schedule_62 : decode cX9_schedule 62 = .ok (.invokespecial 51, 3) := by decide +kernel
theorem dX9_schedule_65 : decode cX9_schedule 65 = .ok (.athrow, 1) := by decide +kernel
theorem dX9_schedule_66 : decode cX9_schedule 66 = .ok (.aload_n 0, 1) := by decide +kernel
theorem dX9_schedule_67 : decode cX9_schedule 67 = .ok (.getfield 10, 3) := by decide +kernel
theorem dX9_schedule_70 : decode cX9_schedule 70 = .ok (.getfield 123, 3) := by decide +kernel
theorem dX9_schedule_73 : decode cX9_schedule 73 = .ok (.new 128, 3) := by decide +kernel
theorem dX9_schedule_76 : decode cX9_schedule 76 = .ok (.dup, 1) := by decide +kernel
theorem dX9_schedule_77 : decode cX9_schedule 77 = .ok (.aload 6, 2) := by decide +kernel
theorem dX9_schedule_79 : decode cX9_schedule 79 = .ok (.iload_n 2, 1) := by decide +kernel
theorem dX9_schedule_80 : decode cX9_schedule 80 = .ok (.iload_n 3, 1) := by decide +kernel
theorem dX9_schedule_81 : decode cX9_schedule 81 = .ok (.iload 4, 2) := by decide +kernel
theorem dX9_schedule_83 : decode cX9_schedule 83 = .ok (.iload 5, 2) := by decide +kernel
theorem dX9_schedule_85 : decode cX9_schedule 85 = .ok (.invokespecial 130, 3) := by decide +kernel
theorem dX9_schedule_88 : decode cX9_schedule 88 = .ok (.invokevirtual 133, 3) := by decide +kernel
theorem dX9_schedule_91 : decode cX9_schedule 91 = .ok (.pop, 1) := by decide +kernel
theorem dX9_schedule_92 : decode cX9_schedule 92 = .ok (.aload_n 0, 1) := by decide +kernel
theorem dX9_schedule_93 : decode cX9_schedule 93 = .ok (.getfield 10, 3) := by decide +kernel
theorem dX9_schedule_96 : decode cX9_schedule 96 = .ok (.getfield 123, 3) := by decide +kernel
theorem dX9_schedule_99 : decode cX9_schedule 99 = .ok (.invokevirtual 73, 3) := by decide +kernel
theorem dX9_schedule_102 : decode cX9_schedule 102 = .ok (.iconst 1, 1) := by decide +kernel
theorem dX9_schedule_103 : decode cX9_schedule 103 = .ok (.isub, 1) := by decide +kernel
theorem dX9_schedule_104 : decode cX9_schedule 104 = .ok (.ireturn, 1) := by decide +kernel
set_option maxRecDepth 20000 in
theorem ggX9_cancel_X9_flowAt : GoodIn wsX9_cancel wsX9_flowAt := goodIn_ca (goodIn_r _ [6, 7, 8, 9, 10, 11, 12, 13, 14, 15, 16, 17, 18, 19, 20, 21, 22, 23, 24, 25, 26, 27, 28, 29, 30, 31, 32, 33, 34, 42, 43, 44, 45, 46, 47, 48, 49, 50, 51, 52, 53] (by decide +kernel) (by decide +kernel)) (goodIn_sub (fun _ h => List.mem_cons_of_mem _ (List.mem_append_right _ h)) (by decide +kernel))
set_option maxRecDepth 20000 in
theorem gX9_cancel_X9_flowAt : GoodIn wsX9_cancel (wsV RX9 137 RX9 yX9_flowAt wsX9_flowAt) := goodIn_app (goodIn_of _ (by decide +kernel)) ggX9_cancel_X9_flowAt
theorem dX9_cancel_0 : decode cX9_cancel 0 = .ok (.aload_n 0, 1) := by decide +kernel
theorem dX9_cancel_1 : decode cX9_cancel 1 = .ok (.iload_n 1, 1) := by decide +kernel
theorem dX9_cancel_2 : decode cX9_cancel 2 = .ok (.invokevirtual 137, 3) := by decide +kernel
theorem dX9_cancel_5 : decode cX9_cancel 5 = .ok (.astore_n 2, 1) := by decide +kernel
theorem dX9_cancel_6 : decode cX9_cancel 6 = .ok (.aload_n 2, 1) := by decide +kernel
theorem dX9_cancel_7 : decode cX9_cancel 7 = .ok (.getfield 141, 3) := by decide +kernel
theorem dX9_cancel_10 : decode cX9_cancel 10 = .ok (.istore_n 3, 1) := by decide +kernel
theorem dX9_cancel_11 : decode cX9_cancel 11 = .ok (.aload_n 2, 1) := by decide +kernel
theorem dX9_cancel_12 : decode cX9_cancel 12 = .ok (.iconst 0, 1) := by decide +kernel
theorem dX9_cancel_13 : decode cX9_cancel 13 = .ok (.putfield 141, 3) := by decide +kernel
theorem dX9_cancel_16 : decode cX9_cancel 16 = .ok (.iload_n 3, 1) := by decide +kernel
theorem dX9_cancel_17 : decode cX9_cancel 17 = .ok (.ireturn, 1) := by decide +kernel
set_option maxRecDepth 20000 in
theorem ggX9_timesLeft_X9_flowAt : GoodIn wsX9_timesLeft wsX9_flowAt := goodIn_ca (goodIn_r _ [6, 7, 8, 9, 10, 11, 12, 13, 14, 15, 16, 17, 18, 19, 20, 21, 22, 23, 24, 25, 26, 27, 28, 29, 30, 31, 32, 33, 34, 42, 43, 44, 45, 46, 47, 48, 49, 50, 51, 52, 53] (by decide +kernel) (by decide +kernel)) (goodIn_sub (fun _ h => List.mem_cons_of_mem _ (List.mem_append_right _ h)) (by decide +kernel))
set_option maxRecDepth 20000 in
theorem gX9_timesLeft_X9_flowAt : GoodIn wsX9_timesLeft (wsV RX9 137 RX9 yX9_flowAt wsX9_flowAt) := goodIn_app (goodIn_of _ (by decide +kernel)) ggX9_timesLeft_X9_flowAt
theorem dX9_timesLeft_0 : decode cX9_timesLeft 0 = .ok (.aload_n 0, 1) := by decide +kernel
theorem dX9_timesLeft_1 : decode cX9_timesLeft 1 = .ok (.iload_n 1, 1) := by decide +kernel
theorem dX9_timesLeft_2 : decode cX9_timesLeft 2 = .ok (.invokevirtual 137, 3) := by decide +kernel
theorem dX9_timesLeft_5 : decode cX9_timesLeft 5 = .ok (.getfield 141, 3) := by decide +kernel
theorem dX9_timesLeft_8 : decode cX9_timesLeft 8 = .ok (.ireturn, 1) := by decide +kernel
set_option maxRecDepth 20000 in
theorem ggX9_scheduled_X9_accountAt : GoodIn wsX9_scheduled wsX9_accountAt := goodIn_ca (goodIn_r _ [7, 8, 9, 1, 10, 11, 12, 13, 14, 15, 16, 17, 18, 19, 20, 21, 22, 23, 24, 25, 26, 27, 28, 29, 30, 31, 32, 33, 34, 70, 71, 72, 73, 74, 75, 76, 77, 78, 79, 80, 81] (by decide +kernel) (by decide +kernel)) (goodIn_sub (fun _ h => List.mem_cons_of_mem _ (List.mem_append_left _ (List.mem_append_right _ h))) (by decide +kernel))
set_option maxRecDepth 20000 in
theorem gX9_scheduled_X9_accountAt : GoodIn wsX9_scheduled (wsV RX9 31 RX9 yX9_accountAt wsX9_accountAt) := goodIn_app (goodIn_of _ (by decide +kernel)) ggX9_scheduled_X9_accountAt
set_option maxRecDepth 20000 in
theorem ggX9_scheduled_X9_requireWithin : GoodIn wsX9_scheduled wsX9_requireWithin := goodIn_ca (goodIn_r _ [37, 38, 39] (by decide +kernel) (by decide +kernel)) (goodIn_sub (fun _ h => List.mem_cons_of_mem _ (List.mem_append_right _ h)) (by decide +kernel))
set_option maxRecDepth 20000 in
theorem gX9_scheduled_X9_requireWithin : GoodIn wsX9_scheduled (va_wsS RX9 20 yX9_requireWithin wsX9_requireWithin) := goodIn_app (goodIn_of _ (by decide +kernel)) ggX9_scheduled_X9_requireWithin
set_option maxRecDepth 20000 in
theorem ggX9_scheduled_X3_sumOfFlows : GoodIn wsX9_scheduled wsX3_sumOfFlows := goodIn_r _ [44, 45, 46, 47, 48, 49, 13, 14, 15, 16, 17, 50, 19, 20, 21, 22, 23, 24, 25, 26, 27, 28, 29, 30, 31, 32, 33, 34, 51, 52, 53, 54, 55, 56, 57, 58, 59, 60, 61, 62, 63, 64, 65, 66, 67, 68, 69, 71, 72, 73, 74, 75, 76, 77, 78, 82, 83, 84, 85, 86, 87, 88, 79, 80, 81, 89] (by decide +kernel) (by decide +kernel)
set_option maxRecDepth 20000 in
theorem gX9_scheduled_X3_sumOfFlows : GoodIn wsX9_scheduled (wsV RX9 144 RX3 yX3_sumOfFlows wsX3_sumOfFlows) := goodIn_app (goodIn_of _ (by decide +kernel)) ggX9_scheduled_X3_sumOfFlows
theorem dX9_scheduled_0 : decode cX9_scheduled 0 = .ok (.aload_n 0, 1) := by decide +kernel
theorem dX9_scheduled_1 : decode cX9_scheduled 1 = .ok (.iload_n 1, 1) := by decide +kernel
theorem dX9_scheduled_2 : decode cX9_scheduled 2 = .ok (.invokevirtual 31, 3) := by decide +kernel
theorem dX9_scheduled_5 : decode cX9_scheduled 5 = .ok (.astore 4, 2) := by decide +kernel
theorem dX9_scheduled_7 : decode cX9_scheduled 7 = .ok (.iload_n 2, 1) := by decide +kernel
theorem dX9_scheduled_8 : decode cX9_scheduled 8 = .ok (.aload_n 0, 1) := by decide +kernel
theorem dX9_scheduled_9 : decode cX9_scheduled 9 = .ok (.getfield 10, 3) := by decide +kernel
theorem dX9_scheduled_12 : decode cX9_scheduled 12 = .ok (.getfield 91, 3) := by decide +kernel
theorem dX9_scheduled_15 : decode cX9_scheduled 15 = .ok (.sipush 450, 3) := by decide +kernel
theorem dX9_scheduled_18 : decode cX9_scheduled 18 = .ok (.invokestatic 20, 3) := by decide +kernel
theorem dX9_scheduled_21 : decode cX9_scheduled 21 = .ok (.iload_n 3, 1) := by decide +kernel
theorem dX9_scheduled_22 : decode cX9_scheduled 22 = .ok (.iload_n 2, 1) := by decide +kernel
theorem dX9_scheduled_23 : decode cX9_scheduled 23 = .ok (.sipush 450, 3) := by decide +kernel
theorem dX9_scheduled_26 : decode cX9_scheduled 26 = .ok (.invokestatic 20, 3) := by decide +kernel
theorem dX9_scheduled_29 : decode cX9_scheduled 29 = .ok (.aload_n 0, 1) := by decide +kernel
theorem dX9_scheduled_30 : decode cX9_scheduled 30 = .ok (.getfield 10, 3) := by decide +kernel
theorem dX9_scheduled_33 : decode cX9_scheduled 33 = .ok (.aload 4, 2) := by decide +kernel
theorem dX9_scheduled_35 : decode cX9_scheduled 35 = .ok (.iload_n 2, 1) := by decide +kernel
theorem dX9_scheduled_36 : decode cX9_scheduled 36 = .ok (.iload_n 3, 1) := by decide +kernel
theorem dX9_scheduled_37 : decode cX9_scheduled 37 = .ok (.invokevirtual 144, 3) := by decide +kernel
theorem dX9_scheduled_40 : decode cX9_scheduled 40 = .ok (.lreturn, 1) := by decide +kernel
set_option maxRecDepth 20000 in
theorem ggX9_accounts_Jx4a65c_size_8abf5 : GoodIn wsX9_accounts wsJx4a65c_size_8abf5 := goodIn_r _ [7, 8, 18, 19, 20] (by decide +kernel) (by decide +kernel)
set_option maxRecDepth 20000 in
theorem gX9_accounts_Jx4a65c_size_8abf5 : GoodIn wsX9_accounts (wsV RX9 73 RJx4a65c yJx4a65c_size_8abf5 wsJx4a65c_size_8abf5) := goodIn_app (goodIn_of _ (by decide +kernel)) ggX9_accounts_Jx4a65c_size_8abf5
theorem dX9_accounts_0 : decode cX9_accounts 0 = .ok (.aload_n 0, 1) := by decide +kernel
theorem dX9_accounts_1 : decode cX9_accounts 1 = .ok (.getfield 10, 3) := by decide +kernel
theorem dX9_accounts_4 : decode cX9_accounts 4 = .ok (.getfield 148, 3) := by decide +kernel
theorem dX9_accounts_7 : decode cX9_accounts 7 = .ok (.invokevirtual 73, 3) := by decide +kernel
theorem dX9_accounts_10 : decode cX9_accounts 10 = .ok (.ireturn, 1) := by decide +kernel
set_option maxRecDepth 20000 in
theorem ggX9_poolOf_X9_accountAt : GoodIn wsX9_poolOf wsX9_accountAt := goodIn_ca (goodIn_r _ [7, 8, 9, 10, 11, 12, 13, 14, 15, 16, 17, 18, 19, 20, 21, 22, 23, 24, 25, 26, 27, 28, 29, 30, 31, 32, 33, 34, 35, 53, 54, 55, 56, 57, 58, 59, 60, 61, 62, 63, 64] (by decide +kernel) (by decide +kernel)) (goodIn_sub (fun _ h => List.mem_cons_of_mem _ (List.mem_append_right _ h)) (by decide +kernel))
set_option maxRecDepth 20000 in
theorem gX9_poolOf_X9_accountAt : GoodIn wsX9_poolOf (wsV RX9 31 RX9 yX9_accountAt wsX9_accountAt) := goodIn_app (goodIn_of _ (by decide +kernel)) ggX9_poolOf_X9_accountAt
theorem dX9_poolOf_0 : decode cX9_poolOf 0 = .ok (.aload_n 0, 1) := by decide +kernel
theorem dX9_poolOf_1 : decode cX9_poolOf 1 = .ok (.iload_n 1, 1) := by decide +kernel
theorem dX9_poolOf_2 : decode cX9_poolOf 2 = .ok (.invokevirtual 31, 3) := by decide +kernel
theorem dX9_poolOf_5 : decode cX9_poolOf 5 = .ok (.getfield 151, 3) := by decide +kernel
theorem dX9_poolOf_8 : decode cX9_poolOf 8 = .ok (.getfield 155, 3) := by decide +kernel
theorem dX9_poolOf_11 : decode cX9_poolOf 11 = .ok (.ireturn, 1) := by decide +kernel
set_option maxRecDepth 20000 in
theorem ggX9_balance_X9_accountAt : GoodIn wsX9_balance wsX9_accountAt := goodIn_ca (goodIn_r _ [6, 7, 8, 9, 10, 11, 12, 13, 14, 15, 16, 17, 18, 19, 20, 21, 22, 23, 24, 25, 26, 27, 28, 29, 30, 31, 32, 33, 34, 47, 48, 49, 50, 51, 52, 53, 54, 55, 56, 57, 58] (by decide +kernel) (by decide +kernel)) (goodIn_sub (fun _ h => List.mem_cons_of_mem _ (List.mem_append_right _ h)) (by decide +kernel))
set_option maxRecDepth 20000 in
theorem gX9_balance_X9_accountAt : GoodIn wsX9_balance (wsV RX9 31 RX9 yX9_accountAt wsX9_accountAt) := goodIn_app (goodIn_of _ (by decide +kernel)) ggX9_balance_X9_accountAt
theorem dX9_balance_0 : decode cX9_balance 0 = .ok (.aload_n 0, 1) := by decide +kernel
theorem dX9_balance_1 : decode cX9_balance 1 = .ok (.iload_n 1, 1) := by decide +kernel
theorem dX9_balance_2 : decode cX9_balance 2 = .ok (.invokevirtual 31, 3) := by decide +kernel
theorem dX9_balance_5 : decode cX9_balance 5 = .ok (.getfield 119, 3) := by decide +kernel
theorem dX9_balance_8 : decode cX9_balance 8 = .ok (.lreturn, 1) := by decide +kernel
set_option maxRecDepth 20000 in
theorem ggX9_total_X9_accountAt : GoodIn wsX9_total wsX9_accountAt := goodIn_ca (goodIn_r _ [5, 6, 7, 8, 9, 10, 11, 12, 13, 14, 15, 16, 17, 18, 19, 20, 21, 22, 23, 24, 25, 26, 27, 28, 29, 30, 31, 32, 33, 43, 44, 45, 46, 47, 48, 49, 50, 51, 52, 53, 54] (by decide +kernel) (by decide +kernel)) (goodIn_sub (fun _ h => List.mem_cons_of_mem _ (List.mem_append_right _ h)) (by decide +kernel))
set_option maxRecDepth 20000 in
theorem gX9_total_X9_accountAt : GoodIn wsX9_total (wsV RX9 31 RX9 yX9_accountAt wsX9_accountAt) := goodIn_app (goodIn_of _ (by decide +kernel)) ggX9_total_X9_accountAt
set_option maxRecDepth 20000 in
theorem ggX9_total_X8_sumFrom : GoodIn wsX9_total wsX8_sumFrom := goodIn_r _ [36, 37, 38, 39, 40, 12, 13, 14, 15, 16, 41, 18, 19, 20, 21, 22, 23, 24, 25, 26, 27, 28, 29, 30, 31, 32, 33, 42, 34, 35, 55, 56, 57, 58, 59, 60, 61, 62, 63, 64, 65, 66, 52, 53, 54] (by decide +kernel) (by decide +kernel)
set_option maxRecDepth 20000 in
theorem gX9_total_X8_sumFrom_n160 : GoodIn wsX9_total (wsX8_sumFrom) := ggX9_total_X8_sumFrom
theorem dX9_total_0 : decode cX9_total 0 = .ok (.aload_n 0, 1) := by decide +kernel
theorem dX9_total_1 : decode cX9_total 1 = .ok (.iload_n 1, 1) := by decide +kernel
theorem dX9_total_2 : decode cX9_total 2 = .ok (.invokevirtual 31, 3) := by decide +kernel
theorem dX9_total_5 : decode cX9_total 5 = .ok (.iconst 0, 1) := by decide +kernel
theorem dX9_total_6 : decode cX9_total 6 = .ok (.invokestatic 160, 3) := by decide +kernel
theorem dX9_total_9 : decode cX9_total 9 = .ok (.lreturn, 1) := by decide +kernel
set_option maxRecDepth 20000 in
theorem ggX9_exposure_X9_bankAt : GoodIn wsX9_exposure wsX9_bankAt := goodIn_ca (goodIn_r _ [7, 8, 9, 1, 10, 11, 12, 13, 14, 15, 16, 17, 18, 19, 20, 21, 22, 23, 24, 25, 26, 27, 28, 29, 30, 31, 32, 33, 34, 53, 57, 58, 59, 60, 61, 62, 63, 64, 65, 66, 67] (by decide +kernel) (by decide +kernel)) (goodIn_sub (fun _ h => List.mem_cons_of_mem _ (List.mem_append_right _ h)) (by decide +kernel))
set_option maxRecDepth 20000 in
theorem gX9_exposure_X9_bankAt : GoodIn wsX9_exposure (wsV RX9 16 RX9 yX9_bankAt wsX9_bankAt) := goodIn_app (goodIn_of _ (by decide +kernel)) ggX9_exposure_X9_bankAt
set_option maxRecDepth 20000 in
theorem ggX9_exposure_X3_measureBanks : GoodIn wsX9_exposure wsX3_measureBanks := goodIn_r _ [39, 40, 41, 42, 43, 44, 45, 46, 47, 48, 49, 50, 51, 13, 14, 15, 16, 17, 52, 19, 20, 21, 22, 23, 24, 25, 26, 27, 28, 29, 30, 31, 32, 33, 34, 57, 58, 59, 60, 61, 62, 63, 64, 54, 55, 56, 68, 69, 70, 71, 72, 73, 74, 75, 76, 77, 78, 79, 65, 66, 67] (by decide +kernel) (by decide +kernel)
set_option maxRecDepth 20000 in
theorem gX9_exposure_X3_measureBanks : GoodIn wsX9_exposure (wsV RX9 166 RX3 yX3_measureBanks wsX3_measureBanks) := goodIn_app (goodIn_of _ (by decide +kernel)) ggX9_exposure_X3_measureBanks
theorem dX9_exposure_0 : decode cX9_exposure 0 = .ok (.aload_n 0, 1) := by decide +kernel
theorem dX9_exposure_1 : decode cX9_exposure 1 = .ok (.iload_n 1, 1) := by decide +kernel
theorem dX9_exposure_2 : decode cX9_exposure 2 = .ok (.invokevirtual 16, 3) := by decide +kernel
theorem dX9_exposure_5 : decode cX9_exposure 5 = .ok (.astore_n 2, 1) := by decide +kernel
theorem dX9_exposure_6 : decode cX9_exposure 6 = .ok (.aload_n 0, 1) := by decide +kernel
theorem dX9_exposure_7 : decode cX9_exposure 7 = .ok (.getfield 10, 3) := by decide +kernel
theorem dX9_exposure_10 : decode cX9_exposure 10 = .ok (.invokevirtual 166, 3) := by decide +kernel
theorem dX9_exposure_13 : decode cX9_exposure 13 = .ok (.aload_n 2, 1) := by decide +kernel
theorem dX9_exposure_14 : decode cX9_exposure 14 = .ok (.getfield 169, 3) := by decide +kernel
theorem dX9_exposure_17 : decode cX9_exposure 17 = .ok (.lreturn, 1) := by decide +kernel
set_option maxRecDepth 20000 in
theorem ggX9_drawn_X9_lineAt : GoodIn wsX9_drawn wsX9_lineAt := goodIn_ca (goodIn_r _ [6, 7, 8, 9, 10, 11, 12, 13, 14, 15, 16, 17, 18, 19, 20, 21, 22, 23, 24, 25, 26, 27, 28, 29, 30, 31, 32, 33, 34, 44, 45, 46, 47, 48, 49, 50, 51, 52, 53, 54, 55] (by decide +kernel) (by decide +kernel)) (goodIn_sub (fun _ h => List.mem_cons_of_mem _ (List.mem_append_right _ h)) (by decide +kernel))
set_option maxRecDepth 20000 in
theorem gX9_drawn_X9_lineAt : GoodIn wsX9_drawn (wsV RX9 172 RX9 yX9_lineAt wsX9_lineAt) := goodIn_app (goodIn_of _ (by decide +kernel)) ggX9_drawn_X9_lineAt
theorem dX9_drawn_0 : decode cX9_drawn 0 = .ok (.aload_n 0, 1) := by decide +kernel
theorem dX9_drawn_1 : decode cX9_drawn 1 = .ok (.iload_n 1, 1) := by decide +kernel
theorem dX9_drawn_2 : decode cX9_drawn 2 = .ok (.invokevirtual 172, 3) := by decide +kernel
theorem dX9_drawn_5 : decode cX9_drawn 5 = .ok (.getfield 176, 3) := by decide +kernel
theorem dX9_drawn_8 : decode cX9_drawn 8 = .ok (.l2i, 1) := by decide +kernel
theorem dX9_drawn_9 : decode cX9_drawn 9 = .ok (.ireturn, 1) := by decide +kernel
set_option maxRecDepth 20000 in
theorem ggX9_costOf_X9_lineAt : GoodIn wsX9_costOf wsX9_lineAt := goodIn_ca (goodIn_r _ [6, 7, 8, 9, 10, 11, 12, 13, 14, 15, 16, 17, 18, 19, 20, 21, 22, 23, 24, 25, 26, 27, 28, 29, 30, 31, 32, 33, 34, 44, 45, 46, 47, 48, 49, 50, 51, 52, 53, 54, 55] (by decide +kernel) (by decide +kernel)) (goodIn_sub (fun _ h => List.mem_cons_of_mem _ (List.mem_append_right _ h)) (by decide +kernel))
set_option maxRecDepth 20000 in
theorem gX9_costOf_X9_lineAt : GoodIn wsX9_costOf (wsV RX9 172 RX9 yX9_lineAt wsX9_lineAt) := goodIn_app (goodIn_of _ (by decide +kernel)) ggX9_costOf_X9_lineAt
theorem dX9_costOf_0 : decode cX9_costOf 0 = .ok (.aload_n 0, 1) := by decide +kernel
theorem dX9_costOf_1 : decode cX9_costOf 1 = .ok (.iload_n 1, 1) := by decide +kernel
theorem dX9_costOf_2 : decode cX9_costOf 2 = .ok (.invokevirtual 172, 3) := by decide +kernel
theorem dX9_costOf_5 : decode cX9_costOf 5 = .ok (.getfield 181, 3) := by decide +kernel
theorem dX9_costOf_8 : decode cX9_costOf 8 = .ok (.lreturn, 1) := by decide +kernel
set_option maxRecDepth 20000 in
theorem ggX9_interestOf_X9_accountAt : GoodIn wsX9_interestOf wsX9_accountAt := goodIn_ca (goodIn_r _ [6, 7, 8, 9, 10, 11, 12, 13, 14, 15, 16, 17, 18, 19, 20, 21, 22, 23, 24, 25, 26, 27, 28, 29, 30, 31, 32, 33, 34, 47, 48, 49, 50, 51, 52, 53, 54, 55, 56, 57, 58] (by decide +kernel) (by decide +kernel)) (goodIn_sub (fun _ h => List.mem_cons_of_mem _ (List.mem_append_right _ h)) (by decide +kernel))
set_option maxRecDepth 20000 in
theorem gX9_interestOf_X9_accountAt : GoodIn wsX9_interestOf (wsV RX9 31 RX9 yX9_accountAt wsX9_accountAt) := goodIn_app (goodIn_of _ (by decide +kernel)) ggX9_interestOf_X9_accountAt
theorem dX9_interestOf_0 : decode cX9_interestOf 0 = .ok (.aload_n 0, 1) := by decide +kernel
theorem dX9_interestOf_1 : decode cX9_interestOf 1 = .ok (.iload_n 1, 1) := by decide +kernel
theorem dX9_interestOf_2 : decode cX9_interestOf 2 = .ok (.invokevirtual 31, 3) := by decide +kernel
theorem dX9_interestOf_5 : decode cX9_interestOf 5 = .ok (.getfield 184, 3) := by decide +kernel
theorem dX9_interestOf_8 : decode cX9_interestOf 8 = .ok (.lreturn, 1) := by decide +kernel
set_option maxRecDepth 20000 in
theorem ggX9_poolInterest_X9_accountAt : GoodIn wsX9_poolInterest wsX9_accountAt := goodIn_ca (goodIn_r _ [9, 10, 11, 12, 13, 14, 15, 16, 17, 18, 19, 20, 21, 22, 23, 24, 25, 26, 27, 28, 29, 30, 31, 32, 33, 34, 35, 36, 37, 71, 72, 73, 74, 75, 76, 77, 78, 79, 80, 81, 82] (by decide +kernel) (by decide +kernel)) (goodIn_sub (fun _ h => List.mem_cons_of_mem _ (List.mem_append_left _ (List.mem_append_right _ h))) (by decide +kernel))
set_option maxRecDepth 20000 in
theorem gX9_poolInterest_X9_accountAt : GoodIn wsX9_poolInterest (wsV RX9 31 RX9 yX9_accountAt wsX9_accountAt) := goodIn_app (goodIn_of _ (by decide +kernel)) ggX9_poolInterest_X9_accountAt
set_option maxRecDepth 20000 in
theorem ggX9_poolInterest_X9_requireTop : GoodIn wsX9_poolInterest wsX9_requireTop := goodIn_ca (goodIn_r _ [40, 41, 42, 43, 44, 45, 46, 47, 48, 49, 50, 51, 52, 53, 54, 55] (by decide +kernel) (by decide +kernel)) (goodIn_sub (fun _ h => List.mem_cons_of_mem _ (List.mem_append_right _ h)) (by decide +kernel))
set_option maxRecDepth 20000 in
theorem gX9_poolInterest_X9_requireTop : GoodIn wsX9_poolInterest (va_wsS RX9 65 yX9_requireTop wsX9_requireTop) := goodIn_app (goodIn_of _ (by decide +kernel)) ggX9_poolInterest_X9_requireTop
theorem dX9_poolInterest_0 : decode cX9_poolInterest 0 = .ok (.aload_n 0, 1) := by decide +kernel
theorem dX9_poolInterest_1 : decode cX9_poolInterest 1 = .ok (.iload_n 1, 1) := by decide +kernel
theorem dX9_poolInterest_2 : decode cX9_poolInterest 2 = .ok (.invokevirtual 31, 3) := by decide +kernel
theorem dX9_poolInterest_5 : decode cX9_poolInterest 5 = .ok (.astore_n 2, 1) := by decide +kernel
theorem dX9_poolInterest_6 : decode cX9_poolInterest 6 = .ok (.aload_n 2, 1) := by decide +kernel
theorem dX9_poolInterest_7 : decode cX9_poolInterest 7 = .ok (.invokestatic 65, 3) := by decide +kernel
theorem dX9_poolInterest_10 : decode cX9_poolInterest 10 = .ok (.aload_n 2, 1) := by decide +kernel
theorem dX9_poolInterest_11 : decode cX9_poolInterest 11 = .ok (.getfield 151, 3) := by decide +kernel
theorem dX9_poolInterest_14 : decode cX9_poolInterest 14 = .ok (.getfield 187, 3) := by decide +kernel
theorem dX9_poolInterest_17 : decode cX9_poolInterest 17 = .ok (.getfield 191, 3) := by decide +kernel
theorem dX9_poolInterest_20 : decode cX9_poolInterest 20 = .ok (.aload_n 2, 1) := by decide +kernel
theorem dX9_poolInterest_21 : decode cX9_poolInterest 21 = .ok (.getfield 151, 3) := by decide +kernel
theorem dX9_poolInterest_24 : decode cX9_poolInterest 24 = .ok (.getfield 196, 3) := by decide +kernel
theorem dX9_poolInterest_27 : decode cX9_poolInterest 27 = .ok (.getfield 191, 3) := by decide +kernel
theorem dX9_poolInterest_30 : decode cX9_poolInterest 30 = .ok (.lsub, 1) := by decide +kernel
theorem dX9_poolInterest_31 : decode cX9_poolInterest 31 = .ok (.lreturn, 1) := by decide +kernel
set_option maxRecDepth 20000 in
theorem ggX9_afterSweep_X9_accountAt : GoodIn wsX9_afterSweep wsX9_accountAt := goodIn_ca (goodIn_r _ [5, 6, 7, 8, 9, 10, 11, 12, 13, 14, 15, 16, 17, 18, 19, 20, 21, 22, 23, 24, 25, 26, 27, 28, 29, 30, 31, 32, 33, 74, 75, 76, 77, 78, 79, 80, 81, 82, 83, 84, 85] (by decide +kernel) (by decide +kernel)) (goodIn_sub (fun _ h => List.mem_cons_of_mem _ (List.mem_append_right _ h)) (by decide +kernel))
set_option maxRecDepth 20000 in
theorem gX9_afterSweep_X9_accountAt : GoodIn wsX9_afterSweep (wsV RX9 31 RX9 yX9_accountAt wsX9_accountAt) := goodIn_app (goodIn_of _ (by decide +kernel)) ggX9_afterSweep_X9_accountAt
set_option maxRecDepth 20000 in
theorem ggX9_afterSweep_X8_sweptCash : GoodIn wsX9_afterSweep wsX8_sweptCash := goodIn_r _ [37, 38, 39, 36, 40, 41, 42, 43, 44, 45, 46, 47, 48, 49, 50, 51, 52, 53, 54, 55, 56, 12, 13, 14, 15, 16, 57, 18, 19, 20, 21, 22, 23, 24, 25, 26, 27, 28, 29, 30, 31, 32, 33, 58, 59, 60, 61, 62, 63, 64, 65, 66, 67, 68, 69, 70, 71, 72, 73, 86, 87, 88, 89, 90, 91, 92, 93, 94, 95, 96, 97, 83, 84, 85] (by decide +kernel) (by decide +kernel)
set_option maxRecDepth 20000 in
theorem gX9_afterSweep_X8_sweptCash : GoodIn wsX9_afterSweep (va_wsS RX9 199 yX8_sweptCash wsX8_sweptCash) := goodIn_app (goodIn_of _ (by decide +kernel)) ggX9_afterSweep_X8_sweptCash
theorem dX9_afterSweep_0 : decode cX9_afterSweep 0 = .ok (.aload_n 0, 1) := by decide +kernel
theorem dX9_afterSweep_1 : decode cX9_afterSweep 1 = .ok (.iload_n 1, 1) := by decide +kernel
theorem dX9_afterSweep_2 : decode cX9_afterSweep 2 = .ok (.invokevirtual 31, 3) := by decide +kernel
theorem dX9_afterSweep_5 : decode cX9_afterSweep 5 = .ok (.invokestatic 199, 3) := by decide +kernel
theorem dX9_afterSweep_8 : decode cX9_afterSweep 8 = .ok (.lreturn, 1) := by decide +kernel
set_option maxRecDepth 20000 in
theorem ggX9_afterSweepByMoves_X9_accountAt : GoodIn wsX9_afterSweepByMoves wsX9_accountAt := goodIn_ca (goodIn_r _ [7, 8, 9, 1, 10, 11, 12, 13, 14, 15, 16, 17, 18, 19, 20, 21, 22, 23, 24, 25, 26, 27, 28, 29, 30, 31, 32, 33, 34, 166, 179, 180, 181, 182, 183, 184, 185, 186, 187, 188, 189] (by decide +kernel) (by decide +kernel)) (goodIn_sub (fun _ h => List.mem_cons_of_mem _ (List.mem_append_right _ h)) (by decide +kernel))
set_option maxRecDepth 20000 in
theorem gX9_afterSweepByMoves_X9_accountAt : GoodIn wsX9_afterSweepByMoves (wsV RX9 31 RX9 yX9_accountAt wsX9_accountAt) := goodIn_app (goodIn_of _ (by decide +kernel)) ggX9_afterSweepByMoves_X9_accountAt
set_option maxRecDepth 20000 in
theorem ggX9_afterSweepByMoves_X3_keep : GoodIn wsX9_afterSweepByMoves wsX3_keep := goodIn_r _ [39, 40, 41, 42, 43, 44, 45, 46, 47, 48, 49, 50, 13, 14, 15, 16, 17, 51, 19, 20, 21, 22, 23, 24, 25, 26, 27, 28, 29, 30, 31, 32, 33, 34, 52, 53, 54, 55, 56, 57, 58, 59, 60, 61, 62, 63, 64, 65, 66, 67, 68, 69, 70, 71, 72, 73, 74, 75, 76, 77, 78, 79, 80, 81, 82, 83, 84, 85, 86, 87, 88, 89, 90, 91, 92, 93, 94, 95, 96, 97, 98, 99, 100, 101, 102, 179, 180, 181, 182, 183, 184, 185, 186, 167, 168, 169, 170, 171, 172, 173, 174, 175, 176, 177, 178, 187, 188, 189, 190, 191, 192, 193, 194, 195, 196, 197, 198, 199, 200, 201, 202, 203, 204, 205, 206, 207, 208, 209, 210, 211, 212, 213, 214, 215, 216, 217, 218, 219, 220] (by decide +kernel) (by decide +kernel)
set_option maxRecDepth 20000 in
theorem gX9_afterSweepByMoves_X3_keep : GoodIn wsX9_afterSweepByMoves (wsV RX9 203 RX3 yX3_keep wsX3_keep) := goodIn_app (goodIn_of _ (by decide +kernel)) ggX9_afterSweepByMoves_X3_keep
set_option maxRecDepth 20000 in
theorem ggX9_afterSweepByMoves_X3_sweepPools : GoodIn wsX9_afterSweepByMoves wsX3_sweepPools := goodIn_r _ [106, 44, 43, 50, 13, 14, 15, 16, 17, 51, 19, 20, 21, 22, 23, 24, 25, 26, 27, 28, 29, 30, 31, 32, 33, 34, 107, 108, 109, 110, 111, 112, 113, 114, 115, 116, 117, 118, 119, 120, 121, 122, 123, 124, 125, 126, 55, 127, 128, 129, 130, 131, 132, 133, 134, 135, 136, 137, 138, 139, 140, 141, 179, 180, 181, 182, 183, 184, 185, 186, 187, 188, 189, 167, 168, 169, 170, 171, 172, 173, 174, 175, 176, 177, 178] (by decide +kernel) (by decide +kernel)
set_option maxRecDepth 20000 in
theorem gX9_afterSweepByMoves_X3_sweepPools : GoodIn wsX9_afterSweepByMoves (wsV RX9 206 RX3 yX3_sweepPools wsX3_sweepPools) := goodIn_app (goodIn_of _ (by decide +kernel)) ggX9_afterSweepByMoves_X3_sweepPools
set_option maxRecDepth 20000 in
theorem ggX9_afterSweepByMoves_X3_goBack : GoodIn wsX9_afterSweepByMoves wsX3_goBack := goodIn_r _ [145, 41, 40, 42, 43, 44, 45, 46, 47, 48, 49, 50, 13, 14, 15, 16, 17, 51, 19, 20, 21, 22, 23, 24, 25, 26, 27, 28, 29, 30, 31, 32, 33, 34, 146, 147, 148, 55, 149, 58, 57, 60, 59, 150, 151, 152, 64, 153, 66, 67, 154, 155, 156, 71, 157, 74, 73, 76, 75, 78, 77, 79, 80, 81, 82, 158, 159, 160, 86, 161, 89, 88, 91, 90, 93, 92, 162, 163, 164, 97, 165, 100, 99, 102, 101, 179, 180, 181, 182, 183, 184, 185, 186, 167, 168, 169, 170, 171, 172, 173, 174, 175, 176, 177, 178, 187, 188, 189, 190, 191, 192, 193, 194, 195, 196, 197, 198, 199, 200, 201, 202, 203, 204, 205, 206, 207, 208, 209, 210, 211, 212, 213, 214, 215, 216, 217, 218, 219, 220] (by decide +kernel) (by decide +kernel)
set_option maxRecDepth 20000 in
theorem gX9_afterSweepByMoves_X3_goBack : GoodIn wsX9_afterSweepByMoves (wsV RX9 209 RX3 yX3_goBack wsX3_goBack) := goodIn_app (goodIn_of _ (by decide +kernel)) ggX9_afterSweepByMoves_X3_goBack
theorem dX9_afterSweepByMoves_0 : decode cX9_afterSweepByMoves 0 = .ok (.aload_n 0, 1) := by decide +kernel
theorem dX9_afterSweepByMoves_1 : decode cX9_afterSweepByMoves 1 = .ok (.iload_n 1, 1) := by decide +kernel
theorem dX9_afterSweepByMoves_2 : decode cX9_afterSweepByMoves 2 = .ok (.invokevirtual 31, 3) := by decide +kernel
theorem dX9_afterSweepByMoves_5 : decode cX9_afterSweepByMoves 5 = .ok (.astore_n 2, 1) := by decide +kernel
theorem dX9_afterSweepByMoves_6 : decode cX9_afterSweepByMoves 6 = .ok (.aload_n 0, 1) := by decide +kernel
theorem dX9_afterSweepByMoves_7 : decode cX9_afterSweepByMoves 7 = .ok (.getfield 10, 3) := by decide +kernel
theorem dX9_afterSweepByMoves_10 : decode cX9_afterSweepByMoves 10 = .ok (.invokevirtual 203, 3) := by decide +kernel
theorem dX9_afterSweepByMoves_13 : decode cX9_afterSweepByMoves 13 = .ok (.aload_n 0, 1) := by decide +kernel
theorem dX9_afterSweepByMoves_14 : decode cX9_afterSweepByMoves 14 = .ok (.getfield 10, 3) := by decide +kernel
theorem dX9_afterSweepByMoves_17 : decode cX9_afterSweepByMoves 17 = .ok (.invokevirtual 206, 3) := by decide +kernel
theorem dX9_afterSweepByMoves_20 : decode cX9_afterSweepByMoves 20 = .ok (.aload_n 2, 1) := by decide +kernel
theorem dX9_afterSweepByMoves_21 : decode cX9_afterSweepByMoves 21 = .ok (.getfield 119, 3) := by decide +kernel
theorem dX9_afterSweepByMoves_24 : decode cX9_afterSweepByMoves 24 = .ok (.lstore_n 3, 1) := by decide +kernel
theorem dX9_afterSweepByMoves_25 : decode cX9_afterSweepByMoves 25 = .ok (.aload_n 0, 1) := by decide +kernel
theorem dX9_afterSweepByMoves_26 : decode cX9_afterSweepByMoves 26 = .ok (.getfield 10, 3) := by decide +kernel
theorem dX9_afterSweepByMoves_29 : decode cX9_afterSweepByMoves 29 = .ok (.invokevirtual 209, 3) := by decide +kernel
theorem dX9_afterSweepByMoves_32 : decode cX9_afterSweepByMoves 32 = .ok (.lload_n 3, 1) := by decide +kernel
theorem dX9_afterSweepByMoves_33 : decode cX9_afterSweepByMoves 33 = .ok (.lreturn, 1) := by decide +kernel
set_option maxRecDepth 20000 in
theorem ggX9_forecast_X9_accountAt : GoodIn wsX9_forecast wsX9_accountAt := goodIn_ca (goodIn_r _ [7, 8, 9, 1, 10, 11, 12, 13, 14, 15, 16, 17, 18, 19, 20, 21, 22, 23, 24, 25, 26, 27, 28, 29, 30, 31, 32, 33, 34, 320, 333, 334, 335, 336, 337, 338, 339, 340, 341, 342, 343] (by decide +kernel) (by decide +kernel)) (goodIn_sub (fun _ h => List.mem_cons_of_mem _ (List.mem_append_left _ (List.mem_append_right _ h))) (by decide +kernel))
set_option maxRecDepth 20000 in
theorem gX9_forecast_X9_accountAt : GoodIn wsX9_forecast (wsV RX9 31 RX9 yX9_accountAt wsX9_accountAt) := goodIn_app (goodIn_of _ (by decide +kernel)) ggX9_forecast_X9_accountAt
set_option maxRecDepth 20000 in
theorem ggX9_forecast_X9_requireWithin : GoodIn wsX9_forecast wsX9_requireWithin := goodIn_ca (goodIn_r _ [37, 38, 39] (by decide +kernel) (by decide +kernel)) (goodIn_sub (fun _ h => List.mem_cons_of_mem _ (List.mem_append_right _ h)) (by decide +kernel))
set_option maxRecDepth 20000 in
theorem gX9_forecast_X9_requireWithin : GoodIn wsX9_forecast (va_wsS RX9 20 yX9_requireWithin wsX9_requireWithin) := goodIn_app (goodIn_of _ (by decide +kernel)) ggX9_forecast_X9_requireWithin
set_option maxRecDepth 20000 in
theorem ggX9_forecast_X3_keep : GoodIn wsX9_forecast wsX3_keep := goodIn_r _ [44, 45, 46, 47, 48, 49, 50, 51, 52, 53, 54, 55, 13, 14, 15, 16, 17, 56, 19, 20, 21, 22, 23, 24, 25, 26, 27, 28, 29, 30, 31, 32, 33, 34, 57, 58, 59, 60, 61, 62, 63, 64, 65, 66, 67, 68, 69, 70, 71, 72, 73, 74, 75, 76, 77, 78, 79, 80, 81, 82, 83, 84, 85, 86, 87, 88, 89, 90, 91, 92, 93, 94, 95, 96, 97, 98, 99, 100, 101, 102, 103, 104, 105, 106, 107, 333, 334, 335, 336, 337, 338, 339, 340, 321, 322, 323, 324, 325, 326, 327, 328, 329, 330, 331, 332, 341, 342, 343, 344, 345, 346, 347, 348, 349, 350, 351, 352, 353, 354, 355, 356, 357, 358, 359, 360, 361, 362, 363, 364, 365, 366, 367, 368, 369, 370, 371, 372, 373, 374] (by decide +kernel) (by decide +kernel)
set_option maxRecDepth 20000 in
theorem gX9_forecast_X3_keep : GoodIn wsX9_forecast (wsV RX9 203 RX3 yX3_keep wsX3_keep) := goodIn_app (goodIn_of _ (by decide +kernel)) ggX9_forecast_X3_keep
set_option maxRecDepth 20000 in
theorem ggX9_forecast_X3_passDay : GoodIn wsX9_forecast wsX3_passDay := goodIn_r _ [111, 112, 45, 113, 114, 115, 116, 117, 118, 119, 120, 121, 43, 122, 53, 54, 55, 13, 14, 15, 16, 17, 56, 19, 20, 21, 22, 23, 24, 25, 26, 27, 28, 29, 30, 31, 32, 33, 34, 123, 124, 125, 102, 126, 106, 104, 127, 128, 129, 130, 131, 132, 133, 134, 49, 48, 135, 136, 137, 138, 139, 140, 141, 142, 143, 144, 145, 146, 147, 148, 149, 150, 151, 152, 153, 154, 60, 155, 156, 157, 158, 159, 160, 161, 162, 163, 164, 165, 166, 167, 168, 169, 170, 171, 172, 173, 50, 174, 175, 176, 69, 177, 178, 179, 180, 181, 182, 183, 184, 185, 186, 187, 188, 189, 190, 191, 192, 193, 194, 195, 196, 197, 198, 199, 200, 201, 202, 47, 203, 204, 205, 206, 207, 208, 209, 210, 211, 212, 213, 214, 215, 216, 217, 218, 219, 220, 221, 222, 223, 224, 225, 226, 227, 228, 229, 230, 231, 232, 233, 234, 235, 236, 237, 238, 51, 52, 239, 240, 241, 242, 243, 244, 71, 72, 245, 246, 247, 76, 248, 249, 78, 250, 82, 251, 252, 253, 254, 255, 256, 257, 258, 91, 259, 97, 93, 260, 261, 262, 263, 264, 265, 266, 267, 268, 269, 270, 271, 272, 273, 80, 274, 275, 276, 277, 278, 279, 280, 281, 282, 283, 284, 285, 286, 287, 288, 62, 64, 289, 290, 291, 292, 293, 95, 294, 295, 333, 334, 335, 336, 337, 338, 339, 340, 375, 341, 342, 343, 368, 369, 370, 371, 372, 373, 374, 321, 322, 323, 324, 325, 326, 327, 328, 329, 330, 331, 332, 344, 345, 346, 347, 348, 359, 360, 361, 362, 363, 364, 365, 366, 367, 376, 377, 378, 349, 350, 351, 352, 353, 354, 355, 356, 357, 358] (by decide +kernel) (by decide +kernel)
set_option maxRecDepth 20000 in
theorem gX9_forecast_X3_passDay : GoodIn wsX9_forecast (wsV RX9 113 RX3 yX3_passDay wsX3_passDay) := goodIn_app (goodIn_of _ (by decide +kernel)) ggX9_forecast_X3_passDay
set_option maxRecDepth 20000 in
theorem ggX9_forecast_X3_goBack : GoodIn wsX9_forecast wsX3_goBack := goodIn_r _ [299, 46, 45, 47, 48, 49, 50, 51, 52, 53, 54, 55, 13, 14, 15, 16, 17, 56, 19, 20, 21, 22, 23, 24, 25, 26, 27, 28, 29, 30, 31, 32, 33, 34, 300, 301, 302, 60, 303, 63, 62, 65, 64, 304, 305, 306, 69, 307, 71, 72, 308, 309, 310, 76, 311, 79, 78, 81, 80, 83, 82, 84, 85, 86, 87, 312, 313, 314, 91, 315, 94, 93, 96, 95, 98, 97, 316, 317, 318, 102, 319, 105, 104, 107, 106, 333, 334, 335, 336, 337, 338, 339, 340, 321, 322, 323, 324, 325, 326, 327, 328, 329, 330, 331, 332, 341, 342, 343, 344, 345, 346, 347, 348, 349, 350, 351, 352, 353, 354, 355, 356, 357, 358, 359, 360, 361, 362, 363, 364, 365, 366, 367, 368, 369, 370, 371, 372, 373, 374] (by decide +kernel) (by decide +kernel)
set_option maxRecDepth 20000 in
theorem gX9_forecast_X3_goBack : GoodIn wsX9_forecast (wsV RX9 209 RX3 yX3_goBack wsX3_goBack) := goodIn_app (goodIn_of _ (by decide +kernel)) ggX9_forecast_X3_goBack
theorem dX9_forecast_0 : decode cX9_forecast 0 = .ok (.aload_n 0, 1) := by decide +kernel
theorem dX9_forecast_1 : decode cX9_forecast 1 = .ok (.iload_n 1, 1) := by decide +kernel
theorem dX9_forecast_2 : decode cX9_forecast 2 = .ok (.invokevirtual 31, 3) := by decide +kernel
theorem dX9_forecast_5 : decode cX9_forecast 5 = .ok (.astore_n 3, 1) := by decide +kernel
theorem dX9_forecast_6 : decode cX9_forecast 6 = .ok (.iload_n 2, 1) := by decide +kernel
theorem dX9_forecast_7 : decode cX9_forecast 7 = .ok (.iconst 1, 1) := by decide +kernel
theorem dX9_forecast_8 : decode cX9_forecast 8 = .ok (.bipush 60, 2) := by decide +kernel
theorem dX9_forecast_10 : decode cX9_forecast 10 = .ok (.invokestatic 20, 3) := by decide +kernel
theorem dX9_forecast_13 : decode cX9_forecast 13 = .ok (.aload_n 0, 1) := by decide +kernel
theorem dX9_forecast_14 : decode cX9_forecast 14 = .ok (.getfield 10, 3) := by decide +kernel
theorem dX9_forecast_17 : decode cX9_forecast 17 = .ok (.invokevirtual 203, 3) := by decide +kernel
theorem dX9_forecast_20 : decode cX9_forecast 20 = .ok (.iconst 0, 1) := by decide +kernel
theorem dX9_forecast_21 : decode cX9_forecast 21 = .ok (.istore 4, 2) := by decide +kernel
theorem dX9_forecast_23 : decode cX9_forecast 23 = .ok (.iload 4, 2) := by decide +kernel
theorem dX9_forecast_25 : decode cX9_forecast 25 = .ok (.iload_n 2, 1) := by decide +kernel
theorem dX9_forecast_26 : decode cX9_forecast 26 = .ok (.if_icmp .ge 16, 3) := by decide +kernel
theorem dX9_forecast_29 : decode cX9_forecast 29 = .ok (.aload_n 0, 1) := by decide +kernel
theorem dX9_forecast_30 : decode cX9_forecast 30 = .ok (.getfield 10, 3) := by decide +kernel
theorem dX9_forecast_33 : decode cX9_forecast 33 = .ok (.invokevirtual 113, 3) := by decide +kernel
theorem dX9_forecast_36 : decode cX9_forecast 36 = .ok (.iinc 4 1, 3) := by decide +kernel
theorem dX9_forecast_39 : decode cX9_forecast 39 = .ok (.goto (-16), 3) := by decide +kernel
theorem dX9_forecast_42 : decode cX9_forecast 42 = .ok (.aload_n 3, 1) := by decide +kernel
theorem dX9_forecast_43 : decode cX9_forecast 43 = .ok (.getfield 119, 3) := by decide +kernel
theorem dX9_forecast_46 : decode cX9_forecast 46 = .ok (.lstore 4, 2) := by decide +kernel
theorem dX9_forecast_48 : decode cX9_forecast 48 = .ok (.aload_n 0, 1) := by decide +kernel
theorem dX9_forecast_49 : decode cX9_forecast 49 = .ok (.getfield 10, 3) := by decide +kernel
theorem dX9_forecast_52 : decode cX9_forecast 52 = .ok (.invokevirtual 209, 3) := by decide +kernel
theorem dX9_forecast_55 : decode cX9_forecast 55 = .ok (.lload 4, 2) := by decide +kernel
theorem dX9_forecast_57 : decode cX9_forecast 57 = .ok (.lreturn, 1) := by decide +kernel
set_option maxRecDepth 20000 in
theorem ggX9_daysToShort_X9_accountAt : GoodIn wsX9_daysToShort wsX9_accountAt := goodIn_ca (goodIn_r _ [7, 8, 9, 1, 10, 11, 12, 13, 14, 15, 16, 17, 18, 19, 20, 21, 22, 23, 24, 25, 26, 27, 28, 29, 30, 31, 32, 33, 34, 326, 339, 340, 341, 342, 343, 344, 345, 346, 347, 348, 349] (by decide +kernel) (by decide +kernel)) (goodIn_sub (fun _ h => List.mem_cons_of_mem _ (List.mem_append_left _ (List.mem_append_left _ (List.mem_append_right _ h)))) (by decide +kernel))
set_option maxRecDepth 20000 in
theorem gX9_daysToShort_X9_accountAt : GoodIn wsX9_daysToShort (wsV RX9 31 RX9 yX9_accountAt wsX9_accountAt) := goodIn_app (goodIn_of _ (by decide +kernel)) ggX9_daysToShort_X9_accountAt
set_option maxRecDepth 20000 in
theorem ggX9_daysToShort_X9_requireWithin : GoodIn wsX9_daysToShort wsX9_requireWithin := goodIn_ca (goodIn_r _ [37, 38, 39] (by decide +kernel) (by decide +kernel)) (goodIn_sub (fun _ h => List.mem_cons_of_mem _ (List.mem_append_left _ (List.mem_append_right _ h))) (by decide +kernel))
set_option maxRecDepth 20000 in
theorem gX9_daysToShort_X9_requireWithin : GoodIn wsX9_daysToShort (va_wsS RX9 20 yX9_requireWithin wsX9_requireWithin) := goodIn_app (goodIn_of _ (by decide +kernel)) ggX9_daysToShort_X9_requireWithin
set_option maxRecDepth 20000 in
theorem ggX9_daysToShort_X9_requireTop : GoodIn wsX9_daysToShort wsX9_requireTop := goodIn_ca (goodIn_r _ [42, 43, 44, 45, 327, 328, 329, 330, 331, 332, 333, 334, 335, 336, 337, 338] (by decide +kernel) (by decide +kernel)) (goodIn_sub (fun _ h => List.mem_cons_of_mem _ (List.mem_append_right _ h)) (by decide +kernel))
set_option maxRecDepth 20000 in
theorem gX9_daysToShort_X9_requireTop : GoodIn wsX9_daysToShort (va_wsS RX9 65 yX9_requireTop wsX9_requireTop) := goodIn_app (goodIn_of _ (by decide +kernel)) ggX9_daysToShort_X9_requireTop
set_option maxRecDepth 20000 in
theorem ggX9_daysToShort_X3_keep : GoodIn wsX9_daysToShort wsX3_keep := goodIn_r _ [50, 51, 52, 53, 54, 55, 56, 57, 58, 59, 60, 61, 13, 14, 15, 16, 17, 62, 19, 20, 21, 22, 23, 24, 25, 26, 27, 28, 29, 30, 31, 32, 33, 34, 63, 64, 65, 66, 67, 68, 69, 70, 71, 72, 73, 74, 75, 76, 77, 78, 79, 80, 81, 82, 83, 84, 85, 86, 87, 88, 89, 90, 91, 92, 93, 94, 95, 96, 97, 98, 99, 100, 101, 102, 103, 104, 105, 106, 107, 108, 109, 110, 111, 112, 113, 339, 340, 341, 342, 343, 344, 345, 346, 327, 328, 329, 330, 331, 332, 333, 334, 335, 336, 337, 338, 347, 348, 349, 350, 351, 352, 353, 354, 355, 356, 357, 358, 359, 360, 361, 362, 363, 364, 365, 366, 367, 368, 369, 370, 371, 372, 373, 374, 375, 376, 377, 378, 379, 380] (by decide +kernel) (by decide +kernel)
set_option maxRecDepth 20000 in
theorem gX9_daysToShort_X3_keep : GoodIn wsX9_daysToShort (wsV RX9 203 RX3 yX3_keep wsX3_keep) := goodIn_app (goodIn_of _ (by decide +kernel)) ggX9_daysToShort_X3_keep
set_option maxRecDepth 20000 in
theorem ggX9_daysToShort_X3_passDay : GoodIn wsX9_daysToShort wsX3_passDay := goodIn_r _ [117, 118, 51, 119, 120, 121, 122, 123, 124, 125, 126, 127, 49, 128, 59, 60, 61, 13, 14, 15, 16, 17, 62, 19, 20, 21, 22, 23, 24, 25, 26, 27, 28, 29, 30, 31, 32, 33, 34, 129, 130, 131, 108, 132, 112, 110, 133, 134, 135, 136, 137, 138, 139, 140, 55, 54, 141, 142, 143, 144, 145, 146, 147, 148, 149, 150, 151, 152, 153, 154, 155, 156, 157, 158, 159, 160, 66, 161, 162, 163, 164, 165, 166, 167, 168, 169, 170, 171, 172, 173, 174, 175, 176, 177, 178, 179, 56, 180, 181, 182, 75, 183, 184, 185, 186, 187, 188, 189, 190, 191, 192, 193, 194, 195, 196, 197, 198, 199, 200, 201, 202, 203, 204, 205, 206, 207, 208, 53, 209, 210, 211, 212, 213, 214, 215, 216, 217, 218, 219, 220, 221, 222, 223, 224, 225, 226, 227, 228, 229, 230, 231, 232, 233, 234, 235, 236, 237, 238, 239, 240, 241, 242, 243, 244, 57, 58, 245, 246, 247, 248, 249, 250, 77, 78, 251, 252, 253, 82, 254, 255, 84, 256, 88, 257, 258, 259, 260, 261, 262, 263, 264, 97, 265, 103, 99, 266, 267, 268, 269, 270, 271, 272, 273, 274, 275, 276, 277, 278, 279, 86, 280, 281, 282, 283, 284, 285, 286, 287, 288, 289, 290, 291, 292, 293, 294, 68, 70, 295, 296, 297, 298, 299, 101, 300, 301, 339, 340, 341, 342, 343, 344, 345, 346, 381, 347, 348, 349, 374, 375, 376, 377, 378, 379, 380, 327, 328, 329, 330, 331, 332, 333, 334, 335, 336, 337, 338, 350, 351, 352, 353, 354, 365, 366, 367, 368, 369, 370, 371, 372, 373, 382, 383, 384, 355, 356, 357, 358, 359, 360, 361, 362, 363, 364] (by decide +kernel) (by decide +kernel)
set_option maxRecDepth 20000 in
theorem gX9_daysToShort_X3_passDay : GoodIn wsX9_daysToShort (wsV RX9 113 RX3 yX3_passDay wsX3_passDay) := goodIn_app (goodIn_of _ (by decide +kernel)) ggX9_daysToShort_X3_passDay
set_option maxRecDepth 20000 in
theorem ggX9_daysToShort_X3_goBack : GoodIn wsX9_daysToShort wsX3_goBack := goodIn_r _ [305, 52, 51, 53, 54, 55, 56, 57, 58, 59, 60, 61, 13, 14, 15, 16, 17, 62, 19, 20, 21, 22, 23, 24, 25, 26, 27, 28, 29, 30, 31, 32, 33, 34, 306, 307, 308, 66, 309, 69, 68, 71, 70, 310, 311, 312, 75, 313, 77, 78, 314, 315, 316, 82, 317, 85, 84, 87, 86, 89, 88, 90, 91, 92, 93, 318, 319, 320, 97, 321, 100, 99, 102, 101, 104, 103, 322, 323, 324, 108, 325, 111, 110, 113, 112, 339, 340, 341, 342, 343, 344, 345, 346, 327, 328, 329, 330, 331, 332, 333, 334, 335, 336, 337, 338, 347, 348, 349, 350, 351, 352, 353, 354, 355, 356, 357, 358, 359, 360, 361, 362, 363, 364, 365, 366, 367, 368, 369, 370, 371, 372, 373, 374, 375, 376, 377, 378, 379, 380] (by decide +kernel) (by decide +kernel)
set_option maxRecDepth 20000 in
theorem gX9_daysToShort_X3_goBack : GoodIn wsX9_daysToShort (wsV RX9 209 RX3 yX3_goBack wsX3_goBack) := goodIn_app (goodIn_of _ (by decide +kernel)) ggX9_daysToShort_X3_goBack
theorem dX9_daysToShort_0 : decode cX9_daysToShort 0 = .ok (.aload_n 0, 1) := by decide +kernel
theorem dX9_daysToShort_1 : decode cX9_daysToShort 1 = .ok (.iload_n 1, 1) := by decide +kernel
theorem dX9_daysToShort_2 : decode cX9_daysToShort 2 = .ok (.invokevirtual 31, 3) := by decide +kernel
theorem dX9_daysToShort_5 : decode cX9_daysToShort 5 = .ok (.astore_n 3, 1) := by decide +kernel
theorem dX9_daysToShort_6 : decode cX9_daysToShort 6 = .ok (.iload_n 2, 1) := by decide +kernel
theorem dX9_daysToShort_7 : decode cX9_daysToShort 7 = .ok (.iconst 1, 1) := by decide +kernel
theorem dX9_daysToShort_8 : decode cX9_daysToShort 8 = .ok (.bipush 60, 2) := by decide +kernel
theorem dX9_daysToShort_10 : decode cX9_daysToShort 10 = .ok (.invokestatic 20, 3) := by decide +kernel
theorem dX9_daysToShort_13 : decode cX9_daysToShort 13 = .ok (.aload_n 3, 1) := by decide +kernel
theorem dX9_daysToShort_14 : decode cX9_daysToShort 14 = .ok (.invokestatic 65, 3) := by decide +kernel
theorem dX9_daysToShort_17 : decode cX9_daysToShort 17 = .ok (.iconst (-1), 1) := by decide +kernel
theorem dX9_daysToShort_18 : decode cX9_daysToShort 18 = .ok (.istore 4, 2) := by decide +kernel
theorem dX9_daysToShort_20 : decode cX9_daysToShort 20 = .ok (.aload_n 0, 1) := by decide +kernel
theorem dX9_daysToShort_21 : decode cX9_daysToShort 21 = .ok (.getfield 10, 3) := by decide +kernel
theorem dX9_daysToShort_24 : decode cX9_daysToShort 24 = .ok (.invokevirtual 203, 3) := by decide +kernel
theorem dX9_daysToShort_27 : decode cX9_daysToShort 27 = .ok (.iconst 1, 1) := by decide +kernel
theorem dX9_daysToShort_28 : decode cX9_daysToShort 28 = .ok (.istore 5, 2) := by decide +kernel
theorem dX9_daysToShort_30 : decode cX9_daysToShort 30 = .ok (.iload 4, 2) := by decide +kernel
theorem dX9_daysToShort_32 : decode cX9_daysToShort 32 = .ok (.ifCond .ge 35, 3) := by decide +kernel
theorem dX9_daysToShort_35 : decode cX9_daysToShort 35 = .ok (.iload 5, 2) := by decide +kernel
theorem dX9_daysToShort_37 : decode cX9_daysToShort 37 = .ok (.iload_n 2, 1) := by decide +kernel
theorem dX9_daysToShort_38 : decode cX9_daysToShort 38 = .ok (.if_icmp .gt 29, 3) := by decide +kernel
theorem dX9_daysToShort_41 : decode cX9_daysToShort 41 = .ok (.aload_n 0, 1) := by decide +kernel
theorem dX9_daysToShort_42 : decode cX9_daysToShort 42 = .ok (.getfield 10, 3) := by decide +kernel
theorem dX9_daysToShort_45 : decode cX9_daysToShort 45 = .ok (.invokevirtual 113, 3) := by decide +kernel
theorem dX9_daysToShort_48 : decode cX9_daysToShort 48 = .ok (.aload_n 3, 1) := by decide +kernel
theorem dX9_daysToShort_49 : decode cX9_daysToShort 49 = .ok (.getfield 119, 3) := by decide +kernel
theorem dX9_daysToShort_52 : decode cX9_daysToShort 52 = .ok (.lconst 0, 1) := by decide +kernel
theorem dX9_daysToShort_53 : decode cX9_daysToShort 53 = .ok (.lcmp, 1) := by decide +kernel
theorem dX9_daysToShort_54 : decode cX9_daysToShort 54 = .ok (.ifCond .ge 7, 3) := by decide +kernel
theorem dX9_daysToShort_57 : decode cX9_daysToShort 57 = .ok (.iload 5, 2) := by decide +kernel
theorem dX9_daysToShort_59 : decode cX9_daysToShort 59 = .ok (.istore 4, 2) := by decide +kernel
theorem dX9_daysToShort_61 : decode cX9_daysToShort 61 = .ok (.iinc 5 1, 3) := by decide +kernel
theorem dX9_daysToShort_64 : decode cX9_daysToShort 64 = .ok (.goto (-34), 3) := by decide +kernel
theorem dX9_daysToShort_67 : decode cX9_daysToShort 67 = .ok (.aload_n 0, 1) := by decide +kernel
theorem dX9_daysToShort_68 : decode cX9_daysToShort 68 = .ok (.getfield 10, 3) := by decide +kernel
theorem dX9_daysToShort_71 : decode cX9_daysToShort 71 = .ok (.invokevirtual 209, 3) := by decide +kernel
theorem dX9_daysToShort_74 : decode cX9_daysToShort 74 = .ok (.iload 4, 2) := by decide +kernel
theorem dX9_daysToShort_76 : decode cX9_daysToShort 76 = .ok (.ireturn, 1) := by decide +kernel
theorem dX9_requireWithin_0 : decode cX9_requireWithin 0 = .ok (.iload_n 0, 1) := by decide +kernel
theorem dX9_requireWithin_1 : decode cX9_requireWithin 1 = .ok (.iload_n 1, 1) := by decide +kernel
theorem dX9_requireWithin_2 : decode cX9_requireWithin 2 = .ok (.if_icmp .lt 8, 3) := by decide +kernel
theorem dX9_requireWithin_5 : decode cX9_requireWithin 5 = .ok (.iload_n 0, 1) := by decide +kernel
theorem dX9_requireWithin_6 : decode cX9_requireWithin 6 = .ok (.iload_n 2, 1) := by decide +kernel
theorem dX9_requireWithin_7 : decode cX9_requireWithin 7 = .ok (.if_icmp .le 13, 3) := by decide +kernel
theorem dX9_requireWithin_10 : decode cX9_requireWithin 10 = .ok (.new 212, 3) := by decide +kernel
theorem dX9_requireWithin_13 : decode cX9_requireWithin 13 = .ok (.dup, 1) := by decide +kernel
theorem dX9_requireWithin_14 : decode cX9_requireWithin 14 = .ok (.ldc 214, 2) := by decide +kernel
theorem dX9_requireWithin_16 : decode cX9_requireWithin 16 = .ok (.invokespecial 216, 3) := by decide +kernel
theorem dX9_requireWithin_19 : decode cX9_requireWithin 19 = .ok (.athrow, 1) := by decide +kernel
theorem dX9_requireWithin_20 : decode cX9_requireWithin 20 = .ok (.return_, 1) := by decide +kernel
set_option maxRecDepth 20000 in
theorem ggX9_requireAmount_X9_requireWithin : GoodIn wsX9_requireAmount wsX9_requireWithin := goodIn_ca (goodIn_r _ [8, 1, 2] (by decide +kernel) (by decide +kernel)) (goodIn_sub (fun _ h => List.mem_cons_of_mem _ (List.mem_append_right _ h)) (by decide +kernel))
set_option maxRecDepth 20000 in
theorem gX9_requireAmount_X9_requireWithin : GoodIn wsX9_requireAmount (va_wsS RX9 20 yX9_requireWithin wsX9_requireWithin) := goodIn_app (goodIn_of _ (by decide +kernel)) ggX9_requireAmount_X9_requireWithin
theorem dX9_requireAmount_0 : decode cX9_requireAmount 0 = .ok (.iload_n 0, 1) := by decide +kernel
theorem dX9_requireAmount_1 : decode cX9_requireAmount 1 = .ok (.ldc 39, 2) := by decide +kernel
theorem dX9_requireAmount_3 : decode cX9_requireAmount 3 = .ok (.ldc 40, 2) := by decide +kernel
theorem dX9_requireAmount_5 : decode cX9_requireAmount 5 = .ok (.invokestatic 20, 3) := by decide +kernel
theorem dX9_requireAmount_8 : decode cX9_requireAmount 8 = .ok (.iload_n 0, 1) := by decide +kernel
theorem dX9_requireAmount_9 : decode cX9_requireAmount 9 = .ok (.ifCond .ne 13, 3) := by decide +kernel
theorem dX9_requireAmount_12 : decode cX9_requireAmount 12 = .ok (.new 212, 3) := by decide +kernel
theorem dX9_requireAmount_15 : decode cX9_requireAmount 15 = .ok (.dup, 1) := by decide +kernel
theorem dX9_requireAmount_16 : decode cX9_requireAmount 16 = .ok (.ldc 217, 2) := by decide +kernel
theorem dX9_requireAmount_18 : decode cX9_requireAmount 18 = .ok (.invokespecial 216, 3) := by decide +kernel
theorem dX9_requireAmount_21 : decode cX9_requireAmount 21 = .ok (.athrow, 1) := by decide +kernel
theorem dX9_requireAmount_22 : decode cX9_requireAmount 22 = .ok (.return_, 1) := by decide +kernel
theorem dX9_requireTop_0 : decode cX9_requireTop 0 = .ok (.aload_n 0, 1) := by decide +kernel
theorem dX9_requireTop_1 : decode cX9_requireTop 1 = .ok (.getfield 41, 3) := by decide +kernel
theorem dX9_requireTop_4 : decode cX9_requireTop 4 = .ok (.ifnull 13, 3) := by decide +kernel
theorem dX9_requireTop_7 : decode cX9_requireTop 7 = .ok (.new 47, 3) := by decide +kernel
theorem dX9_requireTop_10 : decode cX9_requireTop 10 = .ok (.dup, 1) := by decide +kernel
theorem dX9_requireTop_11 : decode cX9_requireTop 11 = .ok (.ldc 219, 2) := by decide +kernel
theorem dX9_requireTop_13 : decode cX9_requireTop 13 = .ok (.invokespecial 51, 3) := by decide +kernel
theorem dX9_requireTop_16 : decode cX9_requireTop 16 = .ok (.athrow, 1) := by decide +kernel
theorem dX9_requireTop_17 : decode cX9_requireTop 17 = .ok (.return_, 1) := by decide +kernel
set_option maxRecDepth 20000 in
theorem ggX9_requireAccountLeft_Jx4a65c_size_8abf5 : GoodIn wsX9_requireAccountLeft wsJx4a65c_size_8abf5 := goodIn_r _ [9, 10, 20, 21, 22] (by decide +kernel) (by decide +kernel)
set_option maxRecDepth 20000 in
theorem gX9_requireAccountLeft_Jx4a65c_size_8abf5 : GoodIn wsX9_requireAccountLeft (wsV RX9 73 RJx4a65c yJx4a65c_size_8abf5 wsJx4a65c_size_8abf5) := goodIn_app (goodIn_of _ (by decide +kernel)) ggX9_requireAccountLeft_Jx4a65c_size_8abf5
theorem dX9_requireAccountLeft_0 : decode cX9_requireAccountLeft 0 = .ok (.aload_n 0, 1) := by decide +kernel
theorem dX9_requireAccountLeft_1 : decode cX9_requireAccountLeft 1 = .ok (.getfield 10, 3) := by decide +kernel
theorem dX9_requireAccountLeft_4 : decode cX9_requireAccountLeft 4 = .ok (.getfield 148, 3) := by decide +kernel
theorem dX9_requireAccountLeft_7 : decode cX9_requireAccountLeft 7 = .ok (.invokevirtual 73, 3) := by decide +kernel
theorem dX9_requireAccountLeft_10 : decode cX9_requireAccountLeft 10 = .ok (.bipush 10, 2) := by decide +kernel
theorem dX9_requireAccountLeft_12 : decode cX9_requireAccountLeft 12 = .ok (.if_icmp .lt 13, 3) := by decide +kernel
theorem dX9_requireAccountLeft_15 : decode cX9_requireAccountLeft 15 = .ok (.new 47, 3) := by decide +kernel
theorem dX9_requireAccountLeft_18 : decode cX9_requireAccountLeft 18 = .ok (.dup, 1) := by decide +kernel
theorem dX9_requireAccountLeft_19 : decode cX9_requireAccountLeft 19 = .ok (.ldc 221, 2) := by decide +kernel
theorem dX9_requireAccountLeft_21 : decode cX9_requireAccountLeft 21 = .ok (.invokespecial 51, 3) := by decide +kernel
theorem dX9_requireAccountLeft_24 : decode cX9_requireAccountLeft 24 = .ok (.athrow, 1) := by decide +kernel
theorem dX9_requireAccountLeft_25 : decode cX9_requireAccountLeft 25 = .ok (.return_, 1) := by decide +kernel
set_option maxRecDepth 20000 in
theorem ggX9_accountAt_Jx4a65c_size_8abf5 : GoodIn wsX9_accountAt wsJx4a65c_size_8abf5 := goodIn_r _ [10, 11, 38, 39, 40] (by decide +kernel) (by decide +kernel)
set_option maxRecDepth 20000 in
theorem gX9_accountAt_Jx4a65c_size_8abf5 : GoodIn wsX9_accountAt (wsV RX9 73 RJx4a65c yJx4a65c_size_8abf5 wsJx4a65c_size_8abf5) := goodIn_app (goodIn_of _ (by decide +kernel)) ggX9_accountAt_Jx4a65c_size_8abf5
set_option maxRecDepth 20000 in
theorem ggX9_accountAt_Jx4a65c_get_915e3 : GoodIn wsX9_accountAt wsJx4a65c_get_915e3 := goodIn_r _ [15, 11, 16, 17, 18, 19, 20, 21, 22, 23, 24, 25, 26, 9, 27, 28, 38, 39, 40] (by decide +kernel) (by decide +kernel)
set_option maxRecDepth 20000 in
theorem gX9_accountAt_Jx4a65c_get_915e3 : GoodIn wsX9_accountAt (wsV RX9 228 RJx4a65c yJx4a65c_get_915e3 wsJx4a65c_get_915e3) := goodIn_app (goodIn_of _ (by decide +kernel)) ggX9_accountAt_Jx4a65c_get_915e3
theorem dX9_accountAt_0 : decode cX9_accountAt 0 = .ok (.iload_n 1, 1) := by decide +kernel
theorem dX9_accountAt_1 : decode cX9_accountAt 1 = .ok (.ifCond .lt 17, 3) := by decide +kernel
theorem dX9_accountAt_4 : decode cX9_accountAt 4 = .ok (.iload_n 1, 1) := by decide +kernel
theorem dX9_accountAt_5 : decode cX9_accountAt 5 = .ok (.aload_n 0, 1) := by decide +kernel
theorem dX9_accountAt_6 : decode cX9_accountAt 6 = .ok (.getfield 10, 3) := by decide +kernel
theorem dX9_accountAt_9 : decode cX9_accountAt 9 = .ok (.getfield 148, 3) := by decide +kernel
theorem dX9_accountAt_12 : decode cX9_accountAt 12 = .ok (.invokevirtual 73, 3) := by decide +kernel
theorem dX9_accountAt_15 : decode cX9_accountAt 15 = .ok (.if_icmp .lt 13, 3) := by decide +kernel
theorem dX9_accountAt_18 : decode cX9_accountAt 18 = .ok (.new 223, 3) := by decide +kernel
theorem dX9_accountAt_21 : decode cX9_accountAt 21 = .ok (.dup, 1) := by decide +kernel
theorem dX9_accountAt_22 : decode cX9_accountAt 22 = .ok (.ldc 225, 2) := by decide +kernel
theorem dX9_accountAt_24 : decode cX9_accountAt 24 = .ok (.invokespecial 227, 3) := by decide +kernel
theorem dX9_accountAt_27 : decode cX9_accountAt 27 = .ok (.athrow, 1) := by decide +kernel
theorem dX9_accountAt_28 : decode cX9_accountAt 28 = .ok (.aload_n 0, 1) := by decide +kernel
theorem dX9_accountAt_29 : decode cX9_accountAt 29 = .ok (.getfield 10, 3) := by decide +kernel
theorem dX9_accountAt_32 : decode cX9_accountAt 32 = .ok (.getfield 148, 3) := by decide +kernel
theorem dX9_accountAt_35 : decode cX9_accountAt 35 = .ok (.iload_n 1, 1) := by decide +kernel
theorem dX9_accountAt_36 : decode cX9_accountAt 36 = .ok (.invokevirtual 228, 3) := by decide +kernel
theorem dX9_accountAt_39 : decode cX9_accountAt 39 = .ok (.checkcast 42, 3) := by decide +kernel
theorem dX9_accountAt_42 : decode cX9_accountAt 42 = .ok (.areturn, 1) := by decide +kernel
set_option maxRecDepth 20000 in
theorem ggX9_lineAt_Jx4a65c_size_8abf5 : GoodIn wsX9_lineAt wsJx4a65c_size_8abf5 := goodIn_r _ [10, 11, 38, 39, 40] (by decide +kernel) (by decide +kernel)
set_option maxRecDepth 20000 in
theorem gX9_lineAt_Jx4a65c_size_8abf5 : GoodIn wsX9_lineAt (wsV RX9 73 RJx4a65c yJx4a65c_size_8abf5 wsJx4a65c_size_8abf5) := goodIn_app (goodIn_of _ (by decide +kernel)) ggX9_lineAt_Jx4a65c_size_8abf5
set_option maxRecDepth 20000 in
theorem ggX9_lineAt_Jx4a65c_get_915e3 : GoodIn wsX9_lineAt wsJx4a65c_get_915e3 := goodIn_r _ [15, 11, 16, 17, 18, 19, 20, 21, 22, 23, 24, 25, 26, 9, 27, 28, 38, 39, 40] (by decide +kernel) (by decide +kernel)
set_option maxRecDepth 20000 in
theorem gX9_lineAt_Jx4a65c_get_915e3 : GoodIn wsX9_lineAt (wsV RX9 228 RJx4a65c yJx4a65c_get_915e3 wsJx4a65c_get_915e3) := goodIn_app (goodIn_of _ (by decide +kernel)) ggX9_lineAt_Jx4a65c_get_915e3
theorem dX9_lineAt_0 : decode cX9_lineAt 0 = .ok (.iload_n 1, 1) := by decide +kernel
theorem dX9_lineAt_1 : decode cX9_lineAt 1 = .ok (.ifCond .lt 17, 3) := by decide +kernel
theorem dX9_lineAt_4 : decode cX9_lineAt 4 = .ok (.iload_n 1, 1) := by decide +kernel
theorem dX9_lineAt_5 : decode cX9_lineAt 5 = .ok (.aload_n 0, 1) := by decide +kernel
theorem dX9_lineAt_6 : decode cX9_lineAt 6 = .ok (.getfield 10, 3) := by decide +kernel
theorem dX9_lineAt_9 : decode cX9_lineAt 9 = .ok (.getfield 69, 3) := by decide +kernel
theorem dX9_lineAt_12 : decode cX9_lineAt 12 = .ok (.invokevirtual 73, 3) := by decide +kernel
theorem dX9_lineAt_15 : decode cX9_lineAt 15 = .ok (.if_icmp .lt 13, 3) := by decide +kernel
theorem dX9_lineAt_18 : decode cX9_lineAt 18 = .ok (.new 223, 3) := by decide +kernel
theorem dX9_lineAt_21 : decode cX9_lineAt 21 = .ok (.dup, 1) := by decide +kernel
theorem dX9_lineAt_22 : decode cX9_lineAt 22 = .ok (.ldc 232, 2) := by decide +kernel
theorem dX9_lineAt_24 : decode cX9_lineAt 24 = .ok (.invokespecial 227, 3) := by decide +kernel
