theorem dX9_lineAt_27 : decode cX9_lineAt 27 = .ok (.athrow, 1) := by decide +kernel
theorem dX9_lineAt_28 : decode cX9_lineAt 28 = .ok (.aload_n 0, 1) := by decide +kernel
theorem dX9_lineAt_29 : decode cX9_lineAt 29 = .ok (.getfield 10, 3) := by decide +kernel
theorem dX9_lineAt_32 : decode cX9_lineAt 32 = .ok (.getfield 69, 3) := by decide +kernel
theorem dX9_lineAt_35 : decode cX9_lineAt 35 = .ok (.iload_n 1, 1) := by decide +kernel
theorem dX9_lineAt_36 : decode cX9_lineAt 36 = .ok (.invokevirtual 228, 3) := by decide +kernel
theorem dX9_lineAt_39 : decode cX9_lineAt 39 = .ok (.checkcast 177, 3) := by decide +kernel
theorem dX9_lineAt_42 : decode cX9_lineAt 42 = .ok (.areturn, 1) := by decide +kernel
set_option maxRecDepth 20000 in
theorem ggX9_flowAt_Jx4a65c_size_8abf5 : GoodIn wsX9_flowAt wsJx4a65c_size_8abf5 := goodIn_r _ [10, 11, 38, 39, 40] (by decide +kernel) (by decide +kernel)
set_option maxRecDepth 20000 in
theorem gX9_flowAt_Jx4a65c_size_8abf5 : GoodIn wsX9_flowAt (wsV RX9 73 RJx4a65c yJx4a65c_size_8abf5 wsJx4a65c_size_8abf5) := goodIn_app (goodIn_of _ (by decide +kernel)) ggX9_flowAt_Jx4a65c_size_8abf5
set_option maxRecDepth 20000 in
theorem ggX9_flowAt_Jx4a65c_get_915e3 : GoodIn wsX9_flowAt wsJx4a65c_get_915e3 := goodIn_r _ [15, 11, 16, 17, 18, 19, 20, 21, 22, 23, 24, 25, 26, 9, 27, 28, 38, 39, 40] (by decide +kernel) (by decide +kernel)
set_option maxRecDepth 20000 in
theorem gX9_flowAt_Jx4a65c_get_915e3 : GoodIn wsX9_flowAt (wsV RX9 228 RJx4a65c yJx4a65c_get_915e3 wsJx4a65c_get_915e3) := goodIn_app (goodIn_of _ (by decide +kernel)) ggX9_flowAt_Jx4a65c_get_915e3
theorem dX9_flowAt_0 : decode cX9_flowAt 0 = .ok (.iload_n 1, 1) := by decide +kernel
theorem dX9_flowAt_1 : decode cX9_flowAt 1 = .ok (.ifCond .lt 17, 3) := by decide +kernel
theorem dX9_flowAt_4 : decode cX9_flowAt 4 = .ok (.iload_n 1, 1) := by decide +kernel
theorem dX9_flowAt_5 : decode cX9_flowAt 5 = .ok (.aload_n 0, 1) := by decide +kernel
theorem dX9_flowAt_6 : decode cX9_flowAt 6 = .ok (.getfield 10, 3) := by decide +kernel
theorem dX9_flowAt_9 : decode cX9_flowAt 9 = .ok (.getfield 123, 3) := by decide +kernel
theorem dX9_flowAt_12 : decode cX9_flowAt 12 = .ok (.invokevirtual 73, 3) := by decide +kernel
theorem dX9_flowAt_15 : decode cX9_flowAt 15 = .ok (.if_icmp .lt 13, 3) := by decide +kernel
theorem dX9_flowAt_18 : decode cX9_flowAt 18 = .ok (.new 223, 3) := by decide +kernel
theorem dX9_flowAt_21 : decode cX9_flowAt 21 = .ok (.dup, 1) := by decide +kernel
theorem dX9_flowAt_22 : decode cX9_flowAt 22 = .ok (.ldc 234, 2) := by decide +kernel
theorem dX9_flowAt_24 : decode cX9_flowAt 24 = .ok (.invokespecial 227, 3) := by decide +kernel
theorem dX9_flowAt_27 : decode cX9_flowAt 27 = .ok (.athrow, 1) := by decide +kernel
theorem dX9_flowAt_28 : decode cX9_flowAt 28 = .ok (.aload_n 0, 1) := by decide +kernel
theorem dX9_flowAt_29 : decode cX9_flowAt 29 = .ok (.getfield 10, 3) := by decide +kernel
theorem dX9_flowAt_32 : decode cX9_flowAt 32 = .ok (.getfield 123, 3) := by decide +kernel
theorem dX9_flowAt_35 : decode cX9_flowAt 35 = .ok (.iload_n 1, 1) := by decide +kernel
theorem dX9_flowAt_36 : decode cX9_flowAt 36 = .ok (.invokevirtual 228, 3) := by decide +kernel
theorem dX9_flowAt_39 : decode cX9_flowAt 39 = .ok (.checkcast 128, 3) := by decide +kernel
theorem dX9_flowAt_42 : decode cX9_flowAt 42 = .ok (.areturn, 1) := by decide +kernel
set_option maxRecDepth 20000 in
theorem ggX9_bankAt_Jx4a65c_size_8abf5 : GoodIn wsX9_bankAt wsJx4a65c_size_8abf5 := goodIn_r _ [10, 11, 38, 39, 40] (by decide +kernel) (by decide +kernel)
set_option maxRecDepth 20000 in
theorem gX9_bankAt_Jx4a65c_size_8abf5 : GoodIn wsX9_bankAt (wsV RX9 73 RJx4a65c yJx4a65c_size_8abf5 wsJx4a65c_size_8abf5) := goodIn_app (goodIn_of _ (by decide +kernel)) ggX9_bankAt_Jx4a65c_size_8abf5
set_option maxRecDepth 20000 in
theorem ggX9_bankAt_Jx4a65c_get_915e3 : GoodIn wsX9_bankAt wsJx4a65c_get_915e3 := goodIn_r _ [15, 11, 16, 17, 18, 19, 20, 21, 22, 23, 24, 25, 26, 9, 27, 28, 38, 39, 40] (by decide +kernel) (by decide +kernel)
set_option maxRecDepth 20000 in
theorem gX9_bankAt_Jx4a65c_get_915e3 : GoodIn wsX9_bankAt (wsV RX9 228 RJx4a65c yJx4a65c_get_915e3 wsJx4a65c_get_915e3) := goodIn_app (goodIn_of _ (by decide +kernel)) ggX9_bankAt_Jx4a65c_get_915e3
theorem dX9_bankAt_0 : decode cX9_bankAt 0 = .ok (.iload_n 1, 1) := by decide +kernel
theorem dX9_bankAt_1 : decode cX9_bankAt 1 = .ok (.ifCond .lt 17, 3) := by decide +kernel
theorem dX9_bankAt_4 : decode cX9_bankAt 4 = .ok (.iload_n 1, 1) := by decide +kernel
theorem dX9_bankAt_5 : decode cX9_bankAt 5 = .ok (.aload_n 0, 1) := by decide +kernel
theorem dX9_bankAt_6 : decode cX9_bankAt 6 = .ok (.getfield 10, 3) := by decide +kernel
theorem dX9_bankAt_9 : decode cX9_bankAt 9 = .ok (.getfield 236, 3) := by decide +kernel
theorem dX9_bankAt_12 : decode cX9_bankAt 12 = .ok (.invokevirtual 73, 3) := by decide +kernel
theorem dX9_bankAt_15 : decode cX9_bankAt 15 = .ok (.if_icmp .lt 13, 3) := by decide +kernel
theorem dX9_bankAt_18 : decode cX9_bankAt 18 = .ok (.new 212, 3) := by decide +kernel
theorem dX9_bankAt_21 : decode cX9_bankAt 21 = .ok (.dup, 1) := by decide +kernel
theorem dX9_bankAt_22 : decode cX9_bankAt 22 = .ok (.ldc 239, 2) := by decide +kernel
theorem dX9_bankAt_24 : decode cX9_bankAt 24 = .ok (.invokespecial 216, 3) := by decide +kernel
theorem dX9_bankAt_27 : decode cX9_bankAt 27 = .ok (.athrow, 1) := by decide +kernel
theorem dX9_bankAt_28 : decode cX9_bankAt 28 = .ok (.aload_n 0, 1) := by decide +kernel
theorem dX9_bankAt_29 : decode cX9_bankAt 29 = .ok (.getfield 10, 3) := by decide +kernel
theorem dX9_bankAt_32 : decode cX9_bankAt 32 = .ok (.getfield 236, 3) := by decide +kernel
theorem dX9_bankAt_35 : decode cX9_bankAt 35 = .ok (.iload_n 1, 1) := by decide +kernel
theorem dX9_bankAt_36 : decode cX9_bankAt 36 = .ok (.invokevirtual 228, 3) := by decide +kernel
theorem dX9_bankAt_39 : decode cX9_bankAt 39 = .ok (.checkcast 87, 3) := by decide +kernel
theorem dX9_bankAt_42 : decode cX9_bankAt 42 = .ok (.areturn, 1) := by decide +kernel
theorem dJ9_max_7cf53_0 : decode cJ9_max_7cf53 0 = .ok (.iload_n 0, 1) := by decide +kernel
theorem dJ9_max_7cf53_1 : decode cJ9_max_7cf53 1 = .ok (.iload_n 1, 1) := by decide +kernel
theorem dJ9_max_7cf53_2 : decode cJ9_max_7cf53 2 = .ok (.if_icmp .lt 7, 3) := by decide +kernel
theorem dJ9_max_7cf53_5 : decode cJ9_max_7cf53 5 = .ok (.iload_n 0, 1) := by decide +kernel
theorem dJ9_max_7cf53_6 : decode cJ9_max_7cf53 6 = .ok (.goto 4, 3) := by decide +kernel
theorem dJ9_max_7cf53_9 : decode cJ9_max_7cf53 9 = .ok (.iload_n 1, 1) := by decide +kernel
theorem dJ9_max_7cf53_10 : decode cJ9_max_7cf53 10 = .ok (.ireturn, 1) := by decide +kernel
theorem dJ9_max_f86c9_0 : decode cJ9_max_f86c9 0 = .ok (.lload_n 0, 1) := by decide +kernel
theorem dJ9_max_f86c9_1 : decode cJ9_max_f86c9 1 = .ok (.lload_n 2, 1) := by decide +kernel
theorem dJ9_max_f86c9_2 : decode cJ9_max_f86c9 2 = .ok (.lcmp, 1) := by decide +kernel
theorem dJ9_max_f86c9_3 : decode cJ9_max_f86c9 3 = .ok (.ifCond .lt 7, 3) := by decide +kernel
theorem dJ9_max_f86c9_6 : decode cJ9_max_f86c9 6 = .ok (.lload_n 0, 1) := by decide +kernel
theorem dJ9_max_f86c9_7 : decode cJ9_max_f86c9 7 = .ok (.goto 4, 3) := by decide +kernel
theorem dJ9_max_f86c9_10 : decode cJ9_max_f86c9 10 = .ok (.lload_n 2, 1) := by decide +kernel
theorem dJ9_max_f86c9_11 : decode cJ9_max_f86c9 11 = .ok (.lreturn, 1) := by decide +kernel
theorem dJ9_min_7cf53_0 : decode cJ9_min_7cf53 0 = .ok (.iload_n 0, 1) := by decide +kernel
theorem dJ9_min_7cf53_1 : decode cJ9_min_7cf53 1 = .ok (.iload_n 1, 1) := by decide +kernel
theorem dJ9_min_7cf53_2 : decode cJ9_min_7cf53 2 = .ok (.if_icmp .gt 7, 3) := by decide +kernel
theorem dJ9_min_7cf53_5 : decode cJ9_min_7cf53 5 = .ok (.iload_n 0, 1) := by decide +kernel
theorem dJ9_min_7cf53_6 : decode cJ9_min_7cf53 6 = .ok (.goto 4, 3) := by decide +kernel
theorem dJ9_min_7cf53_9 : decode cJ9_min_7cf53 9 = .ok (.iload_n 1, 1) := by decide +kernel
theorem dJ9_min_7cf53_10 : decode cJ9_min_7cf53 10 = .ok (.ireturn, 1) := by decide +kernel
theorem dJ9_min_f86c9_0 : decode cJ9_min_f86c9 0 = .ok (.lload_n 0, 1) := by decide +kernel
theorem dJ9_min_f86c9_1 : decode cJ9_min_f86c9 1 = .ok (.lload_n 2, 1) := by decide +kernel
theorem dJ9_min_f86c9_2 : decode cJ9_min_f86c9 2 = .ok (.lcmp, 1) := by decide +kernel
theorem dJ9_min_f86c9_3 : decode cJ9_min_f86c9 3 = .ok (.ifCond .gt 7, 3) := by decide +kernel
theorem dJ9_min_f86c9_6 : decode cJ9_min_f86c9 6 = .ok (.lload_n 0, 1) := by decide +kernel
theorem dJ9_min_f86c9_7 : decode cJ9_min_f86c9 7 = .ok (.goto 4, 3) := by decide +kernel
theorem dJ9_min_f86c9_10 : decode cJ9_min_f86c9 10 = .ok (.lload_n 2, 1) := by decide +kernel
theorem dJ9_min_f86c9_11 : decode cJ9_min_f86c9 11 = .ok (.lreturn, 1) := by decide +kernel
theorem dJxa1e45_init_da8c8_0 : decode cJxa1e45_init_da8c8 0 = .ok (.aload_n 0, 1) := by decide +kernel
theorem dJxa1e45_init_da8c8_1 : decode cJxa1e45_init_da8c8 1 = .ok (.invokespecial 1, 3) := by decide +kernel
theorem dJxa1e45_init_da8c8_4 : decode cJxa1e45_init_da8c8 4 = .ok (.return_, 1) := by decide +kernel
set_option maxRecDepth 20000 in
theorem ggJxc12de_init_da8c8_Jxa1e45_init_da8c8 : GoodIn wsJxc12de_init_da8c8 wsJxa1e45_init_da8c8 := goodIn_r _ [5, 6, 7, 8] (by decide +kernel) (by decide +kernel)
set_option maxRecDepth 20000 in
theorem gJxc12de_init_da8c8_Jxa1e45_init_da8c8 : GoodIn wsJxc12de_init_da8c8 (wsJxa1e45_init_da8c8) := ggJxc12de_init_da8c8_Jxa1e45_init_da8c8
theorem dJxc12de_init_da8c8_0 : decode cJxc12de_init_da8c8 0 = .ok (.aload_n 0, 1) := by decide +kernel
theorem dJxc12de_init_da8c8_1 : decode cJxc12de_init_da8c8 1 = .ok (.invokespecial 1, 3) := by decide +kernel
theorem dJxc12de_init_da8c8_4 : decode cJxc12de_init_da8c8 4 = .ok (.aload_n 0, 1) := by decide +kernel
theorem dJxc12de_init_da8c8_5 : decode cJxc12de_init_da8c8 5 = .ok (.iconst 0, 1) := by decide +kernel
theorem dJxc12de_init_da8c8_6 : decode cJxc12de_init_da8c8 6 = .ok (.putfield 7, 3) := by decide +kernel
theorem dJxc12de_init_da8c8_9 : decode cJxc12de_init_da8c8 9 = .ok (.return_, 1) := by decide +kernel
set_option maxRecDepth 20000 in
theorem ggJx4a65c_init_da8c8_Jxc12de_init_da8c8 : GoodIn wsJx4a65c_init_da8c8 wsJxc12de_init_da8c8 := goodIn_r _ [6, 7, 8, 9, 10, 11, 12, 13, 14, 15, 16, 17] (by decide +kernel) (by decide +kernel)
set_option maxRecDepth 20000 in
theorem gJx4a65c_init_da8c8_Jxc12de_init_da8c8 : GoodIn wsJx4a65c_init_da8c8 (wsJxc12de_init_da8c8) := ggJx4a65c_init_da8c8_Jxc12de_init_da8c8
theorem dJx4a65c_init_da8c8_0 : decode cJx4a65c_init_da8c8 0 = .ok (.aload_n 0, 1) := by decide +kernel
theorem dJx4a65c_init_da8c8_1 : decode cJx4a65c_init_da8c8 1 = .ok (.invokespecial 1, 3) := by decide +kernel
theorem dJx4a65c_init_da8c8_4 : decode cJx4a65c_init_da8c8 4 = .ok (.aload_n 0, 1) := by decide +kernel
theorem dJx4a65c_init_da8c8_5 : decode cJx4a65c_init_da8c8 5 = .ok (.getstatic 39, 3) := by decide +kernel
theorem dJx4a65c_init_da8c8_8 : decode cJx4a65c_init_da8c8 8 = .ok (.putfield 9, 3) := by decide +kernel
theorem dJx4a65c_init_da8c8_11 : decode cJx4a65c_init_da8c8 11 = .ok (.return_, 1) := by decide +kernel
set_option maxRecDepth 20000 in
theorem ggJx4a65c_grow_92f84_J8_newLength_cabcc : GoodIn wsJx4a65c_grow_92f84 wsJ8_newLength_cabcc := goodIn_r _ [11, 12, 4, 5, 6, 13, 14, 15, 10, 16] (by decide +kernel) (by decide +kernel)
set_option maxRecDepth 20000 in
theorem gJx4a65c_grow_92f84_J8_newLength_cabcc : GoodIn wsJx4a65c_grow_92f84 (va_wsS RJx4a65c 73 yJ8_newLength_cabcc wsJ8_newLength_cabcc) := goodIn_app (goodIn_of _ (by decide +kernel)) ggJx4a65c_grow_92f84_J8_newLength_cabcc
set_option maxRecDepth 20000 in
theorem ggJx4a65c_grow_92f84_J7_copyOf_1904c : GoodIn wsJx4a65c_grow_92f84 wsJ7_copyOf_1904c := goodIn_r _ [20, 21, 22, 23, 24, 25, 26, 19, 27, 28, 29, 30, 31, 5, 32, 33, 34, 35, 36] (by decide +kernel) (by decide +kernel)
set_option maxRecDepth 20000 in
theorem gJx4a65c_grow_92f84_J7_copyOf_1904c : GoodIn wsJx4a65c_grow_92f84 (va_wsS RJx4a65c 66 yJ7_copyOf_1904c wsJ7_copyOf_1904c) := goodIn_app (goodIn_of _ (by decide +kernel)) ggJx4a65c_grow_92f84_J7_copyOf_1904c
theorem dJx4a65c_grow_92f84_0 : decode cJx4a65c_grow_92f84 0 = .ok (.aload_n 0, 1) := by decide +kernel
theorem dJx4a65c_grow_92f84_1 : decode cJx4a65c_grow_92f84 1 = .ok (.getfield 9, 3) := by decide +kernel
theorem dJx4a65c_grow_92f84_4 : decode cJx4a65c_grow_92f84 4 = .ok (.arraylength, 1) := by decide +kernel
theorem dJx4a65c_grow_92f84_5 : decode cJx4a65c_grow_92f84 5 = .ok (.istore_n 2, 1) := by decide +kernel
theorem dJx4a65c_grow_92f84_6 : decode cJx4a65c_grow_92f84 6 = .ok (.iload_n 2, 1) := by decide +kernel
theorem dJx4a65c_grow_92f84_7 : decode cJx4a65c_grow_92f84 7 = .ok (.ifCond .gt 13, 3) := by decide +kernel
theorem dJx4a65c_grow_92f84_10 : decode cJx4a65c_grow_92f84 10 = .ok (.aload_n 0, 1) := by decide +kernel
theorem dJx4a65c_grow_92f84_11 : decode cJx4a65c_grow_92f84 11 = .ok (.getfield 9, 3) := by decide +kernel
theorem dJx4a65c_grow_92f84_14 : decode cJx4a65c_grow_92f84 14 = .ok (.getstatic 39, 3) := by decide +kernel
theorem dJx4a65c_grow_92f84_17 : decode cJx4a65c_grow_92f84 17 = .ok (.if_acmp .eq 28, 3) := by decide +kernel
theorem dJx4a65c_grow_92f84_20 : decode cJx4a65c_grow_92f84 20 = .ok (.iload_n 2, 1) := by decide +kernel
theorem dJx4a65c_grow_92f84_21 : decode cJx4a65c_grow_92f84 21 = .ok (.iload_n 1, 1) := by decide +kernel
theorem dJx4a65c_grow_92f84_22 : decode cJx4a65c_grow_92f84 22 = .ok (.iload_n 2, 1) := by decide +kernel
theorem dJx4a65c_grow_92f84_23 : decode cJx4a65c_grow_92f84 23 = .ok (.isub, 1) := by decide +kernel
theorem dJx4a65c_grow_92f84_24 : decode cJx4a65c_grow_92f84 24 = .ok (.iload_n 2, 1) := by decide +kernel
theorem dJx4a65c_grow_92f84_25 : decode cJx4a65c_grow_92f84 25 = .ok (.iconst 1, 1) := by decide +kernel
theorem dJx4a65c_grow_92f84_26 : decode cJx4a65c_grow_92f84 26 = .ok (.ishr, 1) := by decide +kernel
theorem dJx4a65c_grow_92f84_27 : decode cJx4a65c_grow_92f84 27 = .ok (.invokestatic 73, 3) := by decide +kernel
theorem dJx4a65c_grow_92f84_30 : decode cJx4a65c_grow_92f84 30 = .ok (.istore_n 3, 1) := by decide +kernel
theorem dJx4a65c_grow_92f84_31 : decode cJx4a65c_grow_92f84 31 = .ok (.aload_n 0, 1) := by decide +kernel
theorem dJx4a65c_grow_92f84_32 : decode cJx4a65c_grow_92f84 32 = .ok (.aload_n 0, 1) := by decide +kernel
theorem dJx4a65c_grow_92f84_33 : decode cJx4a65c_grow_92f84 33 = .ok (.getfield 9, 3) := by decide +kernel
theorem dJx4a65c_grow_92f84_36 : decode cJx4a65c_grow_92f84 36 = .ok (.iload_n 3, 1) := by decide +kernel
theorem dJx4a65c_grow_92f84_37 : decode cJx4a65c_grow_92f84 37 = .ok (.invokestatic 66, 3) := by decide +kernel
theorem dJx4a65c_grow_92f84_40 : decode cJx4a65c_grow_92f84 40 = .ok (.dup_x1, 1) := by decide +kernel
theorem dJx4a65c_grow_92f84_41 : decode cJx4a65c_grow_92f84 41 = .ok (.putfield 9, 3) := by decide +kernel
theorem dJx4a65c_grow_92f84_44 : decode cJx4a65c_grow_92f84 44 = .ok (.areturn, 1) := by decide +kernel
theorem dJx4a65c_grow_92f84_45 : decode cJx4a65c_grow_92f84 45 = .ok (.aload_n 0, 1) := by decide +kernel
theorem dJx4a65c_grow_92f84_46 : decode cJx4a65c_grow_92f84 46 = .ok (.bipush 10, 2) := by decide +kernel
theorem dJx4a65c_grow_92f84_48 : decode cJx4a65c_grow_92f84 48 = .ok (.iload_n 1, 1) := by decide +kernel
theorem dJx4a65c_grow_92f84_49 : decode cJx4a65c_grow_92f84 49 = .ok (.invokestatic 79, 3) := by decide +kernel
theorem dJx4a65c_grow_92f84_52 : decode cJx4a65c_grow_92f84 52 = .ok (.anewarray 7, 3) := by decide +kernel
theorem dJx4a65c_grow_92f84_55 : decode cJx4a65c_grow_92f84 55 = .ok (.dup_x1, 1) := by decide +kernel
theorem dJx4a65c_grow_92f84_56 : decode cJx4a65c_grow_92f84 56 = .ok (.putfield 9, 3) := by decide +kernel
theorem dJx4a65c_grow_92f84_59 : decode cJx4a65c_grow_92f84 59 = .ok (.areturn, 1) := by decide +kernel
set_option maxRecDepth 20000 in
theorem ggJx4a65c_grow_d5877_Jx4a65c_grow_92f84 : GoodIn wsJx4a65c_grow_d5877 wsJx4a65c_grow_92f84 := goodIn_r _ [6, 7, 8, 9, 10, 11, 12, 13, 14, 15, 16, 17, 18, 19, 20, 21, 22, 23, 24, 25, 26, 27, 28, 29, 30, 31, 32, 33, 34, 35, 36, 37, 38, 39, 40, 41, 42, 43, 44, 45] (by decide +kernel) (by decide +kernel)
set_option maxRecDepth 20000 in
theorem gJx4a65c_grow_d5877_Jx4a65c_grow_92f84 : GoodIn wsJx4a65c_grow_d5877 (wsV RJx4a65c 69 RJx4a65c yJx4a65c_grow_92f84 wsJx4a65c_grow_92f84) := goodIn_app (goodIn_of _ (by decide +kernel)) ggJx4a65c_grow_d5877_Jx4a65c_grow_92f84
theorem dJx4a65c_grow_d5877_0 : decode cJx4a65c_grow_d5877 0 = .ok (.aload_n 0, 1) := by decide +kernel
theorem dJx4a65c_grow_d5877_1 : decode cJx4a65c_grow_d5877 1 = .ok (.aload_n 0, 1) := by decide +kernel
theorem dJx4a65c_grow_d5877_2 : decode cJx4a65c_grow_d5877 2 = .ok (.getfield 48, 3) := by decide +kernel
theorem dJx4a65c_grow_d5877_5 : decode cJx4a65c_grow_d5877 5 = .ok (.iconst 1, 1) := by decide +kernel
theorem dJx4a65c_grow_d5877_6 : decode cJx4a65c_grow_d5877 6 = .ok (.iadd, 1) := by decide +kernel
theorem dJx4a65c_grow_d5877_7 : decode cJx4a65c_grow_d5877 7 = .ok (.invokevirtual 69, 3) := by decide +kernel
theorem dJx4a65c_grow_d5877_10 : decode cJx4a65c_grow_d5877 10 = .ok (.areturn, 1) := by decide +kernel
theorem dJx4a65c_size_8abf5_0 : decode cJx4a65c_size_8abf5 0 = .ok (.aload_n 0, 1) := by decide +kernel
theorem dJx4a65c_size_8abf5_1 : decode cJx4a65c_size_8abf5 1 = .ok (.getfield 48, 3) := by decide +kernel
theorem dJx4a65c_size_8abf5_4 : decode cJx4a65c_size_8abf5 4 = .ok (.ireturn, 1) := by decide +kernel
theorem dJx4a65c_elementData_915e3_0 : decode cJx4a65c_elementData_915e3 0 = .ok (.aload_n 0, 1) := by decide +kernel
theorem dJx4a65c_elementData_915e3_1 : decode cJx4a65c_elementData_915e3 1 = .ok (.getfield 9, 3) := by decide +kernel
theorem dJx4a65c_elementData_915e3_4 : decode cJx4a65c_elementData_915e3 4 = .ok (.iload_n 1, 1) := by decide +kernel
theorem dJx4a65c_elementData_915e3_5 : decode cJx4a65c_elementData_915e3 5 = .ok (.aaload, 1) := by decide +kernel
theorem dJx4a65c_elementData_915e3_6 : decode cJx4a65c_elementData_915e3 6 = .ok (.areturn, 1) := by decide +kernel
set_option maxRecDepth 20000 in
theorem ggJx4a65c_get_915e3_J15_checkIndex_7cf53 : GoodIn wsJx4a65c_get_915e3 wsJ15_checkIndex_7cf53 := goodIn_r _ [5, 6, 7, 8, 9] (by decide +kernel) (by decide +kernel)
set_option maxRecDepth 20000 in
theorem gJx4a65c_get_915e3_J15_checkIndex_7cf53 : GoodIn wsJx4a65c_get_915e3 (va_wsS RJx4a65c 118 yJ15_checkIndex_7cf53 wsJ15_checkIndex_7cf53) := goodIn_app (goodIn_of _ (by decide +kernel)) ggJx4a65c_get_915e3_J15_checkIndex_7cf53
set_option maxRecDepth 20000 in
theorem ggJx4a65c_get_915e3_Jx4a65c_elementData_915e3 : GoodIn wsJx4a65c_get_915e3 wsJx4a65c_elementData_915e3 := goodIn_r _ [14, 15, 16, 17, 18] (by decide +kernel) (by decide +kernel)
set_option maxRecDepth 20000 in
theorem gJx4a65c_get_915e3_Jx4a65c_elementData_915e3 : GoodIn wsJx4a65c_get_915e3 (wsV RJx4a65c 123 RJx4a65c yJx4a65c_elementData_915e3 wsJx4a65c_elementData_915e3) := goodIn_app (goodIn_of _ (by decide +kernel)) ggJx4a65c_get_915e3_Jx4a65c_elementData_915e3
theorem dJx4a65c_get_915e3_0 : decode cJx4a65c_get_915e3 0 = .ok (.iload_n 1, 1) := by decide +kernel
theorem dJx4a65c_get_915e3_1 : decode cJx4a65c_get_915e3 1 = .ok (.aload_n 0, 1) := by decide +kernel
theorem dJx4a65c_get_915e3_2 : decode cJx4a65c_get_915e3 2 = .ok (.getfield 48, 3) := by decide +kernel
theorem dJx4a65c_get_915e3_5 : decode cJx4a65c_get_915e3 5 = .ok (.invokestatic 118, 3) := by decide +kernel
theorem dJx4a65c_get_915e3_8 : decode cJx4a65c_get_915e3 8 = .ok (.pop, 1) := by decide +kernel
theorem dJx4a65c_get_915e3_9 : decode cJx4a65c_get_915e3 9 = .ok (.aload_n 0, 1) := by decide +kernel
theorem dJx4a65c_get_915e3_10 : decode cJx4a65c_get_915e3 10 = .ok (.iload_n 1, 1) := by decide +kernel
theorem dJx4a65c_get_915e3_11 : decode cJx4a65c_get_915e3 11 = .ok (.invokevirtual 123, 3) := by decide +kernel
theorem dJx4a65c_get_915e3_14 : decode cJx4a65c_get_915e3 14 = .ok (.areturn, 1) := by decide +kernel
set_option maxRecDepth 20000 in
theorem ggJx4a65c_add_72be8_Jx4a65c_grow_d5877 : GoodIn wsJx4a65c_add_72be8 wsJx4a65c_grow_d5877 := goodIn_r _ [6, 1, 7, 8, 9, 5, 10, 11, 12, 13, 14, 15, 16, 17, 18, 19, 20, 21, 22, 23, 24, 25, 26, 27, 28, 29, 30, 31, 32, 33, 34, 35, 36, 37, 38, 39, 40, 41, 42, 43, 44, 45, 46, 47, 48, 49] (by decide +kernel) (by decide +kernel)
set_option maxRecDepth 20000 in
theorem gJx4a65c_add_72be8_Jx4a65c_grow_d5877 : GoodIn wsJx4a65c_add_72be8 (wsV RJx4a65c 129 RJx4a65c yJx4a65c_grow_d5877 wsJx4a65c_grow_d5877) := goodIn_app (goodIn_of _ (by decide +kernel)) ggJx4a65c_add_72be8_Jx4a65c_grow_d5877
theorem dJx4a65c_add_72be8_0 : decode cJx4a65c_add_72be8 0 = .ok (.iload_n 3, 1) := by decide +kernel
theorem dJx4a65c_add_72be8_1 : decode cJx4a65c_add_72be8 1 = .ok (.aload_n 2, 1) := by decide +kernel
theorem dJx4a65c_add_72be8_2 : decode cJx4a65c_add_72be8 2 = .ok (.arraylength, 1) := by decide +kernel
theorem dJx4a65c_add_72be8_3 : decode cJx4a65c_add_72be8 3 = .ok (.if_icmp .ne 8, 3) := by decide +kernel
theorem dJx4a65c_add_72be8_6 : decode cJx4a65c_add_72be8 6 = .ok (.aload_n 0, 1) := by decide +kernel
theorem dJx4a65c_add_72be8_7 : decode cJx4a65c_add_72be8 7 = .ok (.invokevirtual 129, 3) := by decide +kernel
theorem dJx4a65c_add_72be8_10 : decode cJx4a65c_add_72be8 10 = .ok (.astore_n 2, 1) := by decide +kernel
theorem dJx4a65c_add_72be8_11 : decode cJx4a65c_add_72be8 11 = .ok (.aload_n 2, 1) := by decide +kernel
theorem dJx4a65c_add_72be8_12 : decode cJx4a65c_add_72be8 12 = .ok (.iload_n 3, 1) := by decide +kernel
theorem dJx4a65c_add_72be8_13 : decode cJx4a65c_add_72be8 13 = .ok (.aload_n 1, 1) := by decide +kernel
theorem dJx4a65c_add_72be8_14 : decode cJx4a65c_add_72be8 14 = .ok (.aastore, 1) := by decide +kernel
theorem dJx4a65c_add_72be8_15 : decode cJx4a65c_add_72be8 15 = .ok (.aload_n 0, 1) := by decide +kernel
theorem dJx4a65c_add_72be8_16 : decode cJx4a65c_add_72be8 16 = .ok (.iload_n 3, 1) := by decide +kernel
theorem dJx4a65c_add_72be8_17 : decode cJx4a65c_add_72be8 17 = .ok (.iconst 1, 1) := by decide +kernel
theorem dJx4a65c_add_72be8_18 : decode cJx4a65c_add_72be8 18 = .ok (.iadd, 1) := by decide +kernel
theorem dJx4a65c_add_72be8_19 : decode cJx4a65c_add_72be8 19 = .ok (.putfield 48, 3) := by decide +kernel
theorem dJx4a65c_add_72be8_22 : decode cJx4a65c_add_72be8 22 = .ok (.return_, 1) := by decide +kernel
set_option maxRecDepth 20000 in
theorem ggJx4a65c_add_9ea2d_Jx4a65c_add_72be8 : GoodIn wsJx4a65c_add_9ea2d wsJx4a65c_add_72be8 := goodIn_r _ [9, 4, 10, 11, 12, 8, 13, 14, 15, 16, 17, 3, 18, 19, 20, 21, 22, 23, 24, 25, 26, 27, 28, 29, 30, 31, 32, 33, 34, 35, 36, 37, 38, 39, 40, 41, 42, 43, 44, 45, 46, 47, 48, 49, 50, 51, 52, 53, 54, 55] (by decide +kernel) (by decide +kernel)
set_option maxRecDepth 20000 in
theorem gJx4a65c_add_9ea2d_Jx4a65c_add_72be8 : GoodIn wsJx4a65c_add_9ea2d (wsV RJx4a65c 131 RJx4a65c yJx4a65c_add_72be8 wsJx4a65c_add_72be8) := goodIn_app (goodIn_of _ (by decide +kernel)) ggJx4a65c_add_9ea2d_Jx4a65c_add_72be8
theorem dJx4a65c_add_9ea2d_0 : decode cJx4a65c_add_9ea2d 0 = .ok (.aload_n 0, 1) := by decide +kernel
theorem dJx4a65c_add_9ea2d_1 : decode cJx4a65c_add_9ea2d 1 = .ok (.dup, 1) := by decide +kernel
theorem dJx4a65c_add_9ea2d_2 : decode cJx4a65c_add_9ea2d 2 = .ok (.getfield 63, 3) := by decide +kernel
theorem dJx4a65c_add_9ea2d_5 : decode cJx4a65c_add_9ea2d 5 = .ok (.iconst 1, 1) := by decide +kernel
theorem dJx4a65c_add_9ea2d_6 : decode cJx4a65c_add_9ea2d 6 = .ok (.iadd, 1) := by decide +kernel
theorem dJx4a65c_add_9ea2d_7 : decode cJx4a65c_add_9ea2d 7 = .ok (.putfield 63, 3) := by decide +kernel
theorem dJx4a65c_add_9ea2d_10 : decode cJx4a65c_add_9ea2d 10 = .ok (.aload_n 0, 1) := by decide +kernel
theorem dJx4a65c_add_9ea2d_11 : decode cJx4a65c_add_9ea2d 11 = .ok (.aload_n 1, 1) := by decide +kernel
theorem dJx4a65c_add_9ea2d_12 : decode cJx4a65c_add_9ea2d 12 = .ok (.aload_n 0, 1) := by decide +kernel
theorem dJx4a65c_add_9ea2d_13 : decode cJx4a65c_add_9ea2d 13 = .ok (.getfield 9, 3) := by decide +kernel
theorem dJx4a65c_add_9ea2d_16 : decode cJx4a65c_add_9ea2d 16 = .ok (.aload_n 0, 1) := by decide +kernel
theorem dJx4a65c_add_9ea2d_17 : decode cJx4a65c_add_9ea2d 17 = .ok (.getfield 48, 3) := by decide +kernel
theorem dJx4a65c_add_9ea2d_20 : decode cJx4a65c_add_9ea2d 20 = .ok (.invokevirtual 131, 3) := by decide +kernel
theorem dJx4a65c_add_9ea2d_23 : decode cJx4a65c_add_9ea2d 23 = .ok (.iconst 1, 1) := by decide +kernel
theorem dJx4a65c_add_9ea2d_24 : decode cJx4a65c_add_9ea2d 24 = .ok (.ireturn, 1) := by decide +kernel
set_option maxRecDepth 20000 in
theorem ggJx4a65c_add_7a177_Jx4a65c_rangeCheckForAdd_d00df : GoodIn wsJx4a65c_add_7a177 wsJx4a65c_rangeCheckForAdd_d00df := goodIn_r _ [13, 3, 54, 55, 56] (by decide +kernel) (by decide +kernel)
set_option maxRecDepth 20000 in
theorem gJx4a65c_add_7a177_Jx4a65c_rangeCheckForAdd_d00df : GoodIn wsJx4a65c_add_7a177 (wsV RJx4a65c 135 RJx4a65c yJx4a65c_rangeCheckForAdd_d00df wsJx4a65c_rangeCheckForAdd_d00df) := goodIn_app (goodIn_of _ (by decide +kernel)) ggJx4a65c_add_7a177_Jx4a65c_rangeCheckForAdd_d00df
set_option maxRecDepth 20000 in
theorem ggJx4a65c_add_7a177_Jx4a65c_grow_d5877 : GoodIn wsJx4a65c_add_7a177 wsJx4a65c_grow_d5877 := goodIn_r _ [17, 3, 18, 19, 20, 12, 21, 4, 22, 23, 24, 25, 26, 27, 28, 29, 30, 31, 32, 33, 34, 35, 36, 37, 38, 39, 40, 41, 42, 43, 44, 45, 46, 47, 48, 49, 50, 51, 52, 53, 6, 7, 8, 54, 55, 56] (by decide +kernel) (by decide +kernel)
set_option maxRecDepth 20000 in
theorem gJx4a65c_add_7a177_Jx4a65c_grow_d5877 : GoodIn wsJx4a65c_add_7a177 (wsV RJx4a65c 129 RJx4a65c yJx4a65c_grow_d5877 wsJx4a65c_grow_d5877) := goodIn_app (goodIn_of _ (by decide +kernel)) ggJx4a65c_add_7a177_Jx4a65c_grow_d5877
theorem dJx4a65c_add_7a177_0 : decode cJx4a65c_add_7a177 0 = .ok (.aload_n 0, 1) := by decide +kernel
theorem dJx4a65c_add_7a177_1 : decode cJx4a65c_add_7a177 1 = .ok (.iload_n 1, 1) := by decide +kernel
theorem dJx4a65c_add_7a177_2 : decode cJx4a65c_add_7a177 2 = .ok (.invokevirtual 135, 3) := by decide +kernel
theorem dJx4a65c_add_7a177_5 : decode cJx4a65c_add_7a177 5 = .ok (.aload_n 0, 1) := by decide +kernel
theorem dJx4a65c_add_7a177_6 : decode cJx4a65c_add_7a177 6 = .ok (.dup, 1) := by decide +kernel
theorem dJx4a65c_add_7a177_7 : decode cJx4a65c_add_7a177 7 = .ok (.getfield 63, 3) := by decide +kernel
theorem dJx4a65c_add_7a177_10 : decode cJx4a65c_add_7a177 10 = .ok (.iconst 1, 1) := by decide +kernel
theorem dJx4a65c_add_7a177_11 : decode cJx4a65c_add_7a177 11 = .ok (.iadd, 1) := by decide +kernel
theorem dJx4a65c_add_7a177_12 : decode cJx4a65c_add_7a177 12 = .ok (.putfield 63, 3) := by decide +kernel
theorem dJx4a65c_add_7a177_15 : decode cJx4a65c_add_7a177 15 = .ok (.aload_n 0, 1) := by decide +kernel
theorem dJx4a65c_add_7a177_16 : decode cJx4a65c_add_7a177 16 = .ok (.getfield 48, 3) := by decide +kernel
theorem dJx4a65c_add_7a177_19 : decode cJx4a65c_add_7a177 19 = .ok (.dup, 1) := by decide +kernel
theorem dJx4a65c_add_7a177_20 : decode cJx4a65c_add_7a177 20 = .ok (.istore_n 3, 1) := by decide +kernel
theorem dJx4a65c_add_7a177_21 : decode cJx4a65c_add_7a177 21 = .ok (.aload_n 0, 1) := by decide +kernel
theorem dJx4a65c_add_7a177_22 : decode cJx4a65c_add_7a177 22 = .ok (.getfield 9, 3) := by decide +kernel
theorem dJx4a65c_add_7a177_25 : decode cJx4a65c_add_7a177 25 = .ok (.dup, 1) := by decide +kernel
theorem dJx4a65c_add_7a177_26 : decode cJx4a65c_add_7a177 26 = .ok (.astore 4, 2) := by decide +kernel
theorem dJx4a65c_add_7a177_28 : decode cJx4a65c_add_7a177 28 = .ok (.arraylength, 1) := by decide +kernel
theorem dJx4a65c_add_7a177_29 : decode cJx4a65c_add_7a177 29 = .ok (.if_icmp .ne 9, 3) := by decide +kernel
theorem dJx4a65c_add_7a177_32 : decode cJx4a65c_add_7a177 32 = .ok (.aload_n 0, 1) := by decide +kernel
theorem dJx4a65c_add_7a177_33 : decode cJx4a65c_add_7a177 33 = .ok (.invokevirtual 129, 3) := by decide +kernel
theorem dJx4a65c_add_7a177_36 : decode cJx4a65c_add_7a177 36 = .ok (.astore 4, 2) := by decide +kernel
theorem dJx4a65c_add_7a177_38 : decode cJx4a65c_add_7a177 38 = .ok (.aload 4, 2) := by decide +kernel
theorem dJx4a65c_add_7a177_40 : decode cJx4a65c_add_7a177 40 = .ok (.iload_n 1, 1) := by decide +kernel
theorem dJx4a65c_add_7a177_41 : decode cJx4a65c_add_7a177 41 = .ok (.aload 4, 2) := by decide +kernel
theorem dJx4a65c_add_7a177_43 : decode cJx4a65c_add_7a177 43 = .ok (.iload_n 1, 1) := by decide +kernel
theorem dJx4a65c_add_7a177_44 : decode cJx4a65c_add_7a177 44 = .ok (.iconst 1, 1) := by decide +kernel
theorem dJx4a65c_add_7a177_45 : decode cJx4a65c_add_7a177 45 = .ok (.iadd, 1) := by decide +kernel
theorem dJx4a65c_add_7a177_46 : decode cJx4a65c_add_7a177 46 = .ok (.iload_n 3, 1) := by decide +kernel
theorem dJx4a65c_add_7a177_47 : decode cJx4a65c_add_7a177 47 = .ok (.iload_n 1, 1) := by decide +kernel
theorem dJx4a65c_add_7a177_48 : decode cJx4a65c_add_7a177 48 = .ok (.isub, 1) := by decide +kernel
theorem dJx4a65c_add_7a177_49 : decode cJx4a65c_add_7a177 49 = .ok (.invokestatic 112, 3) := by decide +kernel
theorem dJx4a65c_add_7a177_52 : decode cJx4a65c_add_7a177 52 = .ok (.aload 4, 2) := by decide +kernel
theorem dJx4a65c_add_7a177_54 : decode cJx4a65c_add_7a177 54 = .ok (.iload_n 1, 1) := by decide +kernel
theorem dJx4a65c_add_7a177_55 : decode cJx4a65c_add_7a177 55 = .ok (.aload_n 2, 1) := by decide +kernel
theorem dJx4a65c_add_7a177_56 : decode cJx4a65c_add_7a177 56 = .ok (.aastore, 1) := by decide +kernel
theorem dJx4a65c_add_7a177_57 : decode cJx4a65c_add_7a177 57 = .ok (.aload_n 0, 1) := by decide +kernel
theorem dJx4a65c_add_7a177_58 : decode cJx4a65c_add_7a177 58 = .ok (.iload_n 3, 1) := by decide +kernel
theorem dJx4a65c_add_7a177_59 : decode cJx4a65c_add_7a177 59 = .ok (.iconst 1, 1) := by decide +kernel
theorem dJx4a65c_add_7a177_60 : decode cJx4a65c_add_7a177 60 = .ok (.iadd, 1) := by decide +kernel
theorem dJx4a65c_add_7a177_61 : decode cJx4a65c_add_7a177 61 = .ok (.putfield 48, 3) := by decide +kernel
theorem dJx4a65c_add_7a177_64 : decode cJx4a65c_add_7a177 64 = .ok (.return_, 1) := by decide +kernel
theorem dJx4a65c_rangeCheckForAdd_d00df_0 : decode cJx4a65c_rangeCheckForAdd_d00df 0 = .ok (.iload_n 1, 1) := by decide +kernel
theorem dJx4a65c_rangeCheckForAdd_d00df_1 : decode cJx4a65c_rangeCheckForAdd_d00df 1 = .ok (.aload_n 0, 1) := by decide +kernel
theorem dJx4a65c_rangeCheckForAdd_d00df_2 : decode cJx4a65c_rangeCheckForAdd_d00df 2 = .ok (.getfield 48, 3) := by decide +kernel
theorem dJx4a65c_rangeCheckForAdd_d00df_5 : decode cJx4a65c_rangeCheckForAdd_d00df 5 = .ok (.if_icmp .gt 7, 3) := by decide +kernel
theorem dJx4a65c_rangeCheckForAdd_d00df_8 : decode cJx4a65c_rangeCheckForAdd_d00df 8 = .ok (.iload_n 1, 1) := by decide +kernel
theorem dJx4a65c_rangeCheckForAdd_d00df_9 : decode cJx4a65c_rangeCheckForAdd_d00df 9 = .ok (.ifCond .ge 16, 3) := by decide +kernel
theorem dJx4a65c_rangeCheckForAdd_d00df_12 : decode cJx4a65c_rangeCheckForAdd_d00df 12 = .ok (.new 187, 3) := by decide +kernel
theorem dJx4a65c_rangeCheckForAdd_d00df_15 : decode cJx4a65c_rangeCheckForAdd_d00df 15 = .ok (.dup, 1) := by decide +kernel
theorem dJx4a65c_rangeCheckForAdd_d00df_16 : decode cJx4a65c_rangeCheckForAdd_d00df 16 = .ok (.aload_n 0, 1) := by decide +kernel
theorem dJx4a65c_rangeCheckForAdd_d00df_17 : decode cJx4a65c_rangeCheckForAdd_d00df 17 = .ok (.iload_n 1, 1) := by decide +kernel
theorem dJx4a65c_rangeCheckForAdd_d00df_18 : decode cJx4a65c_rangeCheckForAdd_d00df 18 = .ok (.invokevirtual 198, 3) := by decide +kernel
theorem dJx4a65c_rangeCheckForAdd_d00df_21 : decode cJx4a65c_rangeCheckForAdd_d00df 21 = .ok (.invokespecial 193, 3) := by decide +kernel
theorem dJx4a65c_rangeCheckForAdd_d00df_24 : decode cJx4a65c_rangeCheckForAdd_d00df 24 = .ok (.athrow, 1) := by decide +kernel
theorem dJx4a65c_rangeCheckForAdd_d00df_25 : decode cJx4a65c_rangeCheckForAdd_d00df 25 = .ok (.return_, 1) := by decide +kernel
set_option maxRecDepth 20000 in
theorem ggJ7_copyOf_1904c_J7_copyOf_6403c : GoodIn wsJ7_copyOf_1904c wsJ7_copyOf_6403c := goodIn_r _ [8, 9, 10, 11, 12, 13, 14, 15, 16, 17, 18] (by decide +kernel) (by decide +kernel)
set_option maxRecDepth 20000 in
theorem gJ7_copyOf_1904c_J7_copyOf_6403c : GoodIn wsJ7_copyOf_1904c (va_wsS RJ7 300 yJ7_copyOf_6403c wsJ7_copyOf_6403c) := goodIn_app (goodIn_of _ (by decide +kernel)) ggJ7_copyOf_1904c_J7_copyOf_6403c
theorem dJ7_copyOf_1904c_0 : decode cJ7_copyOf_1904c 0 = .ok (.aload_n 0, 1) := by decide +kernel
theorem dJ7_copyOf_1904c_1 : decode cJ7_copyOf_1904c 1 = .ok (.iload_n 1, 1) := by decide +kernel
theorem dJ7_copyOf_1904c_2 : decode cJ7_copyOf_1904c 2 = .ok (.aload_n 0, 1) := by decide +kernel
theorem dJ7_copyOf_1904c_3 : decode cJ7_copyOf_1904c 3 = .ok (.invokevirtual 86, 3) := by decide +kernel
theorem dJ7_copyOf_1904c_6 : decode cJ7_copyOf_1904c 6 = .ok (.invokestatic 300, 3) := by decide +kernel
theorem dJ7_copyOf_1904c_9 : decode cJ7_copyOf_1904c 9 = .ok (.areturn, 1) := by decide +kernel
theorem dJ7_copyOf_6403c_0 : decode cJ7_copyOf_6403c 0 = .ok (.aload_n 2, 1) := by decide +kernel
theorem dJ7_copyOf_6403c_1 : decode cJ7_copyOf_6403c 1 = .ok (.ldc 110, 2) := by decide +kernel
theorem dJ7_copyOf_6403c_3 : decode cJ7_copyOf_6403c 3 = .ok (.if_acmp .ne 10, 3) := by decide +kernel
theorem dJ7_copyOf_6403c_6 : decode cJ7_copyOf_6403c 6 = .ok (.iload_n 1, 1) := by decide +kernel
theorem dJ7_copyOf_6403c_7 : decode cJ7_copyOf_6403c 7 = .ok (.anewarray 2, 3) := by decide +kernel
theorem dJ7_copyOf_6403c_10 : decode cJ7_copyOf_6403c 10 = .ok (.goto 14, 3) := by decide +kernel
theorem dJ7_copyOf_6403c_13 : decode cJ7_copyOf_6403c 13 = .ok (.aload_n 2, 1) := by decide +kernel
theorem dJ7_copyOf_6403c_14 : decode cJ7_copyOf_6403c 14 = .ok (.invokevirtual 90, 3) := by decide +kernel
theorem dJ7_copyOf_6403c_17 : decode cJ7_copyOf_6403c 17 = .ok (.iload_n 1, 1) := by decide +kernel
theorem dJ7_copyOf_6403c_18 : decode cJ7_copyOf_6403c 18 = .ok (.invokestatic 95, 3) := by decide +kernel
theorem dJ7_copyOf_6403c_21 : decode cJ7_copyOf_6403c 21 = .ok (.checkcast 110, 3) := by decide +kernel
theorem dJ7_copyOf_6403c_24 : decode cJ7_copyOf_6403c 24 = .ok (.astore_n 3, 1) := by decide +kernel
theorem dJ7_copyOf_6403c_25 : decode cJ7_copyOf_6403c 25 = .ok (.aload_n 0, 1) := by decide +kernel
theorem dJ7_copyOf_6403c_26 : decode cJ7_copyOf_6403c 26 = .ok (.iconst 0, 1) := by decide +kernel
theorem dJ7_copyOf_6403c_27 : decode cJ7_copyOf_6403c 27 = .ok (.aload_n 3, 1) := by decide +kernel
theorem dJ7_copyOf_6403c_28 : decode cJ7_copyOf_6403c 28 = .ok (.iconst 0, 1) := by decide +kernel
theorem dJ7_copyOf_6403c_29 : decode cJ7_copyOf_6403c 29 = .ok (.aload_n 0, 1) := by decide +kernel
theorem dJ7_copyOf_6403c_30 : decode cJ7_copyOf_6403c 30 = .ok (.arraylength, 1) := by decide +kernel
theorem dJ7_copyOf_6403c_31 : decode cJ7_copyOf_6403c 31 = .ok (.iload_n 1, 1) := by decide +kernel
theorem dJ7_copyOf_6403c_32 : decode cJ7_copyOf_6403c 32 = .ok (.invokestatic 304, 3) := by decide +kernel
theorem dJ7_copyOf_6403c_35 : decode cJ7_copyOf_6403c 35 = .ok (.invokestatic 150, 3) := by decide +kernel
theorem dJ7_copyOf_6403c_38 : decode cJ7_copyOf_6403c 38 = .ok (.aload_n 3, 1) := by decide +kernel
theorem dJ7_copyOf_6403c_39 : decode cJ7_copyOf_6403c 39 = .ok (.areturn, 1) := by decide +kernel
set_option maxRecDepth 20000 in
theorem ggJ15_checkIndex_7cf53_J3_checkIndex_8e157 : GoodIn wsJ15_checkIndex_7cf53 wsJ3_checkIndex_8e157 := goodIn_r _ [4] (by decide +kernel) (by decide +kernel)
set_option maxRecDepth 20000 in
theorem gJ15_checkIndex_7cf53_J3_checkIndex_8e157 : GoodIn wsJ15_checkIndex_7cf53 (va_wsS RJ15 105 yJ3_checkIndex_8e157 wsJ3_checkIndex_8e157) := goodIn_app (goodIn_of _ (by decide +kernel)) ggJ15_checkIndex_7cf53_J3_checkIndex_8e157
theorem dJ15_checkIndex_7cf53_0 : decode cJ15_checkIndex_7cf53 0 = .ok (.iload_n 0, 1) := by decide +kernel
theorem dJ15_checkIndex_7cf53_1 : decode cJ15_checkIndex_7cf53 1 = .ok (.iload_n 1, 1) := by decide +kernel
theorem dJ15_checkIndex_7cf53_2 : decode cJ15_checkIndex_7cf53 2 = .ok (.aconst_null, 1) := by decide +kernel
theorem dJ15_checkIndex_7cf53_3 : decode cJ15_checkIndex_7cf53 3 = .ok (.invokestatic 105, 3) := by decide +kernel
theorem dJ15_checkIndex_7cf53_6 : decode cJ15_checkIndex_7cf53 6 = .ok (.ireturn, 1) := by decide +kernel
set_option maxRecDepth 20000 in
theorem ggJ8_newLength_cabcc_J8_hugeLength_7cf53 : GoodIn wsJ8_newLength_cabcc wsJ8_hugeLength_7cf53 := goodIn_r _ [9, 5] (by decide +kernel) (by decide +kernel)
set_option maxRecDepth 20000 in
theorem gJ8_newLength_cabcc_J8_hugeLength_7cf53 : GoodIn wsJ8_newLength_cabcc (va_wsS RJ8 201 yJ8_hugeLength_7cf53 wsJ8_hugeLength_7cf53) := goodIn_app (goodIn_of _ (by decide +kernel)) ggJ8_newLength_cabcc_J8_hugeLength_7cf53
theorem dJ8_newLength_cabcc_0 : decode cJ8_newLength_cabcc 0 = .ok (.iload_n 0, 1) := by decide +kernel
theorem dJ8_newLength_cabcc_1 : decode cJ8_newLength_cabcc 1 = .ok (.iload_n 1, 1) := by decide +kernel
theorem dJ8_newLength_cabcc_2 : decode cJ8_newLength_cabcc 2 = .ok (.iload_n 2, 1) := by decide +kernel
theorem dJ8_newLength_cabcc_3 : decode cJ8_newLength_cabcc 3 = .ok (.invokestatic 194, 3) := by decide +kernel
theorem dJ8_newLength_cabcc_6 : decode cJ8_newLength_cabcc 6 = .ok (.iadd, 1) := by decide +kernel
theorem dJ8_newLength_cabcc_7 : decode cJ8_newLength_cabcc 7 = .ok (.istore_n 3, 1) := by decide +kernel
theorem dJ8_newLength_cabcc_8 : decode cJ8_newLength_cabcc 8 = .ok (.iconst 0, 1) := by decide +kernel
theorem dJ8_newLength_cabcc_9 : decode cJ8_newLength_cabcc 9 = .ok (.iload_n 3, 1) := by decide +kernel
theorem dJ8_newLength_cabcc_10 : decode cJ8_newLength_cabcc 10 = .ok (.if_icmp .ge 11, 3) := by decide +kernel
theorem dJ8_newLength_cabcc_13 : decode cJ8_newLength_cabcc 13 = .ok (.iload_n 3, 1) := by decide +kernel
theorem dJ8_newLength_cabcc_14 : decode cJ8_newLength_cabcc 14 = .ok (.ldc 200, 2) := by decide +kernel
theorem dJ8_newLength_cabcc_16 : decode cJ8_newLength_cabcc 16 = .ok (.if_icmp .gt 5, 3) := by decide +kernel
theorem dJ8_newLength_cabcc_19 : decode cJ8_newLength_cabcc 19 = .ok (.iload_n 3, 1) := by decide +kernel
theorem dJ8_newLength_cabcc_20 : decode cJ8_newLength_cabcc 20 = .ok (.ireturn, 1) := by decide +kernel
theorem dJ8_newLength_cabcc_21 : decode cJ8_newLength_cabcc 21 = .ok (.iload_n 0, 1) := by decide +kernel
theorem dJ8_newLength_cabcc_22 : decode cJ8_newLength_cabcc 22 = .ok (.iload_n 1, 1) := by decide +kernel
theorem dJ8_newLength_cabcc_23 : decode cJ8_newLength_cabcc 23 = .ok (.invokestatic 201, 3) := by decide +kernel
theorem dJ8_newLength_cabcc_26 : decode cJ8_newLength_cabcc 26 = .ok (.ireturn, 1) := by decide +kernel
theorem dJ8_hugeLength_7cf53_0 : decode cJ8_hugeLength_7cf53 0 = .ok (.iload_n 0, 1) := by decide +kernel
theorem dJ8_hugeLength_7cf53_1 : decode cJ8_hugeLength_7cf53 1 = .ok (.iload_n 1, 1) := by decide +kernel
theorem dJ8_hugeLength_7cf53_2 : decode cJ8_hugeLength_7cf53 2 = .ok (.iadd, 1) := by decide +kernel
theorem dJ8_hugeLength_7cf53_3 : decode cJ8_hugeLength_7cf53 3 = .ok (.istore_n 2, 1) := by decide +kernel
theorem dJ8_hugeLength_7cf53_4 : decode cJ8_hugeLength_7cf53 4 = .ok (.iload_n 2, 1) := by decide +kernel
theorem dJ8_hugeLength_7cf53_5 : decode cJ8_hugeLength_7cf53 5 = .ok (.ifCond .ge 44, 3) := by decide +kernel
theorem dJ8_hugeLength_7cf53_8 : decode cJ8_hugeLength_7cf53 8 = .ok (.new 204, 3) := by decide +kernel
theorem dJ8_hugeLength_7cf53_11 : decode cJ8_hugeLength_7cf53 11 = .ok (.dup, 1) := by decide +kernel
theorem dJ8_hugeLength_7cf53_12 : decode cJ8_hugeLength_7cf53 12 = .ok (.new 89, 3) := by decide +kernel
theorem dJ8_hugeLength_7cf53_15 : decode cJ8_hugeLength_7cf53 15 = .ok (.dup, 1) := by decide +kernel
theorem dJ8_hugeLength_7cf53_16 : decode cJ8_hugeLength_7cf53 16 = .ok (.invokespecial 91, 3) := by decide +kernel
theorem dJ8_hugeLength_7cf53_19 : decode cJ8_hugeLength_7cf53 19 = .ok (.ldc 206, 2) := by decide +kernel
theorem dJ8_hugeLength_7cf53_21 : decode cJ8_hugeLength_7cf53 21 = .ok (.invokevirtual 94, 3) := by decide +kernel
theorem dJ8_hugeLength_7cf53_24 : decode cJ8_hugeLength_7cf53 24 = .ok (.iload_n 0, 1) := by decide +kernel
theorem dJ8_hugeLength_7cf53_25 : decode cJ8_hugeLength_7cf53 25 = .ok (.invokevirtual 98, 3) := by decide +kernel
theorem dJ8_hugeLength_7cf53_28 : decode cJ8_hugeLength_7cf53 28 = .ok (.ldc 208, 2) := by decide +kernel
theorem dJ8_hugeLength_7cf53_30 : decode cJ8_hugeLength_7cf53 30 = .ok (.invokevirtual 94, 3) := by decide +kernel
theorem dJ8_hugeLength_7cf53_33 : decode cJ8_hugeLength_7cf53 33 = .ok (.iload_n 1, 1) := by decide +kernel
theorem dJ8_hugeLength_7cf53_34 : decode cJ8_hugeLength_7cf53 34 = .ok (.invokevirtual 98, 3) := by decide +kernel
theorem dJ8_hugeLength_7cf53_37 : decode cJ8_hugeLength_7cf53 37 = .ok (.ldc 210, 2) := by decide +kernel
theorem dJ8_hugeLength_7cf53_39 : decode cJ8_hugeLength_7cf53 39 = .ok (.invokevirtual 94, 3) := by decide +kernel
theorem dJ8_hugeLength_7cf53_42 : decode cJ8_hugeLength_7cf53 42 = .ok (.invokevirtual 101, 3) := by decide +kernel
theorem dJ8_hugeLength_7cf53_45 : decode cJ8_hugeLength_7cf53 45 = .ok (.invokespecial 212, 3) := by decide +kernel
theorem dJ8_hugeLength_7cf53_48 : decode cJ8_hugeLength_7cf53 48 = .ok (.athrow, 1) := by decide +kernel
theorem dJ8_hugeLength_7cf53_49 : decode cJ8_hugeLength_7cf53 49 = .ok (.iload_n 2, 1) := by decide +kernel
theorem dJ8_hugeLength_7cf53_50 : decode cJ8_hugeLength_7cf53 50 = .ok (.ldc 200, 2) := by decide +kernel
theorem dJ8_hugeLength_7cf53_52 : decode cJ8_hugeLength_7cf53 52 = .ok (.if_icmp .gt 6, 3) := by decide +kernel
theorem dJ8_hugeLength_7cf53_55 : decode cJ8_hugeLength_7cf53 55 = .ok (.ldc 200, 2) := by decide +kernel
theorem dJ8_hugeLength_7cf53_57 : decode cJ8_hugeLength_7cf53 57 = .ok (.ireturn, 1) := by decide +kernel
theorem dJ8_hugeLength_7cf53_58 : decode cJ8_hugeLength_7cf53 58 = .ok (.iload_n 2, 1) := by decide +kernel
theorem dJ8_hugeLength_7cf53_59 : decode cJ8_hugeLength_7cf53 59 = .ok (.ireturn, 1) := by decide +kernel
theorem dJ3_checkIndex_8e157_0 : decode cJ3_checkIndex_8e157 0 = .ok (.iload_n 0, 1) := by decide +kernel
theorem dJ3_checkIndex_8e157_1 : decode cJ3_checkIndex_8e157 1 = .ok (.ifCond .lt 8, 3) := by decide +kernel
theorem dJ3_checkIndex_8e157_4 : decode cJ3_checkIndex_8e157 4 = .ok (.iload_n 0, 1) := by decide +kernel
theorem dJ3_checkIndex_8e157_5 : decode cJ3_checkIndex_8e157 5 = .ok (.iload_n 1, 1) := by decide +kernel
theorem dJ3_checkIndex_8e157_6 : decode cJ3_checkIndex_8e157 6 = .ok (.if_icmp .lt 10, 3) := by decide +kernel
theorem dJ3_checkIndex_8e157_9 : decode cJ3_checkIndex_8e157 9 = .ok (.aload_n 2, 1) := by decide +kernel
theorem dJ3_checkIndex_8e157_10 : decode cJ3_checkIndex_8e157 10 = .ok (.iload_n 0, 1) := by decide +kernel
theorem dJ3_checkIndex_8e157_11 : decode cJ3_checkIndex_8e157 11 = .ok (.iload_n 1, 1) := by decide +kernel
theorem dJ3_checkIndex_8e157_12 : decode cJ3_checkIndex_8e157 12 = .ok (.invokestatic 95, 3) := by decide +kernel
theorem dJ3_checkIndex_8e157_15 : decode cJ3_checkIndex_8e157 15 = .ok (.athrow, 1) := by decide +kernel
theorem dJ3_checkIndex_8e157_16 : decode cJ3_checkIndex_8e157 16 = .ok (.iload_n 0, 1) := by decide +kernel
theorem dJ3_checkIndex_8e157_17 : decode cJ3_checkIndex_8e157 17 = .ok (.ireturn, 1) := by decide +kernel
theorem dL_draw_0 : decode cL_draw 0 = .ok (.iload_n 1, 1) := by decide +kernel
theorem dL_draw_1 : decode cL_draw 1 = .ok (.aload_n 0, 1) := by decide +kernel
theorem dL_draw_2 : decode cL_draw 2 = .ok (.arraylength, 1) := by decide +kernel
theorem dL_draw_3 : decode cL_draw 3 = .ok (.if_icmp .ge 9, 3) := by decide +kernel
theorem dL_draw_6 : decode cL_draw 6 = .ok (.aload_n 0, 1) := by decide +kernel
theorem dL_draw_7 : decode cL_draw 7 = .ok (.iload_n 1, 1) := by decide +kernel
theorem dL_draw_8 : decode cL_draw 8 = .ok (.iaload, 1) := by decide +kernel
theorem dL_draw_9 : decode cL_draw 9 = .ok (.goto 13, 3) := by decide +kernel
theorem dL_draw_12 : decode cL_draw 12 = .ok (.ldc 7, 2) := by decide +kernel
theorem dL_draw_14 : decode cL_draw 14 = .ok (.iload_n 1, 1) := by decide +kernel
theorem dL_draw_15 : decode cL_draw 15 = .ok (.bipush 11, 2) := by decide +kernel
theorem dL_draw_17 : decode cL_draw 17 = .ok (.iadd, 1) := by decide +kernel
theorem dL_draw_18 : decode cL_draw 18 = .ok (.imul, 1) := by decide +kernel
theorem dL_draw_19 : decode cL_draw 19 = .ok (.ldc 8, 2) := by decide +kernel
theorem dL_draw_21 : decode cL_draw 21 = .ok (.iadd, 1) := by decide +kernel
theorem dL_draw_22 : decode cL_draw 22 = .ok (.istore_n 3, 1) := by decide +kernel
theorem dL_draw_23 : decode cL_draw 23 = .ok (.iload_n 3, 1) := by decide +kernel
theorem dL_draw_24 : decode cL_draw 24 = .ok (.ldc 9, 2) := by decide +kernel
theorem dL_draw_26 : decode cL_draw 26 = .ok (.iand, 1) := by decide +kernel
theorem dL_draw_27 : decode cL_draw 27 = .ok (.iload_n 2, 1) := by decide +kernel
theorem dL_draw_28 : decode cL_draw 28 = .ok (.irem, 1) := by decide +kernel
theorem dL_draw_29 : decode cL_draw 29 = .ok (.ireturn, 1) := by decide +kernel
theorem dL_parent_0 : decode cL_parent 0 = .ok (.aload_n 0, 1) := by decide +kernel
theorem dL_parent_1 : decode cL_parent 1 = .ok (.iconst 2, 1) := by decide +kernel
theorem dL_parent_2 : decode cL_parent 2 = .ok (.iload_n 1, 1) := by decide +kernel
theorem dL_parent_3 : decode cL_parent 3 = .ok (.imul, 1) := by decide +kernel
theorem dL_parent_4 : decode cL_parent 4 = .ok (.iconst 3, 1) := by decide +kernel
theorem dL_parent_5 : decode cL_parent 5 = .ok (.iadd, 1) := by decide +kernel
theorem dL_parent_6 : decode cL_parent 6 = .ok (.iaload, 1) := by decide +kernel
theorem dL_parent_7 : decode cL_parent 7 = .ok (.ireturn, 1) := by decide +kernel
set_option maxRecDepth 20000 in
theorem ggL_top_L_parent : GoodIn wsL_top wsL_parent := goodIn_r _ [4] (by decide +kernel) (by decide +kernel)
set_option maxRecDepth 20000 in
theorem gL_top_L_parent : GoodIn wsL_top (va_wsS RL 10 yL_parent wsL_parent) := goodIn_app (goodIn_of _ (by decide +kernel)) ggL_top_L_parent
theorem dL_top_0 : decode cL_top 0 = .ok (.iload_n 1, 1) := by decide +kernel
theorem dL_top_1 : decode cL_top 1 = .ok (.istore_n 2, 1) := by decide +kernel
theorem dL_top_2 : decode cL_top 2 = .ok (.aload_n 0, 1) := by decide +kernel
theorem dL_top_3 : decode cL_top 3 = .ok (.iload_n 2, 1) := by decide +kernel
theorem dL_top_4 : decode cL_top 4 = .ok (.invokestatic 10, 3) := by decide +kernel
theorem dL_top_7 : decode cL_top 7 = .ok (.ifCond .lt 12, 3) := by decide +kernel
theorem dL_top_10 : decode cL_top 10 = .ok (.aload_n 0, 1) := by decide +kernel
theorem dL_top_11 : decode cL_top 11 = .ok (.iload_n 2, 1) := by decide +kernel
theorem dL_top_12 : decode cL_top 12 = .ok (.invokestatic 10, 3) := by decide +kernel
theorem dL_top_15 : decode cL_top 15 = .ok (.istore_n 2, 1) := by decide +kernel
theorem dL_top_16 : decode cL_top 16 = .ok (.goto (-14), 3) := by decide +kernel
theorem dL_top_19 : decode cL_top 19 = .ok (.iload_n 2, 1) := by decide +kernel
theorem dL_top_20 : decode cL_top 20 = .ok (.ireturn, 1) := by decide +kernel
set_option maxRecDepth 20000 in
theorem ggL_areSums_X9_accounts : GoodIn wsL_areSums wsX9_accounts := goodIn_r _ [5, 6, 7, 8, 9, 10, 11, 12, 13, 233, 234, 235, 236, 237, 238, 239, 240, 241, 242, 243, 244] (by decide +kernel) (by decide +kernel)
set_option maxRecDepth 20000 in
theorem gL_areSums_X9_accounts : GoodIn wsL_areSums (wsV RL 16 RX9 yX9_accounts wsX9_accounts) := goodIn_app (goodIn_of _ (by decide +kernel)) ggL_areSums_X9_accounts
set_option maxRecDepth 20000 in
theorem ggL_areSums_X9_balance : GoodIn wsL_areSums wsX9_balance := goodIn_ca (goodIn_r _ [17, 18, 19, 20, 21, 4, 22, 23, 24, 6, 7, 25, 8, 9, 10, 11, 12, 13, 26, 27, 28, 29, 30, 31, 32, 33, 34, 35, 36, 37, 38, 39, 40, 41, 42, 245, 246, 247, 248, 249, 250, 251, 252, 253, 254, 255, 256, 233, 234, 235, 236, 237, 238, 239, 240, 241, 242, 243, 244] (by decide +kernel) (by decide +kernel)) (goodIn_sub (fun _ h => List.mem_cons_of_mem _ (List.mem_append_left _ (List.mem_append_right _ h))) (by decide +kernel))
set_option maxRecDepth 20000 in
theorem gL_areSums_X9_balance : GoodIn wsL_areSums (wsV RL 22 RX9 yX9_balance wsX9_balance) := goodIn_app (goodIn_of _ (by decide +kernel)) ggL_areSums_X9_balance
set_option maxRecDepth 20000 in
theorem ggL_areSums_L_parent : GoodIn wsL_areSums wsL_parent := goodIn_r _ [46] (by decide +kernel) (by decide +kernel)
set_option maxRecDepth 20000 in
theorem gL_areSums_L_parent : GoodIn wsL_areSums (va_wsS RL 10 yL_parent wsL_parent) := goodIn_app (goodIn_of _ (by decide +kernel)) ggL_areSums_L_parent
set_option maxRecDepth 20000 in
theorem ggL_areSums_X9_total : GoodIn wsL_areSums wsX9_total := goodIn_ca (goodIn_r _ [50, 19, 20, 21, 4, 22, 23, 24, 6, 7, 25, 8, 9, 10, 11, 12, 13, 26, 27, 28, 29, 30, 31, 32, 33, 34, 35, 36, 37, 38, 39, 40, 41, 42, 51, 52, 53, 54, 55, 56, 57, 58, 59, 233, 234, 235, 236, 237, 238, 239, 240, 241, 242, 243, 244, 245, 246, 247, 248, 249, 250, 251, 252, 253, 254, 255, 256] (by decide +kernel) (by decide +kernel)) (goodIn_sub (fun _ h => List.mem_cons_of_mem _ (List.mem_append_left _ (List.mem_append_right _ h))) (by decide +kernel))
set_option maxRecDepth 20000 in
theorem gL_areSums_X9_total : GoodIn wsL_areSums (wsV RL 26 RX9 yX9_total wsX9_total) := goodIn_app (goodIn_of _ (by decide +kernel)) ggL_areSums_X9_total
set_option maxRecDepth 20000 in
theorem ggL_areSums_L_top : GoodIn wsL_areSums wsL_top := goodIn_r _ [62, 43, 44, 45, 46] (by decide +kernel) (by decide +kernel)
set_option maxRecDepth 20000 in
theorem gL_areSums_L_top : GoodIn wsL_areSums (va_wsS RL 29 yL_top wsL_top) := goodIn_app (goodIn_of _ (by decide +kernel)) ggL_areSums_L_top
set_option maxRecDepth 20000 in
theorem ggL_areSums_X9_afterSweep : GoodIn wsL_areSums wsX9_afterSweep := goodIn_ca (goodIn_r _ [66, 19, 20, 21, 4, 22, 23, 24, 6, 7, 25, 8, 9, 10, 11, 12, 13, 26, 27, 28, 29, 30, 31, 32, 33, 34, 35, 36, 37, 38, 39, 40, 41, 42, 67, 68, 52, 69, 70, 71, 72, 73, 74, 55, 56, 75, 76, 77, 78, 79, 80, 81, 82, 83, 84, 54, 57, 58, 85, 86, 87, 88, 89, 90, 91, 92, 93, 94, 95, 96, 97, 98, 99, 100, 233, 234, 235, 236, 237, 238, 239, 240, 241, 242, 243, 244, 245, 246, 247, 248, 249, 250, 251, 252, 253, 254, 255, 256] (by decide +kernel) (by decide +kernel)) (goodIn_sub (fun _ h => List.mem_cons_of_mem _ (List.mem_append_left _ (List.mem_append_right _ h))) (by decide +kernel))
set_option maxRecDepth 20000 in
theorem gL_areSums_X9_afterSweep : GoodIn wsL_areSums (wsV RL 32 RX9 yX9_afterSweep wsX9_afterSweep) := goodIn_app (goodIn_of _ (by decide +kernel)) ggL_areSums_X9_afterSweep
set_option maxRecDepth 20000 in
theorem ggL_areSums_X9_interestOf : GoodIn wsL_areSums wsX9_interestOf := goodIn_ca (goodIn_r _ [104, 105, 19, 20, 21, 4, 22, 23, 24, 6, 7, 25, 8, 9, 10, 11, 12, 13, 26, 27, 28, 29, 30, 31, 32, 33, 34, 35, 36, 37, 38, 39, 40, 41, 42, 245, 246, 247, 248, 249, 250, 251, 252, 253, 254, 255, 256, 233, 234, 235, 236, 237, 238, 239, 240, 241, 242, 243, 244] (by decide +kernel) (by decide +kernel)) (goodIn_sub (fun _ h => List.mem_cons_of_mem _ (List.mem_append_left _ (List.mem_append_right _ h))) (by decide +kernel))
set_option maxRecDepth 20000 in
theorem gL_areSums_X9_interestOf : GoodIn wsL_areSums (wsV RL 35 RX9 yX9_interestOf wsX9_interestOf) := goodIn_app (goodIn_of _ (by decide +kernel)) ggL_areSums_X9_interestOf
set_option maxRecDepth 20000 in
theorem ggL_areSums_X9_poolOf : GoodIn wsL_areSums wsX9_poolOf := goodIn_ca (goodIn_r _ [109, 110, 111, 19, 20, 21, 4, 22, 23, 24, 6, 7, 25, 8, 9, 10, 11, 12, 13, 26, 27, 28, 29, 30, 31, 32, 33, 34, 35, 36, 37, 38, 39, 40, 41, 42, 245, 246, 247, 248, 249, 250, 251, 252, 253, 254, 255, 256, 257, 258, 259, 260, 261, 233, 234, 235, 236, 237, 238, 239, 240, 241, 242, 243, 244] (by decide +kernel) (by decide +kernel)) (goodIn_sub (fun _ h => List.mem_cons_of_mem _ (List.mem_append_left _ (List.mem_append_right _ h))) (by decide +kernel))
set_option maxRecDepth 20000 in
theorem gL_areSums_X9_poolOf : GoodIn wsL_areSums (wsV RL 38 RX9 yX9_poolOf wsX9_poolOf) := goodIn_app (goodIn_of _ (by decide +kernel)) ggL_areSums_X9_poolOf
set_option maxRecDepth 20000 in
theorem ggL_areSums_X9_afterSweepByMoves : GoodIn wsL_areSums wsX9_afterSweepByMoves := goodIn_ca (goodIn_r _ [115, 6, 18, 19, 20, 21, 4, 22, 23, 24, 7, 25, 8, 9, 10, 11, 12, 13, 26, 27, 28, 29, 30, 31, 32, 33, 34, 35, 36, 37, 38, 39, 40, 41, 42, 116, 117, 118, 119, 120, 121, 122, 123, 124, 125, 126, 127, 128, 129, 130, 131, 132, 133, 134, 135, 88, 136, 137, 138, 139, 140, 141, 142, 143, 144, 145, 146, 147, 148, 149, 150, 151, 152, 153, 154, 155, 156, 157, 158, 159, 160, 161, 162, 163, 164, 165, 166, 167, 168, 169, 170, 171, 172, 173, 174, 175, 176, 177, 178, 179, 180, 181, 182, 183, 184, 185, 186, 187, 188, 52, 189, 190, 191, 192, 55, 56, 54, 78, 79, 80, 81, 73, 57, 58, 85, 86, 87, 89, 90, 91, 92, 93, 94, 95, 193, 194, 195, 96, 97, 98, 99, 100, 196, 197, 198, 199, 200, 201, 202, 203, 204, 205, 206, 207, 208, 209, 210, 211, 212, 213, 214, 215, 216, 217, 218, 219, 233, 245, 246, 247, 248, 249, 250, 251, 252, 253, 254, 255, 256, 234, 235, 236, 237, 238, 239, 240, 241, 242, 243, 244, 257, 258, 259, 260, 261, 262, 263, 264, 265, 266, 267, 268, 269, 270, 271, 272, 273, 274, 275, 276, 277, 278, 279, 280, 281, 282, 283, 284, 285, 286, 287] (by decide +kernel) (by decide +kernel)) (goodIn_sub (fun _ h => List.mem_cons_of_mem _ (List.mem_append_left _ (List.mem_append_right _ h))) (by decide +kernel))
set_option maxRecDepth 20000 in
theorem gL_areSums_X9_afterSweepByMoves : GoodIn wsL_areSums (wsV RL 42 RX9 yX9_afterSweepByMoves wsX9_afterSweepByMoves) := goodIn_app (goodIn_of _ (by decide +kernel)) ggL_areSums_X9_afterSweepByMoves
set_option maxRecDepth 20000 in
theorem ggL_areSums_X9_poolInterest : GoodIn wsL_areSums wsX9_poolInterest := goodIn_ca (goodIn_ca (goodIn_r _ [223, 110, 224, 225, 226, 19, 20, 21, 4, 22, 23, 24, 6, 7, 25, 8, 9, 10, 11, 12, 13, 26, 27, 28, 29, 30, 31, 32, 33, 34, 35, 36, 37, 38, 39, 40, 41, 42, 227, 228, 229, 230, 231, 232, 245, 246, 247, 248, 249, 250, 251, 252, 253, 254, 255, 256, 257, 258, 259, 260, 261, 262, 263, 264, 265, 266, 267, 268, 269, 270, 271, 233, 234, 235, 236, 237, 238, 239, 240, 241, 242, 243, 244] (by decide +kernel) (by decide +kernel)) (goodIn_sub (fun _ h => List.mem_cons_of_mem _ (List.mem_append_left _ (List.mem_append_right _ h))) (by decide +kernel))) (goodIn_sub (fun _ h => List.mem_cons_of_mem _ (List.mem_append_right _ h)) (by decide +kernel))
set_option maxRecDepth 20000 in
theorem gL_areSums_X9_poolInterest : GoodIn wsL_areSums (wsV RL 45 RX9 yX9_poolInterest wsX9_poolInterest) := goodIn_app (goodIn_of _ (by decide +kernel)) ggL_areSums_X9_poolInterest
theorem dL_areSums_0 : decode cL_areSums 0 = .ok (.aload_n 0, 1) := by decide +kernel
theorem dL_areSums_1 : decode cL_areSums 1 = .ok (.invokevirtual 16, 3) := by decide +kernel
theorem dL_areSums_4 : decode cL_areSums 4 = .ok (.aload_n 1, 1) := by decide +kernel
theorem dL_areSums_5 : decode cL_areSums 5 = .ok (.iconst 0, 1) := by decide +kernel
theorem dL_areSums_6 : decode cL_areSums 6 = .ok (.iaload, 1) := by decide +kernel
theorem dL_areSums_7 : decode cL_areSums 7 = .ok (.if_icmp .ne 7, 3) := by decide +kernel
theorem dL_areSums_10 : decode cL_areSums 10 = .ok (.iconst 1, 1) := by decide +kernel
theorem dL_areSums_11 : decode cL_areSums 11 = .ok (.goto 4, 3) := by decide +kernel
theorem dL_areSums_14 : decode cL_areSums 14 = .ok (.iconst 0, 1) := by decide +kernel
theorem dL_areSums_15 : decode cL_areSums 15 = .ok (.istore_n 2, 1) := by decide +kernel
theorem dL_areSums_16 : decode cL_areSums 16 = .ok (.iconst 0, 1) := by decide +kernel
theorem dL_areSums_17 : decode cL_areSums 17 = .ok (.istore_n 3, 1) := by decide +kernel
theorem dL_areSums_18 : decode cL_areSums 18 = .ok (.iload_n 3, 1) := by decide +kernel
theorem dL_areSums_19 : decode cL_areSums 19 = .ok (.aload_n 1, 1) := by decide +kernel
theorem dL_areSums_20 : decode cL_areSums 20 = .ok (.iconst 0, 1) := by decide +kernel
theorem dL_areSums_21 : decode cL_areSums 21 = .ok (.iaload, 1) := by decide +kernel
theorem dL_areSums_22 : decode cL_areSums 22 = .ok (.if_icmp .ge 206, 3) := by decide +kernel
theorem dL_areSums_25 : decode cL_areSums 25 = .ok (.iload_n 2, 1) := by decide +kernel
theorem dL_areSums_26 : decode cL_areSums 26 = .ok (.ifCond .eq 202, 3) := by decide +kernel
theorem dL_areSums_29 : decode cL_areSums 29 = .ok (.aload_n 0, 1) := by decide +kernel
theorem dL_areSums_30 : decode cL_areSums 30 = .ok (.iload_n 3, 1) := by decide +kernel
theorem dL_areSums_31 : decode cL_areSums 31 = .ok (.invokevirtual 22, 3) := by decide +kernel
theorem dL_areSums_34 : decode cL_areSums 34 = .ok (.lstore 4, 2) := by decide +kernel
theorem dL_areSums_36 : decode cL_areSums 36 = .ok (.lconst 0, 1) := by decide +kernel
theorem dL_areSums_37 : decode cL_areSums 37 = .ok (.lstore 6, 2) := by decide +kernel
theorem dL_areSums_39 : decode cL_areSums 39 = .ok (.lconst 0, 1) := by decide +kernel
theorem dL_areSums_40 : decode cL_areSums 40 = .ok (.lstore 8, 2) := by decide +kernel
theorem dL_areSums_42 : decode cL_areSums 42 = .ok (.lconst 0, 1) := by decide +kernel
theorem dL_areSums_43 : decode cL_areSums 43 = .ok (.lstore 10, 2) := by decide +kernel
theorem dL_areSums_45 : decode cL_areSums 45 = .ok (.iconst 0, 1) := by decide +kernel
theorem dL_areSums_46 : decode cL_areSums 46 = .ok (.istore 12, 2) := by decide +kernel
theorem dL_areSums_48 : decode cL_areSums 48 = .ok (.iload 12, 2) := by decide +kernel
theorem dL_areSums_50 : decode cL_areSums 50 = .ok (.aload_n 1, 1) := by decide +kernel
theorem dL_areSums_51 : decode cL_areSums 51 = .ok (.iconst 0, 1) := by decide +kernel
theorem dL_areSums_52 : decode cL_areSums 52 = .ok (.iaload, 1) := by decide +kernel
theorem dL_areSums_53 : decode cL_areSums 53 = .ok (.if_icmp .ge 77, 3) := by decide +kernel
theorem dL_areSums_56 : decode cL_areSums 56 = .ok (.lload 4, 2) := by decide +kernel
theorem dL_areSums_58 : decode cL_areSums 58 = .ok (.aload_n 1, 1) := by decide +kernel
theorem dL_areSums_59 : decode cL_areSums 59 = .ok (.iload 12, 2) := by decide +kernel
theorem dL_areSums_61 : decode cL_areSums 61 = .ok (.invokestatic 10, 3) := by decide +kernel
theorem dL_areSums_64 : decode cL_areSums 64 = .ok (.iload_n 3, 1) := by decide +kernel
theorem dL_areSums_65 : decode cL_areSums 65 = .ok (.if_icmp .ne 12, 3) := by decide +kernel
theorem dL_areSums_68 : decode cL_areSums 68 = .ok (.aload_n 0, 1) := by decide +kernel
theorem dL_areSums_69 : decode cL_areSums 69 = .ok (.iload 12, 2) := by decide +kernel
theorem dL_areSums_71 : decode cL_areSums 71 = .ok (.invokevirtual 26, 3) := by decide +kernel
theorem dL_areSums_74 : decode cL_areSums 74 = .ok (.goto 4, 3) := by decide +kernel
theorem dL_areSums_77 : decode cL_areSums 77 = .ok (.lconst 0, 1) := by decide +kernel
theorem dL_areSums_78 : decode cL_areSums 78 = .ok (.ladd, 1) := by decide +kernel
theorem dL_areSums_79 : decode cL_areSums 79 = .ok (.lstore 4, 2) := by decide +kernel
theorem dL_areSums_81 : decode cL_areSums 81 = .ok (.aload_n 1, 1) := by decide +kernel
theorem dL_areSums_82 : decode cL_areSums 82 = .ok (.iload 12, 2) := by decide +kernel
theorem dL_areSums_84 : decode cL_areSums 84 = .ok (.invokestatic 29, 3) := by decide +kernel
theorem dL_areSums_87 : decode cL_areSums 87 = .ok (.iload_n 3, 1) := by decide +kernel
theorem dL_areSums_88 : decode cL_areSums 88 = .ok (.if_icmp .ne 36, 3) := by decide +kernel
theorem dL_areSums_91 : decode cL_areSums 91 = .ok (.lload 6, 2) := by decide +kernel
theorem dL_areSums_93 : decode cL_areSums 93 = .ok (.aload_n 0, 1) := by decide +kernel
theorem dL_areSums_94 : decode cL_areSums 94 = .ok (.iload 12, 2) := by decide +kernel
theorem dL_areSums_96 : decode cL_areSums 96 = .ok (.invokevirtual 22, 3) := by decide +kernel
theorem dL_areSums_99 : decode cL_areSums 99 = .ok (.ladd, 1) := by decide +kernel
theorem dL_areSums_100 : decode cL_areSums 100 = .ok (.lstore 6, 2) := by decide +kernel
theorem dL_areSums_102 : decode cL_areSums 102 = .ok (.lload 8, 2) := by decide +kernel
theorem dL_areSums_104 : decode cL_areSums 104 = .ok (.aload_n 0, 1) := by decide +kernel
theorem dL_areSums_105 : decode cL_areSums 105 = .ok (.iload 12, 2) := by decide +kernel
theorem dL_areSums_107 : decode cL_areSums 107 = .ok (.invokevirtual 32, 3) := by decide +kernel
theorem dL_areSums_110 : decode cL_areSums 110 = .ok (.ladd, 1) := by decide +kernel
theorem dL_areSums_111 : decode cL_areSums 111 = .ok (.lstore 8, 2) := by decide +kernel
theorem dL_areSums_113 : decode cL_areSums 113 = .ok (.lload 10, 2) := by decide +kernel
theorem dL_areSums_115 : decode cL_areSums 115 = .ok (.aload_n 0, 1) := by decide +kernel
theorem dL_areSums_116 : decode cL_areSums 116 = .ok (.iload 12, 2) := by decide +kernel
theorem dL_areSums_118 : decode cL_areSums 118 = .ok (.invokevirtual 35, 3) := by decide +kernel
theorem dL_areSums_121 : decode cL_areSums 121 = .ok (.ladd, 1) := by decide +kernel
theorem dL_areSums_122 : decode cL_areSums 122 = .ok (.lstore 10, 2) := by decide +kernel
theorem dL_areSums_124 : decode cL_areSums 124 = .ok (.iinc 12 1, 3) := by decide +kernel
theorem dL_areSums_127 : decode cL_areSums 127 = .ok (.goto (-79), 3) := by decide +kernel
theorem dL_areSums_130 : decode cL_areSums 130 = .ok (.aload_n 0, 1) := by decide +kernel
theorem dL_areSums_131 : decode cL_areSums 131 = .ok (.iload_n 3, 1) := by decide +kernel
theorem dL_areSums_132 : decode cL_areSums 132 = .ok (.invokevirtual 26, 3) := by decide +kernel
theorem dL_areSums_135 : decode cL_areSums 135 = .ok (.lload 4, 2) := by decide +kernel
theorem dL_areSums_137 : decode cL_areSums 137 = .ok (.lcmp, 1) := by decide +kernel
theorem dL_areSums_138 : decode cL_areSums 138 = .ok (.ifCond .ne 34, 3) := by decide +kernel
theorem dL_areSums_141 : decode cL_areSums 141 = .ok (.aload_n 0, 1) := by decide +kernel
theorem dL_areSums_142 : decode cL_areSums 142 = .ok (.iload_n 3, 1) := by decide +kernel
theorem dL_areSums_143 : decode cL_areSums 143 = .ok (.invokevirtual 38, 3) := by decide +kernel
theorem dL_areSums_146 : decode cL_areSums 146 = .ok (.aload_n 1, 1) := by decide +kernel
theorem dL_areSums_147 : decode cL_areSums 147 = .ok (.iload_n 3, 1) := by decide +kernel
theorem dL_areSums_148 : decode cL_areSums 148 = .ok (.invokestatic 29, 3) := by decide +kernel
theorem dL_areSums_151 : decode cL_areSums 151 = .ok (.if_icmp .ne 21, 3) := by decide +kernel
theorem dL_areSums_154 : decode cL_areSums 154 = .ok (.aload_n 0, 1) := by decide +kernel
theorem dL_areSums_155 : decode cL_areSums 155 = .ok (.iload_n 3, 1) := by decide +kernel
theorem dL_areSums_156 : decode cL_areSums 156 = .ok (.invokevirtual 32, 3) := by decide +kernel
theorem dL_areSums_159 : decode cL_areSums 159 = .ok (.aload_n 0, 1) := by decide +kernel
theorem dL_areSums_160 : decode cL_areSums 160 = .ok (.iload_n 3, 1) := by decide +kernel
theorem dL_areSums_161 : decode cL_areSums 161 = .ok (.invokevirtual 42, 3) := by decide +kernel
theorem dL_areSums_164 : decode cL_areSums 164 = .ok (.lcmp, 1) := by decide +kernel
theorem dL_areSums_165 : decode cL_areSums 165 = .ok (.ifCond .ne 7, 3) := by decide +kernel
theorem dL_areSums_168 : decode cL_areSums 168 = .ok (.iconst 1, 1) := by decide +kernel
theorem dL_areSums_169 : decode cL_areSums 169 = .ok (.goto 4, 3) := by decide +kernel
theorem dL_areSums_172 : decode cL_areSums 172 = .ok (.iconst 0, 1) := by decide +kernel
theorem dL_areSums_173 : decode cL_areSums 173 = .ok (.istore_n 2, 1) := by decide +kernel
theorem dL_areSums_174 : decode cL_areSums 174 = .ok (.iload_n 2, 1) := by decide +kernel
theorem dL_areSums_175 : decode cL_areSums 175 = .ok (.ifCond .eq 45, 3) := by decide +kernel
theorem dL_areSums_178 : decode cL_areSums 178 = .ok (.aload_n 1, 1) := by decide +kernel
theorem dL_areSums_179 : decode cL_areSums 179 = .ok (.iload_n 3, 1) := by decide +kernel
theorem dL_areSums_180 : decode cL_areSums 180 = .ok (.invokestatic 10, 3) := by decide +kernel
theorem dL_areSums_183 : decode cL_areSums 183 = .ok (.ifCond .ge 33, 3) := by decide +kernel
theorem dL_areSums_186 : decode cL_areSums 186 = .ok (.aload_n 0, 1) := by decide +kernel
theorem dL_areSums_187 : decode cL_areSums 187 = .ok (.iload_n 3, 1) := by decide +kernel
theorem dL_areSums_188 : decode cL_areSums 188 = .ok (.invokevirtual 26, 3) := by decide +kernel
theorem dL_areSums_191 : decode cL_areSums 191 = .ok (.lload 6, 2) := by decide +kernel
theorem dL_areSums_193 : decode cL_areSums 193 = .ok (.lcmp, 1) := by decide +kernel
theorem dL_areSums_194 : decode cL_areSums 194 = .ok (.ifCond .ne 26, 3) := by decide +kernel
theorem dL_areSums_197 : decode cL_areSums 197 = .ok (.lload 8, 2) := by decide +kernel
theorem dL_areSums_199 : decode cL_areSums 199 = .ok (.lload 6, 2) := by decide +kernel
theorem dL_areSums_201 : decode cL_areSums 201 = .ok (.lcmp, 1) := by decide +kernel
theorem dL_areSums_202 : decode cL_areSums 202 = .ok (.ifCond .ne 18, 3) := by decide +kernel
theorem dL_areSums_205 : decode cL_areSums 205 = .ok (.aload_n 0, 1) := by decide +kernel
theorem dL_areSums_206 : decode cL_areSums 206 = .ok (.iload_n 3, 1) := by decide +kernel
theorem dL_areSums_207 : decode cL_areSums 207 = .ok (.invokevirtual 45, 3) := by decide +kernel
theorem dL_areSums_210 : decode cL_areSums 210 = .ok (.lload 10, 2) := by decide +kernel
theorem dL_areSums_212 : decode cL_areSums 212 = .ok (.lcmp, 1) := by decide +kernel
theorem dL_areSums_213 : decode cL_areSums 213 = .ok (.ifCond .ne 7, 3) := by decide +kernel
theorem dL_areSums_216 : decode cL_areSums 216 = .ok (.iconst 1, 1) := by decide +kernel
theorem dL_areSums_217 : decode cL_areSums 217 = .ok (.goto 4, 3) := by decide +kernel
theorem dL_areSums_220 : decode cL_areSums 220 = .ok (.iconst 0, 1) := by decide +kernel
theorem dL_areSums_221 : decode cL_areSums 221 = .ok (.istore_n 2, 1) := by decide +kernel
theorem dL_areSums_222 : decode cL_areSums 222 = .ok (.iinc 3 1, 3) := by decide +kernel
theorem dL_areSums_225 : decode cL_areSums 225 = .ok (.goto (-207), 3) := by decide +kernel
theorem dL_areSums_228 : decode cL_areSums 228 = .ok (.iload_n 2, 1) := by decide +kernel
theorem dL_areSums_229 : decode cL_areSums 229 = .ok (.ireturn, 1) := by decide +kernel
set_option maxRecDepth 20000 in
theorem ggL_areExposed_X9_balance : GoodIn wsL_areExposed wsX9_balance := goodIn_ca (goodIn_r _ [5, 6, 7, 8, 9, 4, 10, 11, 12, 13, 14, 15, 16, 17, 18, 19, 20, 21, 22, 23, 24, 25, 26, 27, 28, 29, 30, 31, 32, 33, 34, 35, 36, 37, 38, 70, 71, 72, 73, 74, 75, 76, 77, 78, 79, 80, 81, 82, 83, 84, 85, 86, 87, 88, 89, 90, 91, 92, 93] (by decide +kernel) (by decide +kernel)) (goodIn_sub (fun _ h => List.mem_cons_of_mem _ (List.mem_append_left _ (List.mem_append_right _ h))) (by decide +kernel))
set_option maxRecDepth 20000 in
theorem gL_areExposed_X9_balance : GoodIn wsL_areExposed (wsV RL 22 RX9 yX9_balance wsX9_balance) := goodIn_app (goodIn_of _ (by decide +kernel)) ggL_areExposed_X9_balance
set_option maxRecDepth 20000 in
theorem ggL_areExposed_X9_exposure : GoodIn wsL_areExposed wsX9_exposure := goodIn_ca (goodIn_r _ [42, 13, 43, 44, 45, 46, 4, 47, 48, 49, 50, 51, 16, 17, 18, 19, 20, 21, 22, 23, 24, 25, 26, 27, 28, 29, 30, 31, 32, 33, 34, 35, 36, 37, 38, 52, 53, 54, 55, 56, 57, 58, 59, 60, 61, 62, 63, 64, 65, 66, 67, 68, 69, 82, 94, 95, 96, 83, 84, 85, 86, 87, 88, 89, 90, 91, 92, 93, 70, 71, 72, 73, 74, 75, 76, 77, 78, 79, 80, 81] (by decide +kernel) (by decide +kernel)) (goodIn_sub (fun _ h => List.mem_cons_of_mem _ (List.mem_append_right _ h)) (by decide +kernel))
set_option maxRecDepth 20000 in
theorem gL_areExposed_X9_exposure : GoodIn wsL_areExposed (wsV RL 48 RX9 yX9_exposure wsX9_exposure) := goodIn_app (goodIn_of _ (by decide +kernel)) ggL_areExposed_X9_exposure
theorem dL_areExposed_0 : decode cL_areExposed 0 = .ok (.iconst 1, 1) := by decide +kernel
theorem dL_areExposed_1 : decode cL_areExposed 1 = .ok (.istore_n 2, 1) := by decide +kernel
theorem dL_areExposed_2 : decode cL_areExposed 2 = .ok (.iconst 0, 1) := by decide +kernel
theorem dL_areExposed_3 : decode cL_areExposed 3 = .ok (.istore_n 3, 1) := by decide +kernel
theorem dL_areExposed_4 : decode cL_areExposed 4 = .ok (.iload_n 3, 1) := by decide +kernel
theorem dL_areExposed_5 : decode cL_areExposed 5 = .ok (.iconst 4, 1) := by decide +kernel
theorem dL_areExposed_6 : decode cL_areExposed 6 = .ok (.if_icmp .ge 88, 3) := by decide +kernel
theorem dL_areExposed_9 : decode cL_areExposed 9 = .ok (.lconst 0, 1) := by decide +kernel
theorem dL_areExposed_10 : decode cL_areExposed 10 = .ok (.lstore 4, 2) := by decide +kernel
theorem dL_areExposed_12 : decode cL_areExposed 12 = .ok (.iconst 0, 1) := by decide +kernel
theorem dL_areExposed_13 : decode cL_areExposed 13 = .ok (.istore 6, 2) := by decide +kernel
theorem dL_areExposed_15 : decode cL_areExposed 15 = .ok (.iload 6, 2) := by decide +kernel
theorem dL_areExposed_17 : decode cL_areExposed 17 = .ok (.aload_n 1, 1) := by decide +kernel
theorem dL_areExposed_18 : decode cL_areExposed 18 = .ok (.iconst 0, 1) := by decide +kernel
theorem dL_areExposed_19 : decode cL_areExposed 19 = .ok (.iaload, 1) := by decide +kernel
theorem dL_areExposed_20 : decode cL_areExposed 20 = .ok (.if_icmp .ge 47, 3) := by decide +kernel
theorem dL_areExposed_23 : decode cL_areExposed 23 = .ok (.lload 4, 2) := by decide +kernel
theorem dL_areExposed_25 : decode cL_areExposed 25 = .ok (.aload_n 1, 1) := by decide +kernel
theorem dL_areExposed_26 : decode cL_areExposed 26 = .ok (.iconst 2, 1) := by decide +kernel
theorem dL_areExposed_27 : decode cL_areExposed 27 = .ok (.iload 6, 2) := by decide +kernel
theorem dL_areExposed_29 : decode cL_areExposed 29 = .ok (.imul, 1) := by decide +kernel
theorem dL_areExposed_30 : decode cL_areExposed 30 = .ok (.iconst 2, 1) := by decide +kernel
theorem dL_areExposed_31 : decode cL_areExposed 31 = .ok (.iadd, 1) := by decide +kernel
theorem dL_areExposed_32 : decode cL_areExposed 32 = .ok (.iaload, 1) := by decide +kernel
theorem dL_areExposed_33 : decode cL_areExposed 33 = .ok (.iload_n 3, 1) := by decide +kernel
theorem dL_areExposed_34 : decode cL_areExposed 34 = .ok (.if_icmp .ne 23, 3) := by decide +kernel
theorem dL_areExposed_37 : decode cL_areExposed 37 = .ok (.aload_n 0, 1) := by decide +kernel
theorem dL_areExposed_38 : decode cL_areExposed 38 = .ok (.iload 6, 2) := by decide +kernel
theorem dL_areExposed_40 : decode cL_areExposed 40 = .ok (.invokevirtual 22, 3) := by decide +kernel
theorem dL_areExposed_43 : decode cL_areExposed 43 = .ok (.lconst 0, 1) := by decide +kernel
theorem dL_areExposed_44 : decode cL_areExposed 44 = .ok (.lcmp, 1) := by decide +kernel
theorem dL_areExposed_45 : decode cL_areExposed 45 = .ok (.ifCond .le 12, 3) := by decide +kernel
theorem dL_areExposed_48 : decode cL_areExposed 48 = .ok (.aload_n 0, 1) := by decide +kernel
theorem dL_areExposed_49 : decode cL_areExposed 49 = .ok (.iload 6, 2) := by decide +kernel
theorem dL_areExposed_51 : decode cL_areExposed 51 = .ok (.invokevirtual 22, 3) := by decide +kernel
theorem dL_areExposed_54 : decode cL_areExposed 54 = .ok (.goto 4, 3) := by decide +kernel
theorem dL_areExposed_57 : decode cL_areExposed 57 = .ok (.lconst 0, 1) := by decide +kernel
theorem dL_areExposed_58 : decode cL_areExposed 58 = .ok (.ladd, 1) := by decide +kernel
theorem dL_areExposed_59 : decode cL_areExposed 59 = .ok (.lstore 4, 2) := by decide +kernel
theorem dL_areExposed_61 : decode cL_areExposed 61 = .ok (.iinc 6 1, 3) := by decide +kernel
theorem dL_areExposed_64 : decode cL_areExposed 64 = .ok (.goto (-49), 3) := by decide +kernel
theorem dL_areExposed_67 : decode cL_areExposed 67 = .ok (.iload_n 2, 1) := by decide +kernel
theorem dL_areExposed_68 : decode cL_areExposed 68 = .ok (.ifCond .eq 18, 3) := by decide +kernel
theorem dL_areExposed_71 : decode cL_areExposed 71 = .ok (.aload_n 0, 1) := by decide +kernel
theorem dL_areExposed_72 : decode cL_areExposed 72 = .ok (.iload_n 3, 1) := by decide +kernel
theorem dL_areExposed_73 : decode cL_areExposed 73 = .ok (.invokevirtual 48, 3) := by decide +kernel
theorem dL_areExposed_76 : decode cL_areExposed 76 = .ok (.lload 4, 2) := by decide +kernel
theorem dL_areExposed_78 : decode cL_areExposed 78 = .ok (.lcmp, 1) := by decide +kernel
theorem dL_areExposed_79 : decode cL_areExposed 79 = .ok (.ifCond .ne 7, 3) := by decide +kernel
theorem dL_areExposed_82 : decode cL_areExposed 82 = .ok (.iconst 1, 1) := by decide +kernel
theorem dL_areExposed_83 : decode cL_areExposed 83 = .ok (.goto 4, 3) := by decide +kernel
theorem dL_areExposed_86 : decode cL_areExposed 86 = .ok (.iconst 0, 1) := by decide +kernel
theorem dL_areExposed_87 : decode cL_areExposed 87 = .ok (.istore_n 2, 1) := by decide +kernel
theorem dL_areExposed_88 : decode cL_areExposed 88 = .ok (.iinc 3 1, 3) := by decide +kernel
theorem dL_areExposed_91 : decode cL_areExposed 91 = .ok (.goto (-87), 3) := by decide +kernel
theorem dL_areExposed_94 : decode cL_areExposed 94 = .ok (.iload_n 2, 1) := by decide +kernel
theorem dL_areExposed_95 : decode cL_areExposed 95 = .ok (.ireturn, 1) := by decide +kernel
set_option maxRecDepth 20000 in
theorem ggL_areLines_X9_drawn : GoodIn wsL_areLines wsX9_drawn := goodIn_ca (goodIn_r _ [5, 6, 7, 8, 9, 4, 10, 11, 12, 13, 14, 15, 16, 17, 18, 19, 20, 21, 22, 23, 24, 25, 26, 27, 28, 29, 30, 31, 32, 33, 34, 35, 36, 37, 38, 44, 45, 46, 47, 48, 49, 50, 51, 52, 53, 54, 55, 56, 57, 58, 59, 60, 61, 62, 63, 64] (by decide +kernel) (by decide +kernel)) (goodIn_sub (fun _ h => List.mem_cons_of_mem _ (List.mem_append_right _ h)) (by decide +kernel))
set_option maxRecDepth 20000 in
theorem gL_areLines_X9_drawn : GoodIn wsL_areLines (wsV RL 51 RX9 yX9_drawn wsX9_drawn) := goodIn_app (goodIn_of _ (by decide +kernel)) ggL_areLines_X9_drawn
set_option maxRecDepth 20000 in
theorem ggL_areLines_X9_costOf : GoodIn wsL_areLines wsX9_costOf := goodIn_ca (goodIn_r _ [42, 43, 7, 8, 9, 4, 10, 11, 12, 13, 14, 15, 16, 17, 18, 19, 20, 21, 22, 23, 24, 25, 26, 27, 28, 29, 30, 31, 32, 33, 34, 35, 36, 37, 38, 44, 45, 46, 47, 48, 49, 50, 51, 52, 53, 54, 55, 56, 57, 58, 59, 60, 61, 62, 63, 64] (by decide +kernel) (by decide +kernel)) (goodIn_sub (fun _ h => List.mem_cons_of_mem _ (List.mem_append_right _ h)) (by decide +kernel))
set_option maxRecDepth 20000 in
theorem gL_areLines_X9_costOf : GoodIn wsL_areLines (wsV RL 54 RX9 yX9_costOf wsX9_costOf) := goodIn_app (goodIn_of _ (by decide +kernel)) ggL_areLines_X9_costOf
theorem dL_areLines_0 : decode cL_areLines 0 = .ok (.iconst 1, 1) := by decide +kernel
theorem dL_areLines_1 : decode cL_areLines 1 = .ok (.istore_n 2, 1) := by decide +kernel
theorem dL_areLines_2 : decode cL_areLines 2 = .ok (.iconst 0, 1) := by decide +kernel
theorem dL_areLines_3 : decode cL_areLines 3 = .ok (.istore_n 3, 1) := by decide +kernel
theorem dL_areLines_4 : decode cL_areLines 4 = .ok (.iload_n 3, 1) := by decide +kernel
theorem dL_areLines_5 : decode cL_areLines 5 = .ok (.aload_n 1, 1) := by decide +kernel
theorem dL_areLines_6 : decode cL_areLines 6 = .ok (.iconst 1, 1) := by decide +kernel
theorem dL_areLines_7 : decode cL_areLines 7 = .ok (.iaload, 1) := by decide +kernel
theorem dL_areLines_8 : decode cL_areLines 8 = .ok (.if_icmp .ge 53, 3) := by decide +kernel
theorem dL_areLines_11 : decode cL_areLines 11 = .ok (.iload_n 2, 1) := by decide +kernel
theorem dL_areLines_12 : decode cL_areLines 12 = .ok (.ifCond .eq 41, 3) := by decide +kernel
theorem dL_areLines_15 : decode cL_areLines 15 = .ok (.aload_n 0, 1) := by decide +kernel
theorem dL_areLines_16 : decode cL_areLines 16 = .ok (.iload_n 3, 1) := by decide +kernel
theorem dL_areLines_17 : decode cL_areLines 17 = .ok (.invokevirtual 51, 3) := by decide +kernel
theorem dL_areLines_20 : decode cL_areLines 20 = .ok (.ifCond .lt 33, 3) := by decide +kernel
theorem dL_areLines_23 : decode cL_areLines 23 = .ok (.aload_n 0, 1) := by decide +kernel
theorem dL_areLines_24 : decode cL_areLines 24 = .ok (.iload_n 3, 1) := by decide +kernel
theorem dL_areLines_25 : decode cL_areLines 25 = .ok (.invokevirtual 51, 3) := by decide +kernel
theorem dL_areLines_28 : decode cL_areLines 28 = .ok (.aload_n 1, 1) := by decide +kernel
theorem dL_areLines_29 : decode cL_areLines 29 = .ok (.iconst 2, 1) := by decide +kernel
theorem dL_areLines_30 : decode cL_areLines 30 = .ok (.iload_n 3, 1) := by decide +kernel
theorem dL_areLines_31 : decode cL_areLines 31 = .ok (.imul, 1) := by decide +kernel
theorem dL_areLines_32 : decode cL_areLines 32 = .ok (.bipush 23, 2) := by decide +kernel
theorem dL_areLines_34 : decode cL_areLines 34 = .ok (.iadd, 1) := by decide +kernel
theorem dL_areLines_35 : decode cL_areLines 35 = .ok (.iaload, 1) := by decide +kernel
theorem dL_areLines_36 : decode cL_areLines 36 = .ok (.if_icmp .gt 17, 3) := by decide +kernel
theorem dL_areLines_39 : decode cL_areLines 39 = .ok (.aload_n 0, 1) := by decide +kernel
theorem dL_areLines_40 : decode cL_areLines 40 = .ok (.iload_n 3, 1) := by decide +kernel
theorem dL_areLines_41 : decode cL_areLines 41 = .ok (.invokevirtual 54, 3) := by decide +kernel
theorem dL_areLines_44 : decode cL_areLines 44 = .ok (.lconst 0, 1) := by decide +kernel
theorem dL_areLines_45 : decode cL_areLines 45 = .ok (.lcmp, 1) := by decide +kernel
theorem dL_areLines_46 : decode cL_areLines 46 = .ok (.ifCond .lt 7, 3) := by decide +kernel
theorem dL_areLines_49 : decode cL_areLines 49 = .ok (.iconst 1, 1) := by decide +kernel
theorem dL_areLines_50 : decode cL_areLines 50 = .ok (.goto 4, 3) := by decide +kernel
theorem dL_areLines_53 : decode cL_areLines 53 = .ok (.iconst 0, 1) := by decide +kernel
theorem dL_areLines_54 : decode cL_areLines 54 = .ok (.istore_n 2, 1) := by decide +kernel
theorem dL_areLines_55 : decode cL_areLines 55 = .ok (.iinc 3 1, 3) := by decide +kernel
theorem dL_areLines_58 : decode cL_areLines 58 = .ok (.goto (-54), 3) := by decide +kernel
theorem dL_areLines_61 : decode cL_areLines 61 = .ok (.iload_n 2, 1) := by decide +kernel
theorem dL_areLines_62 : decode cL_areLines 62 = .ok (.ireturn, 1) := by decide +kernel
set_option maxRecDepth 20000 in
theorem ggL_isSwept_X9_afterSweep : GoodIn wsL_isSwept wsX9_afterSweep := goodIn_ca (goodIn_r _ [5, 6, 7, 8, 4, 9, 10, 11, 12, 13, 14, 15, 16, 17, 18, 19, 20, 21, 22, 23, 24, 25, 26, 27, 28, 29, 30, 31, 32, 33, 34, 35, 36, 37, 38, 39, 40, 41, 42, 43, 44, 45, 46, 47, 48, 49, 50, 51, 52, 53, 54, 55, 56, 57, 58, 59, 60, 61, 62, 63, 64, 65, 66, 67, 68, 69, 70, 71, 72, 73, 74, 75, 76, 77, 90, 91, 92, 93, 94, 95, 96, 97, 98, 99, 100, 101, 102, 103, 104, 105, 106, 107, 108, 109, 110, 111, 112, 113] (by decide +kernel) (by decide +kernel)) (goodIn_sub (fun _ h => List.mem_cons_of_mem _ (List.mem_append_right _ h)) (by decide +kernel))
set_option maxRecDepth 20000 in
theorem gL_isSwept_X9_afterSweep : GoodIn wsL_isSwept (wsV RL 32 RX9 yX9_afterSweep wsX9_afterSweep) := goodIn_app (goodIn_of _ (by decide +kernel)) ggL_isSwept_X9_afterSweep
set_option maxRecDepth 20000 in
theorem ggL_isSwept_L_parent : GoodIn wsL_isSwept wsL_parent := goodIn_r _ [81] (by decide +kernel) (by decide +kernel)
set_option maxRecDepth 20000 in
theorem gL_isSwept_L_parent : GoodIn wsL_isSwept (va_wsS RL 10 yL_parent wsL_parent) := goodIn_app (goodIn_of _ (by decide +kernel)) ggL_isSwept_L_parent
set_option maxRecDepth 20000 in
theorem ggL_isSwept_X9_balance : GoodIn wsL_isSwept wsX9_balance := goodIn_ca (goodIn_r _ [85, 86, 6, 7, 8, 4, 9, 10, 11, 12, 13, 14, 15, 16, 17, 18, 19, 20, 21, 22, 23, 24, 25, 26, 27, 28, 29, 30, 31, 32, 33, 34, 35, 36, 37, 102, 103, 104, 105, 106, 107, 108, 109, 110, 111, 112, 113, 90, 91, 92, 93, 94, 95, 96, 97, 98, 99, 100, 101] (by decide +kernel) (by decide +kernel)) (goodIn_sub (fun _ h => List.mem_cons_of_mem _ (List.mem_append_right _ h)) (by decide +kernel))
set_option maxRecDepth 20000 in
theorem gL_isSwept_X9_balance : GoodIn wsL_isSwept (wsV RL 22 RX9 yX9_balance wsX9_balance) := goodIn_app (goodIn_of _ (by decide +kernel)) ggL_isSwept_X9_balance
set_option maxRecDepth 20000 in
theorem ggL_isSwept_L_parentIsShort : GoodIn wsL_isSwept wsL_parentIsShort := goodIn_ca (goodIn_r _ [89, 1, 2, 3, 4, 5, 6, 7, 8, 9, 10, 11, 12, 13, 14, 15, 16, 17, 18, 19, 20, 21, 22, 23, 24, 25, 26, 27, 28, 29, 30, 31, 32, 33, 34, 35, 36, 37, 38, 39, 40, 41, 42, 43, 44, 45, 46, 47, 48, 49, 50, 51, 52, 53, 54, 55, 56, 57, 58, 59, 60, 61, 62, 63, 64, 65, 66, 67, 68, 69, 70, 71, 72, 73, 74, 75, 76, 77, 90, 91, 92, 93, 94, 95, 96, 97, 98, 99, 100, 101, 102, 103, 104, 105, 106, 107, 108, 109, 110, 111, 112, 113] (by decide +kernel) (by decide +kernel)) (goodIn_sub (fun _ h => List.mem_cons_of_mem _ (List.mem_append_right _ h)) (by decide +kernel))
set_option maxRecDepth 20000 in
theorem gL_isSwept_L_parentIsShort : GoodIn wsL_isSwept (va_wsS RL 57 yL_parentIsShort wsL_parentIsShort) := goodIn_app (goodIn_of _ (by decide +kernel)) ggL_isSwept_L_parentIsShort
theorem dL_isSwept_0 : decode cL_isSwept 0 = .ok (.iconst 1, 1) := by decide +kernel
theorem dL_isSwept_1 : decode cL_isSwept 1 = .ok (.istore_n 2, 1) := by decide +kernel
theorem dL_isSwept_2 : decode cL_isSwept 2 = .ok (.iconst 0, 1) := by decide +kernel
theorem dL_isSwept_3 : decode cL_isSwept 3 = .ok (.istore_n 3, 1) := by decide +kernel
theorem dL_isSwept_4 : decode cL_isSwept 4 = .ok (.iload_n 3, 1) := by decide +kernel
theorem dL_isSwept_5 : decode cL_isSwept 5 = .ok (.aload_n 1, 1) := by decide +kernel
theorem dL_isSwept_6 : decode cL_isSwept 6 = .ok (.iconst 0, 1) := by decide +kernel
theorem dL_isSwept_7 : decode cL_isSwept 7 = .ok (.iaload, 1) := by decide +kernel
theorem dL_isSwept_8 : decode cL_isSwept 8 = .ok (.if_icmp .ge 251, 3) := by decide +kernel
theorem dL_isSwept_11 : decode cL_isSwept 11 = .ok (.aload_n 1, 1) := by decide +kernel
theorem dL_isSwept_12 : decode cL_isSwept 12 = .ok (.iconst 3, 1) := by decide +kernel
theorem dL_isSwept_13 : decode cL_isSwept 13 = .ok (.iload_n 3, 1) := by decide +kernel
theorem dL_isSwept_14 : decode cL_isSwept 14 = .ok (.imul, 1) := by decide +kernel
theorem dL_isSwept_15 : decode cL_isSwept 15 = .ok (.bipush 34, 2) := by decide +kernel
theorem dL_isSwept_17 : decode cL_isSwept 17 = .ok (.iadd, 1) := by decide +kernel
theorem dL_isSwept_18 : decode cL_isSwept 18 = .ok (.iaload, 1) := by decide +kernel
theorem dL_isSwept_19 : decode cL_isSwept 19 = .ok (.istore 4, 2) := by decide +kernel
theorem dL_isSwept_21 : decode cL_isSwept 21 = .ok (.aload_n 0, 1) := by decide +kernel
theorem dL_isSwept_22 : decode cL_isSwept 22 = .ok (.iload_n 3, 1) := by decide +kernel
theorem dL_isSwept_23 : decode cL_isSwept 23 = .ok (.invokevirtual 32, 3) := by decide +kernel
theorem dL_isSwept_26 : decode cL_isSwept 26 = .ok (.lstore 5, 2) := by decide +kernel
theorem dL_isSwept_28 : decode cL_isSwept 28 = .ok (.iconst 0, 1) := by decide +kernel
theorem dL_isSwept_29 : decode cL_isSwept 29 = .ok (.istore 7, 2) := by decide +kernel
theorem dL_isSwept_31 : decode cL_isSwept 31 = .ok (.iconst 0, 1) := by decide +kernel
theorem dL_isSwept_32 : decode cL_isSwept 32 = .ok (.istore 8, 2) := by decide +kernel
theorem dL_isSwept_34 : decode cL_isSwept 34 = .ok (.iload 8, 2) := by decide +kernel
theorem dL_isSwept_36 : decode cL_isSwept 36 = .ok (.aload_n 1, 1) := by decide +kernel
theorem dL_isSwept_37 : decode cL_isSwept 37 = .ok (.iconst 0, 1) := by decide +kernel
theorem dL_isSwept_38 : decode cL_isSwept 38 = .ok (.iaload, 1) := by decide +kernel
theorem dL_isSwept_39 : decode cL_isSwept 39 = .ok (.if_icmp .ge 31, 3) := by decide +kernel
theorem dL_isSwept_42 : decode cL_isSwept 42 = .ok (.iload 7, 2) := by decide +kernel
theorem dL_isSwept_44 : decode cL_isSwept 44 = .ok (.ifCond .ne 13, 3) := by decide +kernel
theorem dL_isSwept_47 : decode cL_isSwept 47 = .ok (.aload_n 1, 1) := by decide +kernel
theorem dL_isSwept_48 : decode cL_isSwept 48 = .ok (.iload 8, 2) := by decide +kernel
theorem dL_isSwept_50 : decode cL_isSwept 50 = .ok (.invokestatic 10, 3) := by decide +kernel
theorem dL_isSwept_53 : decode cL_isSwept 53 = .ok (.iload_n 3, 1) := by decide +kernel
theorem dL_isSwept_54 : decode cL_isSwept 54 = .ok (.if_icmp .ne 7, 3) := by decide +kernel
theorem dL_isSwept_57 : decode cL_isSwept 57 = .ok (.iconst 1, 1) := by decide +kernel
theorem dL_isSwept_58 : decode cL_isSwept 58 = .ok (.goto 4, 3) := by decide +kernel
theorem dL_isSwept_61 : decode cL_isSwept 61 = .ok (.iconst 0, 1) := by decide +kernel
theorem dL_isSwept_62 : decode cL_isSwept 62 = .ok (.istore 7, 2) := by decide +kernel
theorem dL_isSwept_64 : decode cL_isSwept 64 = .ok (.iinc 8 1, 3) := by decide +kernel
theorem dL_isSwept_67 : decode cL_isSwept 67 = .ok (.goto (-33), 3) := by decide +kernel
theorem dL_isSwept_70 : decode cL_isSwept 70 = .ok (.aload_n 1, 1) := by decide +kernel
theorem dL_isSwept_71 : decode cL_isSwept 71 = .ok (.iload_n 3, 1) := by decide +kernel
theorem dL_isSwept_72 : decode cL_isSwept 72 = .ok (.invokestatic 10, 3) := by decide +kernel
theorem dL_isSwept_75 : decode cL_isSwept 75 = .ok (.ifCond .lt 178, 3) := by decide +kernel
theorem dL_isSwept_78 : decode cL_isSwept 78 = .ok (.iload 7, 2) := by decide +kernel
theorem dL_isSwept_80 : decode cL_isSwept 80 = .ok (.ifCond .ne 173, 3) := by decide +kernel
theorem dL_isSwept_83 : decode cL_isSwept 83 = .ok (.lload 5, 2) := by decide +kernel
theorem dL_isSwept_85 : decode cL_isSwept 85 = .ok (.aload_n 1, 1) := by decide +kernel
theorem dL_isSwept_86 : decode cL_isSwept 86 = .ok (.iconst 3, 1) := by decide +kernel
theorem dL_isSwept_87 : decode cL_isSwept 87 = .ok (.iload_n 3, 1) := by decide +kernel
theorem dL_isSwept_88 : decode cL_isSwept 88 = .ok (.imul, 1) := by decide +kernel
theorem dL_isSwept_89 : decode cL_isSwept 89 = .ok (.bipush 35, 2) := by decide +kernel
theorem dL_isSwept_91 : decode cL_isSwept 91 = .ok (.iadd, 1) := by decide +kernel
theorem dL_isSwept_92 : decode cL_isSwept 92 = .ok (.iaload, 1) := by decide +kernel
theorem dL_isSwept_93 : decode cL_isSwept 93 = .ok (.i2l, 1) := by decide +kernel
theorem dL_isSwept_94 : decode cL_isSwept 94 = .ok (.lsub, 1) := by decide +kernel
theorem dL_isSwept_95 : decode cL_isSwept 95 = .ok (.lstore 8, 2) := by decide +kernel
theorem dL_isSwept_97 : decode cL_isSwept 97 = .ok (.iload_n 2, 1) := by decide +kernel
theorem dL_isSwept_98 : decode cL_isSwept 98 = .ok (.ifCond .eq 111, 3) := by decide +kernel
theorem dL_isSwept_101 : decode cL_isSwept 101 = .ok (.iload 4, 2) := by decide +kernel
theorem dL_isSwept_103 : decode cL_isSwept 103 = .ok (.iconst 1, 1) := by decide +kernel
theorem dL_isSwept_104 : decode cL_isSwept 104 = .ok (.if_icmp .eq 9, 3) := by decide +kernel
theorem dL_isSwept_107 : decode cL_isSwept 107 = .ok (.iload 4, 2) := by decide +kernel
theorem dL_isSwept_109 : decode cL_isSwept 109 = .ok (.iconst 2, 1) := by decide +kernel
theorem dL_isSwept_110 : decode cL_isSwept 110 = .ok (.if_icmp .ne 13, 3) := by decide +kernel
theorem dL_isSwept_113 : decode cL_isSwept 113 = .ok (.lload 8, 2) := by decide +kernel
theorem dL_isSwept_115 : decode cL_isSwept 115 = .ok (.lconst 0, 1) := by decide +kernel
theorem dL_isSwept_116 : decode cL_isSwept 116 = .ok (.lcmp, 1) := by decide +kernel
theorem dL_isSwept_117 : decode cL_isSwept 117 = .ok (.ifCond .gt 92, 3) := by decide +kernel
theorem dL_isSwept_120 : decode cL_isSwept 120 = .ok (.goto 19, 3) := by decide +kernel
theorem dL_isSwept_123 : decode cL_isSwept 123 = .ok (.iload 4, 2) := by decide +kernel
theorem dL_isSwept_125 : decode cL_isSwept 125 = .ok (.ifCond .ne 14, 3) := by decide +kernel
theorem dL_isSwept_128 : decode cL_isSwept 128 = .ok (.lload 5, 2) := by decide +kernel
theorem dL_isSwept_130 : decode cL_isSwept 130 = .ok (.aload_n 0, 1) := by decide +kernel
theorem dL_isSwept_131 : decode cL_isSwept 131 = .ok (.iload_n 3, 1) := by decide +kernel
theorem dL_isSwept_132 : decode cL_isSwept 132 = .ok (.invokevirtual 22, 3) := by decide +kernel
theorem dL_isSwept_135 : decode cL_isSwept 135 = .ok (.lcmp, 1) := by decide +kernel
theorem dL_isSwept_136 : decode cL_isSwept 136 = .ok (.ifCond .ne 73, 3) := by decide +kernel
theorem dL_isSwept_139 : decode cL_isSwept 139 = .ok (.iload 4, 2) := by decide +kernel
theorem dL_isSwept_141 : decode cL_isSwept 141 = .ok (.iconst 2, 1) := by decide +kernel
theorem dL_isSwept_142 : decode cL_isSwept 142 = .ok (.if_icmp .eq 8, 3) := by decide +kernel
theorem dL_isSwept_145 : decode cL_isSwept 145 = .ok (.iload 4, 2) := by decide +kernel
theorem dL_isSwept_147 : decode cL_isSwept 147 = .ok (.ifCond .ne 17, 3) := by decide +kernel
theorem dL_isSwept_150 : decode cL_isSwept 150 = .ok (.lload 5, 2) := by decide +kernel
theorem dL_isSwept_152 : decode cL_isSwept 152 = .ok (.aload_n 0, 1) := by decide +kernel
theorem dL_isSwept_153 : decode cL_isSwept 153 = .ok (.iload_n 3, 1) := by decide +kernel
theorem dL_isSwept_154 : decode cL_isSwept 154 = .ok (.invokevirtual 22, 3) := by decide +kernel
theorem dL_isSwept_157 : decode cL_isSwept 157 = .ok (.lcmp, 1) := by decide +kernel
theorem dL_isSwept_158 : decode cL_isSwept 158 = .ok (.ifCond .gt 51, 3) := by decide +kernel
theorem dL_isSwept_161 : decode cL_isSwept 161 = .ok (.goto 20, 3) := by decide +kernel
theorem dL_isSwept_164 : decode cL_isSwept 164 = .ok (.iload 4, 2) := by decide +kernel
theorem dL_isSwept_166 : decode cL_isSwept 166 = .ok (.iconst 1, 1) := by decide +kernel
theorem dL_isSwept_167 : decode cL_isSwept 167 = .ok (.if_icmp .eq 14, 3) := by decide +kernel
theorem dL_isSwept_170 : decode cL_isSwept 170 = .ok (.lload 5, 2) := by decide +kernel
theorem dL_isSwept_172 : decode cL_isSwept 172 = .ok (.aload_n 0, 1) := by decide +kernel
theorem dL_isSwept_173 : decode cL_isSwept 173 = .ok (.iload_n 3, 1) := by decide +kernel
theorem dL_isSwept_174 : decode cL_isSwept 174 = .ok (.invokevirtual 22, 3) := by decide +kernel
theorem dL_isSwept_177 : decode cL_isSwept 177 = .ok (.lcmp, 1) := by decide +kernel
theorem dL_isSwept_178 : decode cL_isSwept 178 = .ok (.ifCond .lt 31, 3) := by decide +kernel
theorem dL_isSwept_181 : decode cL_isSwept 181 = .ok (.iload 4, 2) := by decide +kernel
theorem dL_isSwept_183 : decode cL_isSwept 183 = .ok (.iconst 3, 1) := by decide +kernel
theorem dL_isSwept_184 : decode cL_isSwept 184 = .ok (.if_icmp .ne 21, 3) := by decide +kernel
theorem dL_isSwept_187 : decode cL_isSwept 187 = .ok (.lload 8, 2) := by decide +kernel
theorem dL_isSwept_189 : decode cL_isSwept 189 = .ok (.lconst 0, 1) := by decide +kernel
theorem dL_isSwept_190 : decode cL_isSwept 190 = .ok (.lcmp, 1) := by decide +kernel
theorem dL_isSwept_191 : decode cL_isSwept 191 = .ok (.ifCond .le 14, 3) := by decide +kernel
theorem dL_isSwept_194 : decode cL_isSwept 194 = .ok (.lload 5, 2) := by decide +kernel
theorem dL_isSwept_196 : decode cL_isSwept 196 = .ok (.aload_n 0, 1) := by decide +kernel
theorem dL_isSwept_197 : decode cL_isSwept 197 = .ok (.iload_n 3, 1) := by decide +kernel
theorem dL_isSwept_198 : decode cL_isSwept 198 = .ok (.invokevirtual 22, 3) := by decide +kernel
theorem dL_isSwept_201 : decode cL_isSwept 201 = .ok (.lcmp, 1) := by decide +kernel
theorem dL_isSwept_202 : decode cL_isSwept 202 = .ok (.ifCond .ne 7, 3) := by decide +kernel
theorem dL_isSwept_205 : decode cL_isSwept 205 = .ok (.iconst 1, 1) := by decide +kernel
theorem dL_isSwept_206 : decode cL_isSwept 206 = .ok (.goto 4, 3) := by decide +kernel
theorem dL_isSwept_209 : decode cL_isSwept 209 = .ok (.iconst 0, 1) := by decide +kernel
theorem dL_isSwept_210 : decode cL_isSwept 210 = .ok (.istore_n 2, 1) := by decide +kernel
theorem dL_isSwept_211 : decode cL_isSwept 211 = .ok (.iload_n 2, 1) := by decide +kernel
theorem dL_isSwept_212 : decode cL_isSwept 212 = .ok (.ifCond .eq 39, 3) := by decide +kernel
theorem dL_isSwept_215 : decode cL_isSwept 215 = .ok (.iload 4, 2) := by decide +kernel
theorem dL_isSwept_217 : decode cL_isSwept 217 = .ok (.iconst 1, 1) := by decide +kernel
theorem dL_isSwept_218 : decode cL_isSwept 218 = .ok (.if_icmp .eq 9, 3) := by decide +kernel
theorem dL_isSwept_221 : decode cL_isSwept 221 = .ok (.iload 4, 2) := by decide +kernel
theorem dL_isSwept_223 : decode cL_isSwept 223 = .ok (.iconst 3, 1) := by decide +kernel
theorem dL_isSwept_224 : decode cL_isSwept 224 = .ok (.if_icmp .ne 23, 3) := by decide +kernel
theorem dL_isSwept_227 : decode cL_isSwept 227 = .ok (.lload 8, 2) := by decide +kernel
theorem dL_isSwept_229 : decode cL_isSwept 229 = .ok (.lconst 0, 1) := by decide +kernel
theorem dL_isSwept_230 : decode cL_isSwept 230 = .ok (.lcmp, 1) := by decide +kernel
theorem dL_isSwept_231 : decode cL_isSwept 231 = .ok (.ifCond .ge 16, 3) := by decide +kernel
theorem dL_isSwept_234 : decode cL_isSwept 234 = .ok (.aload_n 0, 1) := by decide +kernel
theorem dL_isSwept_235 : decode cL_isSwept 235 = .ok (.aload_n 1, 1) := by decide +kernel
theorem dL_isSwept_236 : decode cL_isSwept 236 = .ok (.aload_n 1, 1) := by decide +kernel
theorem dL_isSwept_237 : decode cL_isSwept 237 = .ok (.iload_n 3, 1) := by decide +kernel
theorem dL_isSwept_238 : decode cL_isSwept 238 = .ok (.invokestatic 10, 3) := by decide +kernel
theorem dL_isSwept_241 : decode cL_isSwept 241 = .ok (.invokestatic 57, 3) := by decide +kernel
theorem dL_isSwept_244 : decode cL_isSwept 244 = .ok (.ifCond .eq 7, 3) := by decide +kernel
theorem dL_isSwept_247 : decode cL_isSwept 247 = .ok (.iconst 1, 1) := by decide +kernel
theorem dL_isSwept_248 : decode cL_isSwept 248 = .ok (.goto 4, 3) := by decide +kernel
theorem dL_isSwept_251 : decode cL_isSwept 251 = .ok (.iconst 0, 1) := by decide +kernel
theorem dL_isSwept_252 : decode cL_isSwept 252 = .ok (.istore_n 2, 1) := by decide +kernel
theorem dL_isSwept_253 : decode cL_isSwept 253 = .ok (.iinc 3 1, 3) := by decide +kernel
theorem dL_isSwept_256 : decode cL_isSwept 256 = .ok (.goto (-252), 3) := by decide +kernel
theorem dL_isSwept_259 : decode cL_isSwept 259 = .ok (.iload_n 2, 1) := by decide +kernel
theorem dL_isSwept_260 : decode cL_isSwept 260 = .ok (.ireturn, 1) := by decide +kernel
set_option maxRecDepth 20000 in
theorem ggL_parentIsShort_X9_afterSweep : GoodIn wsL_parentIsShort wsX9_afterSweep := goodIn_ca (goodIn_r _ [5, 6, 7, 8, 4, 9, 10, 11, 12, 13, 14, 15, 16, 17, 18, 19, 20, 21, 22, 23, 24, 25, 26, 27, 28, 29, 30, 31, 32, 33, 34, 35, 36, 37, 38, 39, 40, 41, 42, 43, 44, 45, 46, 47, 48, 49, 50, 51, 52, 53, 54, 55, 56, 57, 58, 59, 60, 61, 62, 63, 64, 65, 66, 67, 68, 69, 70, 71, 72, 73, 74, 75, 76, 77, 78, 79, 80, 81, 82, 83, 84, 85, 86, 87, 88, 89, 90, 91, 92, 93, 94, 95, 96, 97, 98, 99, 100, 101] (by decide +kernel) (by decide +kernel)) (goodIn_sub (fun _ h => List.mem_cons_of_mem _ (List.mem_append_right _ h)) (by decide +kernel))
set_option maxRecDepth 20000 in
theorem gL_parentIsShort_X9_afterSweep : GoodIn wsL_parentIsShort (wsV RL 32 RX9 yX9_afterSweep wsX9_afterSweep) := goodIn_app (goodIn_of _ (by decide +kernel)) ggL_parentIsShort_X9_afterSweep
theorem dL_parentIsShort_0 : decode cL_parentIsShort 0 = .ok (.aload_n 0, 1) := by decide +kernel
theorem dL_parentIsShort_1 : decode cL_parentIsShort 1 = .ok (.iload_n 2, 1) := by decide +kernel
theorem dL_parentIsShort_2 : decode cL_parentIsShort 2 = .ok (.invokevirtual 32, 3) := by decide +kernel
theorem dL_parentIsShort_5 : decode cL_parentIsShort 5 = .ok (.aload_n 1, 1) := by decide +kernel
theorem dL_parentIsShort_6 : decode cL_parentIsShort 6 = .ok (.iconst 3, 1) := by decide +kernel
theorem dL_parentIsShort_7 : decode cL_parentIsShort 7 = .ok (.iload_n 2, 1) := by decide +kernel
theorem dL_parentIsShort_8 : decode cL_parentIsShort 8 = .ok (.imul, 1) := by decide +kernel
theorem dL_parentIsShort_9 : decode cL_parentIsShort 9 = .ok (.bipush 36, 2) := by decide +kernel
theorem dL_parentIsShort_11 : decode cL_parentIsShort 11 = .ok (.iadd, 1) := by decide +kernel
theorem dL_parentIsShort_12 : decode cL_parentIsShort 12 = .ok (.iaload, 1) := by decide +kernel
theorem dL_parentIsShort_13 : decode cL_parentIsShort 13 = .ok (.i2l, 1) := by decide +kernel
theorem dL_parentIsShort_14 : decode cL_parentIsShort 14 = .ok (.lcmp, 1) := by decide +kernel
theorem dL_parentIsShort_15 : decode cL_parentIsShort 15 = .ok (.ifCond .gt 7, 3) := by decide +kernel
theorem dL_parentIsShort_18 : decode cL_parentIsShort 18 = .ok (.iconst 1, 1) := by decide +kernel
theorem dL_parentIsShort_19 : decode cL_parentIsShort 19 = .ok (.goto 4, 3) := by decide +kernel
theorem dL_parentIsShort_22 : decode cL_parentIsShort 22 = .ok (.iconst 0, 1) := by decide +kernel
theorem dL_parentIsShort_23 : decode cL_parentIsShort 23 = .ok (.ireturn, 1) := by decide +kernel
set_option maxRecDepth 20000 in
theorem ggL_isSettled_X9_balance : GoodIn wsL_isSettled wsX9_balance := goodIn_ca (goodIn_r _ [5, 6, 7, 8, 9, 4, 10, 11, 12, 13, 14, 15, 16, 17, 18, 19, 20, 21, 22, 23, 24, 25, 26, 27, 28, 29, 30, 31, 32, 33, 34, 35, 36, 37, 38, 88, 89, 90, 91, 92, 93, 94, 95, 96, 97, 98, 99, 100, 101, 102, 103, 104, 105, 106, 107, 108, 109, 110, 111] (by decide +kernel) (by decide +kernel)) (goodIn_sub (fun _ h => List.mem_cons_of_mem _ (List.mem_append_left _ (List.mem_append_right _ h))) (by decide +kernel))
set_option maxRecDepth 20000 in
theorem gL_isSettled_X9_balance : GoodIn wsL_isSettled (wsV RL 22 RX9 yX9_balance wsX9_balance) := goodIn_app (goodIn_of _ (by decide +kernel)) ggL_isSettled_X9_balance
set_option maxRecDepth 20000 in
theorem ggL_isSettled_X9_exposure : GoodIn wsL_isSettled wsX9_exposure := goodIn_ca (goodIn_r _ [42, 13, 43, 44, 45, 46, 4, 47, 48, 49, 50, 51, 16, 17, 18, 19, 20, 21, 22, 23, 24, 25, 26, 27, 28, 29, 30, 31, 32, 33, 34, 35, 36, 37, 38, 52, 53, 54, 55, 56, 57, 58, 59, 60, 61, 62, 63, 64, 65, 66, 67, 68, 69, 100, 112, 113, 114, 101, 102, 103, 104, 105, 106, 107, 108, 109, 110, 111, 88, 89, 90, 91, 92, 93, 94, 95, 96, 97, 98, 99] (by decide +kernel) (by decide +kernel)) (goodIn_sub (fun _ h => List.mem_cons_of_mem _ (List.mem_append_right _ h)) (by decide +kernel))
set_option maxRecDepth 20000 in
theorem gL_isSettled_X9_exposure : GoodIn wsL_isSettled (wsV RL 48 RX9 yX9_exposure wsX9_exposure) := goodIn_app (goodIn_of _ (by decide +kernel)) ggL_isSettled_X9_exposure
set_option maxRecDepth 20000 in
theorem ggL_isSettled_L_top : GoodIn wsL_isSettled wsL_top := goodIn_r _ [73, 74, 75, 72, 76] (by decide +kernel) (by decide +kernel)
set_option maxRecDepth 20000 in
theorem gL_isSettled_L_top : GoodIn wsL_isSettled (va_wsS RL 29 yL_top wsL_top) := goodIn_app (goodIn_of _ (by decide +kernel)) ggL_isSettled_L_top
set_option maxRecDepth 20000 in
theorem ggL_isSettled_X9_drawn : GoodIn wsL_isSettled wsX9_drawn := goodIn_ca (goodIn_r _ [80, 81, 82, 83, 84, 4, 85, 11, 12, 13, 86, 87, 16, 17, 18, 19, 20, 21, 22, 23, 24, 25, 26, 27, 28, 29, 30, 31, 32, 33, 34, 35, 36, 37, 38, 115, 116, 117, 118, 119, 120, 121, 122, 123, 100, 101, 102, 103, 104, 105, 106, 107, 108, 109, 110, 111] (by decide +kernel) (by decide +kernel)) (goodIn_sub (fun _ h => List.mem_cons_of_mem _ (List.mem_append_left _ (List.mem_append_right _ h))) (by decide +kernel))
set_option maxRecDepth 20000 in
theorem gL_isSettled_X9_drawn : GoodIn wsL_isSettled (wsV RL 51 RX9 yX9_drawn wsX9_drawn) := goodIn_app (goodIn_of _ (by decide +kernel)) ggL_isSettled_X9_drawn
theorem dL_isSettled_0 : decode cL_isSettled 0 = .ok (.iconst 1, 1) := by decide +kernel
theorem dL_isSettled_1 : decode cL_isSettled 1 = .ok (.istore_n 3, 1) := by decide +kernel
theorem dL_isSettled_2 : decode cL_isSettled 2 = .ok (.iconst 0, 1) := by decide +kernel
theorem dL_isSettled_3 : decode cL_isSettled 3 = .ok (.istore 4, 2) := by decide +kernel
theorem dL_isSettled_5 : decode cL_isSettled 5 = .ok (.iload 4, 2) := by decide +kernel
theorem dL_isSettled_7 : decode cL_isSettled 7 = .ok (.aload_n 1, 1) := by decide +kernel
theorem dL_isSettled_8 : decode cL_isSettled 8 = .ok (.iconst 0, 1) := by decide +kernel
theorem dL_isSettled_9 : decode cL_isSettled 9 = .ok (.iaload, 1) := by decide +kernel
theorem dL_isSettled_10 : decode cL_isSettled 10 = .ok (.if_icmp .ge 231, 3) := by decide +kernel
theorem dL_isSettled_13 : decode cL_isSettled 13 = .ok (.aload_n 1, 1) := by decide +kernel
theorem dL_isSettled_14 : decode cL_isSettled 14 = .ok (.iconst 2, 1) := by decide +kernel
theorem dL_isSettled_15 : decode cL_isSettled 15 = .ok (.iload 4, 2) := by decide +kernel
theorem dL_isSettled_17 : decode cL_isSettled 17 = .ok (.imul, 1) := by decide +kernel
theorem dL_isSettled_18 : decode cL_isSettled 18 = .ok (.iconst 2, 1) := by decide +kernel
theorem dL_isSettled_19 : decode cL_isSettled 19 = .ok (.iadd, 1) := by decide +kernel
theorem dL_isSettled_20 : decode cL_isSettled 20 = .ok (.iaload, 1) := by decide +kernel
theorem dL_isSettled_21 : decode cL_isSettled 21 = .ok (.istore 5, 2) := by decide +kernel
theorem dL_isSettled_23 : decode cL_isSettled 23 = .ok (.aload_n 0, 1) := by decide +kernel
theorem dL_isSettled_24 : decode cL_isSettled 24 = .ok (.iload 4, 2) := by decide +kernel
theorem dL_isSettled_26 : decode cL_isSettled 26 = .ok (.invokevirtual 22, 3) := by decide +kernel
theorem dL_isSettled_29 : decode cL_isSettled 29 = .ok (.lconst 0, 1) := by decide +kernel
theorem dL_isSettled_30 : decode cL_isSettled 30 = .ok (.lcmp, 1) := by decide +kernel
theorem dL_isSettled_31 : decode cL_isSettled 31 = .ok (.ifCond .le 29, 3) := by decide +kernel
theorem dL_isSettled_34 : decode cL_isSettled 34 = .ok (.aload_n 2, 1) := by decide +kernel
theorem dL_isSettled_35 : decode cL_isSettled 35 = .ok (.iload 5, 2) := by decide +kernel
theorem dL_isSettled_37 : decode cL_isSettled 37 = .ok (.iaload, 1) := by decide +kernel
theorem dL_isSettled_38 : decode cL_isSettled 38 = .ok (.ifCond .lt 22, 3) := by decide +kernel
theorem dL_isSettled_41 : decode cL_isSettled 41 = .ok (.aload_n 0, 1) := by decide +kernel
theorem dL_isSettled_42 : decode cL_isSettled 42 = .ok (.iload 5, 2) := by decide +kernel
theorem dL_isSettled_44 : decode cL_isSettled 44 = .ok (.invokevirtual 48, 3) := by decide +kernel
theorem dL_isSettled_47 : decode cL_isSettled 47 = .ok (.aload_n 2, 1) := by decide +kernel
theorem dL_isSettled_48 : decode cL_isSettled 48 = .ok (.iload 5, 2) := by decide +kernel
theorem dL_isSettled_50 : decode cL_isSettled 50 = .ok (.iaload, 1) := by decide +kernel
theorem dL_isSettled_51 : decode cL_isSettled 51 = .ok (.i2l, 1) := by decide +kernel
theorem dL_isSettled_52 : decode cL_isSettled 52 = .ok (.lcmp, 1) := by decide +kernel
theorem dL_isSettled_53 : decode cL_isSettled 53 = .ok (.ifCond .le 7, 3) := by decide +kernel
theorem dL_isSettled_56 : decode cL_isSettled 56 = .ok (.iconst 1, 1) := by decide +kernel
theorem dL_isSettled_57 : decode cL_isSettled 57 = .ok (.goto 4, 3) := by decide +kernel
theorem dL_isSettled_60 : decode cL_isSettled 60 = .ok (.iconst 0, 1) := by decide +kernel
theorem dL_isSettled_61 : decode cL_isSettled 61 = .ok (.istore 6, 2) := by decide +kernel
theorem dL_isSettled_63 : decode cL_isSettled 63 = .ok (.iconst 0, 1) := by decide +kernel
theorem dL_isSettled_64 : decode cL_isSettled 64 = .ok (.istore 7, 2) := by decide +kernel
theorem dL_isSettled_66 : decode cL_isSettled 66 = .ok (.iload 7, 2) := by decide +kernel
theorem dL_isSettled_68 : decode cL_isSettled 68 = .ok (.aload_n 1, 1) := by decide +kernel
theorem dL_isSettled_69 : decode cL_isSettled 69 = .ok (.iconst 0, 1) := by decide +kernel
theorem dL_isSettled_70 : decode cL_isSettled 70 = .ok (.iaload, 1) := by decide +kernel
theorem dL_isSettled_71 : decode cL_isSettled 71 = .ok (.if_icmp .ge 94, 3) := by decide +kernel
theorem dL_isSettled_74 : decode cL_isSettled 74 = .ok (.aload_n 1, 1) := by decide +kernel
theorem dL_isSettled_75 : decode cL_isSettled 75 = .ok (.iconst 2, 1) := by decide +kernel
theorem dL_isSettled_76 : decode cL_isSettled 76 = .ok (.iload 7, 2) := by decide +kernel
theorem dL_isSettled_78 : decode cL_isSettled 78 = .ok (.imul, 1) := by decide +kernel
theorem dL_isSettled_79 : decode cL_isSettled 79 = .ok (.iconst 2, 1) := by decide +kernel
theorem dL_isSettled_80 : decode cL_isSettled 80 = .ok (.iadd, 1) := by decide +kernel
theorem dL_isSettled_81 : decode cL_isSettled 81 = .ok (.iaload, 1) := by decide +kernel
theorem dL_isSettled_82 : decode cL_isSettled 82 = .ok (.istore 8, 2) := by decide +kernel
theorem dL_isSettled_84 : decode cL_isSettled 84 = .ok (.aload_n 1, 1) := by decide +kernel
theorem dL_isSettled_85 : decode cL_isSettled 85 = .ok (.iload 7, 2) := by decide +kernel
theorem dL_isSettled_87 : decode cL_isSettled 87 = .ok (.invokestatic 29, 3) := by decide +kernel
theorem dL_isSettled_90 : decode cL_isSettled 90 = .ok (.aload_n 1, 1) := by decide +kernel
theorem dL_isSettled_91 : decode cL_isSettled 91 = .ok (.iload 4, 2) := by decide +kernel
theorem dL_isSettled_93 : decode cL_isSettled 93 = .ok (.invokestatic 29, 3) := by decide +kernel
theorem dL_isSettled_96 : decode cL_isSettled 96 = .ok (.if_icmp .ne 40, 3) := by decide +kernel
theorem dL_isSettled_99 : decode cL_isSettled 99 = .ok (.aload_n 0, 1) := by decide +kernel
theorem dL_isSettled_100 : decode cL_isSettled 100 = .ok (.iload 7, 2) := by decide +kernel
theorem dL_isSettled_102 : decode cL_isSettled 102 = .ok (.invokevirtual 22, 3) := by decide +kernel
theorem dL_isSettled_105 : decode cL_isSettled 105 = .ok (.lconst 0, 1) := by decide +kernel
theorem dL_isSettled_106 : decode cL_isSettled 106 = .ok (.lcmp, 1) := by decide +kernel
theorem dL_isSettled_107 : decode cL_isSettled 107 = .ok (.ifCond .lt 29, 3) := by decide +kernel
theorem dL_isSettled_110 : decode cL_isSettled 110 = .ok (.aload_n 2, 1) := by decide +kernel
theorem dL_isSettled_111 : decode cL_isSettled 111 = .ok (.iload 8, 2) := by decide +kernel
theorem dL_isSettled_113 : decode cL_isSettled 113 = .ok (.iaload, 1) := by decide +kernel
theorem dL_isSettled_114 : decode cL_isSettled 114 = .ok (.ifCond .lt 18, 3) := by decide +kernel
theorem dL_isSettled_117 : decode cL_isSettled 117 = .ok (.aload_n 0, 1) := by decide +kernel
theorem dL_isSettled_118 : decode cL_isSettled 118 = .ok (.iload 8, 2) := by decide +kernel
theorem dL_isSettled_120 : decode cL_isSettled 120 = .ok (.invokevirtual 48, 3) := by decide +kernel
theorem dL_isSettled_123 : decode cL_isSettled 123 = .ok (.aload_n 2, 1) := by decide +kernel
theorem dL_isSettled_124 : decode cL_isSettled 124 = .ok (.iload 8, 2) := by decide +kernel
theorem dL_isSettled_126 : decode cL_isSettled 126 = .ok (.iaload, 1) := by decide +kernel
theorem dL_isSettled_127 : decode cL_isSettled 127 = .ok (.i2l, 1) := by decide +kernel
theorem dL_isSettled_128 : decode cL_isSettled 128 = .ok (.lcmp, 1) := by decide +kernel
theorem dL_isSettled_129 : decode cL_isSettled 129 = .ok (.ifCond .ge 7, 3) := by decide +kernel
theorem dL_isSettled_132 : decode cL_isSettled 132 = .ok (.iconst 1, 1) := by decide +kernel
theorem dL_isSettled_133 : decode cL_isSettled 133 = .ok (.goto 4, 3) := by decide +kernel
theorem dL_isSettled_136 : decode cL_isSettled 136 = .ok (.iconst 0, 1) := by decide +kernel
theorem dL_isSettled_137 : decode cL_isSettled 137 = .ok (.istore 9, 2) := by decide +kernel
theorem dL_isSettled_139 : decode cL_isSettled 139 = .ok (.iload_n 3, 1) := by decide +kernel
theorem dL_isSettled_140 : decode cL_isSettled 140 = .ok (.ifCond .eq 17, 3) := by decide +kernel
theorem dL_isSettled_143 : decode cL_isSettled 143 = .ok (.iload 6, 2) := by decide +kernel
theorem dL_isSettled_145 : decode cL_isSettled 145 = .ok (.ifCond .eq 8, 3) := by decide +kernel
theorem dL_isSettled_148 : decode cL_isSettled 148 = .ok (.iload 9, 2) := by decide +kernel
theorem dL_isSettled_150 : decode cL_isSettled 150 = .ok (.ifCond .ne 7, 3) := by decide +kernel
theorem dL_isSettled_153 : decode cL_isSettled 153 = .ok (.iconst 1, 1) := by decide +kernel
theorem dL_isSettled_154 : decode cL_isSettled 154 = .ok (.goto 4, 3) := by decide +kernel
theorem dL_isSettled_157 : decode cL_isSettled 157 = .ok (.iconst 0, 1) := by decide +kernel
theorem dL_isSettled_158 : decode cL_isSettled 158 = .ok (.istore_n 3, 1) := by decide +kernel
theorem dL_isSettled_159 : decode cL_isSettled 159 = .ok (.iinc 7 1, 3) := by decide +kernel
theorem dL_isSettled_162 : decode cL_isSettled 162 = .ok (.goto (-96), 3) := by decide +kernel
theorem dL_isSettled_165 : decode cL_isSettled 165 = .ok (.iconst 0, 1) := by decide +kernel
theorem dL_isSettled_166 : decode cL_isSettled 166 = .ok (.istore 7, 2) := by decide +kernel
theorem dL_isSettled_168 : decode cL_isSettled 168 = .ok (.iload 7, 2) := by decide +kernel
theorem dL_isSettled_170 : decode cL_isSettled 170 = .ok (.aload_n 1, 1) := by decide +kernel
theorem dL_isSettled_171 : decode cL_isSettled 171 = .ok (.iconst 1, 1) := by decide +kernel
theorem dL_isSettled_172 : decode cL_isSettled 172 = .ok (.iaload, 1) := by decide +kernel
theorem dL_isSettled_173 : decode cL_isSettled 173 = .ok (.if_icmp .ge 62, 3) := by decide +kernel
theorem dL_isSettled_176 : decode cL_isSettled 176 = .ok (.iload_n 3, 1) := by decide +kernel
theorem dL_isSettled_177 : decode cL_isSettled 177 = .ok (.ifCond .eq 50, 3) := by decide +kernel
theorem dL_isSettled_180 : decode cL_isSettled 180 = .ok (.aload_n 1, 1) := by decide +kernel
theorem dL_isSettled_181 : decode cL_isSettled 181 = .ok (.iconst 2, 1) := by decide +kernel
theorem dL_isSettled_182 : decode cL_isSettled 182 = .ok (.iload 7, 2) := by decide +kernel
theorem dL_isSettled_184 : decode cL_isSettled 184 = .ok (.imul, 1) := by decide +kernel
theorem dL_isSettled_185 : decode cL_isSettled 185 = .ok (.bipush 22, 2) := by decide +kernel
theorem dL_isSettled_187 : decode cL_isSettled 187 = .ok (.iadd, 1) := by decide +kernel
theorem dL_isSettled_188 : decode cL_isSettled 188 = .ok (.iaload, 1) := by decide +kernel
theorem dL_isSettled_189 : decode cL_isSettled 189 = .ok (.iload 4, 2) := by decide +kernel
theorem dL_isSettled_191 : decode cL_isSettled 191 = .ok (.if_icmp .ne 32, 3) := by decide +kernel
theorem dL_isSettled_194 : decode cL_isSettled 194 = .ok (.aload_n 0, 1) := by decide +kernel
theorem dL_isSettled_195 : decode cL_isSettled 195 = .ok (.iload 4, 2) := by decide +kernel
theorem dL_isSettled_197 : decode cL_isSettled 197 = .ok (.invokevirtual 22, 3) := by decide +kernel
theorem dL_isSettled_200 : decode cL_isSettled 200 = .ok (.lconst 0, 1) := by decide +kernel
theorem dL_isSettled_201 : decode cL_isSettled 201 = .ok (.lcmp, 1) := by decide +kernel
theorem dL_isSettled_202 : decode cL_isSettled 202 = .ok (.ifCond .ge 21, 3) := by decide +kernel
theorem dL_isSettled_205 : decode cL_isSettled 205 = .ok (.aload_n 0, 1) := by decide +kernel
theorem dL_isSettled_206 : decode cL_isSettled 206 = .ok (.iload 7, 2) := by decide +kernel
theorem dL_isSettled_208 : decode cL_isSettled 208 = .ok (.invokevirtual 51, 3) := by decide +kernel
theorem dL_isSettled_211 : decode cL_isSettled 211 = .ok (.aload_n 1, 1) := by decide +kernel
theorem dL_isSettled_212 : decode cL_isSettled 212 = .ok (.iconst 2, 1) := by decide +kernel
theorem dL_isSettled_213 : decode cL_isSettled 213 = .ok (.iload 7, 2) := by decide +kernel
theorem dL_isSettled_215 : decode cL_isSettled 215 = .ok (.imul, 1) := by decide +kernel
theorem dL_isSettled_216 : decode cL_isSettled 216 = .ok (.bipush 23, 2) := by decide +kernel
theorem dL_isSettled_218 : decode cL_isSettled 218 = .ok (.iadd, 1) := by decide +kernel
theorem dL_isSettled_219 : decode cL_isSettled 219 = .ok (.iaload, 1) := by decide +kernel
