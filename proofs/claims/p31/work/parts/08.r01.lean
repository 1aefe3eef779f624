theorem chm_wsX3_sumOfFlows : ∀ c ∈ ch_wsX3_sumOfFlows, ∀ w ∈ c, w ∈ wsX3_sumOfFlows := List.forall_mem_cons.mpr ⟨(fun w h => (List.mem_cons_of_mem _ (List.mem_append_left _ (List.mem_append_left _ (List.mem_append_left _ (List.mem_append_left _ (List.mem_append_left _ h))))))), List.forall_mem_cons.mpr ⟨(fun w h => (List.mem_cons_of_mem _ (List.mem_append_left _ (List.mem_append_left _ (List.mem_append_left _ (List.mem_append_left _ (List.mem_append_right _ h))))))), List.forall_mem_cons.mpr ⟨(fun w h => (List.mem_cons_of_mem _ (List.mem_append_left _ (List.mem_append_left _ (List.mem_append_left _ (List.mem_append_right _ h)))))), List.forall_mem_cons.mpr ⟨(fun w h => (List.mem_cons_of_mem _ (List.mem_append_left _ (List.mem_append_left _ (List.mem_append_right _ h))))), List.forall_mem_cons.mpr ⟨(fun w h => (List.mem_cons_of_mem _ (List.mem_append_left _ (List.mem_append_right _ h)))), List.forall_mem_cons.mpr ⟨(fun w h => (List.mem_cons_of_mem _ (List.mem_append_right _ h))), fun _ h => absurd h List.not_mem_nil⟩⟩⟩⟩⟩⟩
set_option maxRecDepth 100000 in
set_option maxHeartbeats 4000000 in
theorem ggX3_sumOfFlows_Jx4a65c_size_8abf5 : GoodIn wsX3_sumOfFlows wsJx4a65c_size_8abf5 := goodIn_k ch_wsX3_sumOfFlows chm_wsX3_sumOfFlows _ [(0, 8), (0, 9), (4, 0), (4, 1), (4, 2)] (by rfl) (by decide +kernel)
set_option maxRecDepth 20000 in
theorem gX3_sumOfFlows_Jx4a65c_size_8abf5 : GoodIn wsX3_sumOfFlows (wsV RX3 46 RJx4a65c yJx4a65c_size_8abf5 wsJx4a65c_size_8abf5) := goodIn_app (goodIn_of _ (by decide +kernel)) ggX3_sumOfFlows_Jx4a65c_size_8abf5
set_option maxRecDepth 100000 in
set_option maxHeartbeats 4000000 in
theorem ggX3_sumOfFlows_Jx4a65c_get_915e3 : GoodIn wsX3_sumOfFlows wsJx4a65c_get_915e3 := goodIn_k ch_wsX3_sumOfFlows chm_wsX3_sumOfFlows _ [(0, 13), (0, 9), (0, 14), (0, 15), (0, 16), (0, 17), (0, 18), (0, 19), (0, 20), (0, 21), (0, 22), (0, 23), (1, 0), (0, 7), (1, 1), (1, 2), (4, 0), (4, 1), (4, 2)] (by rfl) (by decide +kernel)
set_option maxRecDepth 20000 in
theorem gX3_sumOfFlows_Jx4a65c_get_915e3 : GoodIn wsX3_sumOfFlows (wsV RX3 109 RJx4a65c yJx4a65c_get_915e3 wsJx4a65c_get_915e3) := goodIn_app (goodIn_of _ (by decide +kernel)) ggX3_sumOfFlows_Jx4a65c_get_915e3
set_option maxRecDepth 100000 in
set_option maxHeartbeats 4000000 in
theorem ggX3_sumOfFlows_X4_sumWithin : GoodIn wsX3_sumOfFlows wsX4_sumWithin := goodIn_k ch_wsX3_sumOfFlows chm_wsX3_sumOfFlows _ [(1, 7), (1, 8), (1, 9), (1, 10), (1, 11), (1, 12), (1, 13), (1, 14), (1, 15), (1, 16), (1, 17), (1, 18), (1, 19), (1, 20), (1, 21), (3, 0), (3, 1), (3, 2), (3, 3), (3, 4), (3, 5), (3, 6), (5, 0)] (by rfl) (by decide +kernel)
set_option maxRecDepth 20000 in
theorem gX3_sumOfFlows_X4_sumWithin : GoodIn wsX3_sumOfFlows (wsV RX3 189 RX4 yX4_sumWithin wsX4_sumWithin) := goodIn_app (goodIn_of _ (by decide +kernel)) ggX3_sumOfFlows_X4_sumWithin
theorem dX3_sumOfFlows_0 : decode cX3_sumOfFlows 0 = .ok (.lconst 0, 1) := by decide +kernel
theorem dX3_sumOfFlows_1 : decode cX3_sumOfFlows 1 = .ok (.lstore 4, 2) := by decide +kernel
theorem dX3_sumOfFlows_3 : decode cX3_sumOfFlows 3 = .ok (.iconst 0, 1) := by decide +kernel
theorem dX3_sumOfFlows_4 : decode cX3_sumOfFlows 4 = .ok (.istore 6, 2) := by decide +kernel
theorem dX3_sumOfFlows_6 : decode cX3_sumOfFlows 6 = .ok (.iload 6, 2) := by decide +kernel
theorem dX3_sumOfFlows_8 : decode cX3_sumOfFlows 8 = .ok (.aload_n 0, 1) := by decide +kernel
theorem dX3_sumOfFlows_9 : decode cX3_sumOfFlows 9 = .ok (.getfield 24, 3) := by decide +kernel
theorem dX3_sumOfFlows_12 : decode cX3_sumOfFlows 12 = .ok (.invokevirtual 46, 3) := by decide +kernel
theorem dX3_sumOfFlows_15 : decode cX3_sumOfFlows 15 = .ok (.if_icmp .ge 48, 3) := by decide +kernel
theorem dX3_sumOfFlows_18 : decode cX3_sumOfFlows 18 = .ok (.aload_n 0, 1) := by decide +kernel
theorem dX3_sumOfFlows_19 : decode cX3_sumOfFlows 19 = .ok (.getfield 24, 3) := by decide +kernel
theorem dX3_sumOfFlows_22 : decode cX3_sumOfFlows 22 = .ok (.iload 6, 2) := by decide +kernel
theorem dX3_sumOfFlows_24 : decode cX3_sumOfFlows 24 = .ok (.invokevirtual 109, 3) := by decide +kernel
theorem dX3_sumOfFlows_27 : decode cX3_sumOfFlows 27 = .ok (.checkcast 113, 3) := by decide +kernel
theorem dX3_sumOfFlows_30 : decode cX3_sumOfFlows 30 = .ok (.astore 7, 2) := by decide +kernel
theorem dX3_sumOfFlows_32 : decode cX3_sumOfFlows 32 = .ok (.aload 7, 2) := by decide +kernel
theorem dX3_sumOfFlows_34 : decode cX3_sumOfFlows 34 = .ok (.getfield 185, 3) := by decide +kernel
theorem dX3_sumOfFlows_37 : decode cX3_sumOfFlows 37 = .ok (.aload_n 1, 1) := by decide +kernel
theorem dX3_sumOfFlows_38 : decode cX3_sumOfFlows 38 = .ok (.if_acmp .ne 19, 3) := by decide +kernel
theorem dX3_sumOfFlows_41 : decode cX3_sumOfFlows 41 = .ok (.lload 4, 2) := by decide +kernel
theorem dX3_sumOfFlows_43 : decode cX3_sumOfFlows 43 = .ok (.aload 7, 2) := by decide +kernel
theorem dX3_sumOfFlows_45 : decode cX3_sumOfFlows 45 = .ok (.aload_n 0, 1) := by decide +kernel
theorem dX3_sumOfFlows_46 : decode cX3_sumOfFlows 46 = .ok (.getfield 33, 3) := by decide +kernel
theorem dX3_sumOfFlows_49 : decode cX3_sumOfFlows 49 = .ok (.iload_n 2, 1) := by decide +kernel
theorem dX3_sumOfFlows_50 : decode cX3_sumOfFlows 50 = .ok (.iload_n 3, 1) := by decide +kernel
theorem dX3_sumOfFlows_51 : decode cX3_sumOfFlows 51 = .ok (.invokevirtual 189, 3) := by decide +kernel
theorem dX3_sumOfFlows_54 : decode cX3_sumOfFlows 54 = .ok (.ladd, 1) := by decide +kernel
theorem dX3_sumOfFlows_55 : decode cX3_sumOfFlows 55 = .ok (.lstore 4, 2) := by decide +kernel
theorem dX3_sumOfFlows_57 : decode cX3_sumOfFlows 57 = .ok (.iinc 6 1, 3) := by decide +kernel
theorem dX3_sumOfFlows_60 : decode cX3_sumOfFlows 60 = .ok (.goto (-54), 3) := by decide +kernel
theorem dX3_sumOfFlows_63 : decode cX3_sumOfFlows 63 = .ok (.lload 4, 2) := by decide +kernel
theorem dX3_sumOfFlows_65 : decode cX3_sumOfFlows 65 = .ok (.lreturn, 1) := by decide +kernel
def ch_wsX3_keep : List (List Cond) := [wsX3_keep_r1, wsX3_keep_r2, wsX3_keep_r3, wsX3_keep_r4, wsX30, wsX00, wsJx4a65c0, wsX60, wsX70, wsX50, wsX40]
theorem chm_wsX3_keep : ∀ c ∈ ch_wsX3_keep, ∀ w ∈ c, w ∈ wsX3_keep := List.forall_mem_cons.mpr ⟨(fun w h => (List.mem_cons_of_mem _ (List.mem_append_left _ (List.mem_append_left _ (List.mem_append_left _ (List.mem_append_left _ (List.mem_append_left _ (List.mem_append_left _ (List.mem_append_left _ (List.mem_append_left _ h)))))))))), List.forall_mem_cons.mpr ⟨(fun w h => (List.mem_cons_of_mem _ (List.mem_append_left _ (List.mem_append_left _ (List.mem_append_left _ (List.mem_append_left _ (List.mem_append_left _ (List.mem_append_left _ (List.mem_append_left _ (List.mem_append_right _ (List.mem_append_left _ h))))))))))), List.forall_mem_cons.mpr ⟨(fun w h => (List.mem_cons_of_mem _ (List.mem_append_left _ (List.mem_append_left _ (List.mem_append_left _ (List.mem_append_left _ (List.mem_append_left _ (List.mem_append_left _ (List.mem_append_left _ (List.mem_append_right _ (List.mem_append_right _ (List.mem_append_left _ h)))))))))))), List.forall_mem_cons.mpr ⟨(fun w h => (List.mem_cons_of_mem _ (List.mem_append_left _ (List.mem_append_left _ (List.mem_append_left _ (List.mem_append_left _ (List.mem_append_left _ (List.mem_append_left _ (List.mem_append_left _ (List.mem_append_right _ (List.mem_append_right _ (List.mem_append_right _ h)))))))))))), List.forall_mem_cons.mpr ⟨(fun w h => (List.mem_cons_of_mem _ (List.mem_append_left _ (List.mem_append_left _ (List.mem_append_left _ (List.mem_append_left _ (List.mem_append_left _ (List.mem_append_left _ (List.mem_append_right _ h))))))))), List.forall_mem_cons.mpr ⟨(fun w h => (List.mem_cons_of_mem _ (List.mem_append_left _ (List.mem_append_left _ (List.mem_append_left _ (List.mem_append_left _ (List.mem_append_left _ (List.mem_append_right _ h)))))))), List.forall_mem_cons.mpr ⟨(fun w h => (List.mem_cons_of_mem _ (List.mem_append_left _ (List.mem_append_left _ (List.mem_append_left _ (List.mem_append_left _ (List.mem_append_right _ h))))))), List.forall_mem_cons.mpr ⟨(fun w h => (List.mem_cons_of_mem _ (List.mem_append_left _ (List.mem_append_left _ (List.mem_append_left _ (List.mem_append_right _ h)))))), List.forall_mem_cons.mpr ⟨(fun w h => (List.mem_cons_of_mem _ (List.mem_append_left _ (List.mem_append_left _ (List.mem_append_right _ h))))), List.forall_mem_cons.mpr ⟨(fun w h => (List.mem_cons_of_mem _ (List.mem_append_left _ (List.mem_append_right _ h)))), List.forall_mem_cons.mpr ⟨(fun w h => (List.mem_cons_of_mem _ (List.mem_append_right _ h))), fun _ h => absurd h List.not_mem_nil⟩⟩⟩⟩⟩⟩⟩⟩⟩⟩⟩
set_option maxRecDepth 100000 in
set_option maxHeartbeats 4000000 in
theorem ggX3_keep_Jx4a65c_size_8abf5 : GoodIn wsX3_keep wsJx4a65c_size_8abf5 := goodIn_k ch_wsX3_keep chm_wsX3_keep _ [(0, 14), (0, 15), (6, 0), (6, 1), (6, 2)] (by rfl) (by decide +kernel)
set_option maxRecDepth 20000 in
theorem gX3_keep_Jx4a65c_size_8abf5 : GoodIn wsX3_keep (wsV RX3 46 RJx4a65c yJx4a65c_size_8abf5 wsJx4a65c_size_8abf5) := goodIn_app (goodIn_of _ (by decide +kernel)) ggX3_keep_Jx4a65c_size_8abf5
set_option maxRecDepth 100000 in
set_option maxHeartbeats 4000000 in
theorem ggX3_keep_Jx4a65c_get_915e3 : GoodIn wsX3_keep wsJx4a65c_get_915e3 := goodIn_k ch_wsX3_keep chm_wsX3_keep _ [(0, 19), (0, 15), (0, 20), (0, 21), (0, 22), (0, 23), (1, 0), (1, 1), (1, 2), (1, 3), (1, 4), (1, 5), (1, 6), (0, 13), (1, 7), (1, 8), (6, 0), (6, 1), (6, 2)] (by rfl) (by decide +kernel)
set_option maxRecDepth 20000 in
theorem gX3_keep_Jx4a65c_get_915e3 : GoodIn wsX3_keep (wsV RX3 109 RJx4a65c yJx4a65c_get_915e3 wsJx4a65c_get_915e3) := goodIn_app (goodIn_of _ (by decide +kernel)) ggX3_keep_Jx4a65c_get_915e3
set_option maxRecDepth 100000 in
set_option maxHeartbeats 4000000 in
theorem ggX3_keep_X0_keep : GoodIn wsX3_keep wsX0_keep := goodIn_k ch_wsX3_keep chm_wsX3_keep _ [(1, 13), (1, 14), (1, 15), (1, 16), (1, 17), (5, 0), (5, 1), (5, 2), (5, 3), (5, 4), (5, 5), (5, 6), (5, 7), (5, 8), (5, 9), (5, 10), (5, 11)] (by rfl) (by decide +kernel)
set_option maxRecDepth 20000 in
theorem gX3_keep_X0_keep : GoodIn wsX3_keep (wsV RX3 196 RX0 yX0_keep wsX0_keep) := goodIn_app (goodIn_of _ (by decide +kernel)) ggX3_keep_X0_keep
set_option maxRecDepth 100000 in
set_option maxHeartbeats 4000000 in
theorem ggX3_keep_X6_keep : GoodIn wsX3_keep wsX6_keep := goodIn_k ch_wsX3_keep chm_wsX3_keep _ [(1, 22), (1, 23), (2, 0), (2, 1), (2, 2), (2, 3), (2, 4), (2, 5), (2, 6), (2, 7), (2, 8), (2, 9), (2, 10), (2, 11), (2, 12), (2, 13), (2, 14), (2, 15), (7, 0), (7, 1), (7, 2), (7, 3), (7, 4), (8, 0), (8, 1), (8, 2), (8, 3), (8, 4), (8, 5), (8, 6), (8, 7), (8, 8), (8, 9)] (by rfl) (by decide +kernel)
set_option maxRecDepth 20000 in
theorem gX3_keep_X6_keep : GoodIn wsX3_keep (wsV RX3 199 RX6 yX6_keep wsX6_keep) := goodIn_app (goodIn_of _ (by decide +kernel)) ggX3_keep_X6_keep
set_option maxRecDepth 100000 in
set_option maxHeartbeats 4000000 in
theorem ggX3_keep_X5_keep : GoodIn wsX3_keep wsX5_keep := goodIn_k ch_wsX3_keep chm_wsX3_keep _ [(2, 20), (2, 21), (2, 22), (2, 23), (3, 0), (3, 1), (3, 2), (9, 0), (9, 1), (9, 2), (9, 3), (9, 4), (9, 5), (9, 6), (9, 7), (9, 8)] (by rfl) (by decide +kernel)
set_option maxRecDepth 20000 in
theorem gX3_keep_X5_keep : GoodIn wsX3_keep (wsV RX3 200 RX5 yX5_keep wsX5_keep) := goodIn_app (goodIn_of _ (by decide +kernel)) ggX3_keep_X5_keep
set_option maxRecDepth 100000 in
set_option maxHeartbeats 4000000 in
theorem ggX3_keep_X4_keep : GoodIn wsX3_keep wsX4_keep := goodIn_k ch_wsX3_keep chm_wsX3_keep _ [(3, 7), (3, 8), (3, 9), (3, 10), (3, 11), (10, 0), (10, 1), (10, 2), (10, 3), (10, 4), (10, 5), (10, 6)] (by rfl) (by decide +kernel)
set_option maxRecDepth 20000 in
theorem gX3_keep_X4_keep : GoodIn wsX3_keep (wsV RX3 201 RX4 yX4_keep wsX4_keep) := goodIn_app (goodIn_of _ (by decide +kernel)) ggX3_keep_X4_keep
theorem dX3_keep_0 : decode cX3_keep 0 = .ok (.aload_n 0, 1) := by decide +kernel
theorem dX3_keep_1 : decode cX3_keep 1 = .ok (.aload_n 0, 1) := by decide +kernel
theorem dX3_keep_2 : decode cX3_keep 2 = .ok (.getfield 83, 3) := by decide +kernel
theorem dX3_keep_5 : decode cX3_keep 5 = .ok (.putfield 193, 3) := by decide +kernel
theorem dX3_keep_8 : decode cX3_keep 8 = .ok (.iconst 0, 1) := by decide +kernel
theorem dX3_keep_9 : decode cX3_keep 9 = .ok (.istore_n 1, 1) := by decide +kernel
theorem dX3_keep_10 : decode cX3_keep 10 = .ok (.iload_n 1, 1) := by decide +kernel
theorem dX3_keep_11 : decode cX3_keep 11 = .ok (.aload_n 0, 1) := by decide +kernel
theorem dX3_keep_12 : decode cX3_keep 12 = .ok (.getfield 12, 3) := by decide +kernel
theorem dX3_keep_15 : decode cX3_keep 15 = .ok (.invokevirtual 46, 3) := by decide +kernel
theorem dX3_keep_18 : decode cX3_keep 18 = .ok (.if_icmp .ge 23, 3) := by decide +kernel
theorem dX3_keep_21 : decode cX3_keep 21 = .ok (.aload_n 0, 1) := by decide +kernel
theorem dX3_keep_22 : decode cX3_keep 22 = .ok (.getfield 12, 3) := by decide +kernel
theorem dX3_keep_25 : decode cX3_keep 25 = .ok (.iload_n 1, 1) := by decide +kernel
theorem dX3_keep_26 : decode cX3_keep 26 = .ok (.invokevirtual 109, 3) := by decide +kernel
theorem dX3_keep_29 : decode cX3_keep 29 = .ok (.checkcast 55, 3) := by decide +kernel
theorem dX3_keep_32 : decode cX3_keep 32 = .ok (.invokevirtual 196, 3) := by decide +kernel
theorem dX3_keep_35 : decode cX3_keep 35 = .ok (.iinc 1 1, 3) := by decide +kernel
theorem dX3_keep_38 : decode cX3_keep 38 = .ok (.goto (-28), 3) := by decide +kernel
theorem dX3_keep_41 : decode cX3_keep 41 = .ok (.iconst 0, 1) := by decide +kernel
theorem dX3_keep_42 : decode cX3_keep 42 = .ok (.istore_n 1, 1) := by decide +kernel
theorem dX3_keep_43 : decode cX3_keep 43 = .ok (.iload_n 1, 1) := by decide +kernel
theorem dX3_keep_44 : decode cX3_keep 44 = .ok (.aload_n 0, 1) := by decide +kernel
theorem dX3_keep_45 : decode cX3_keep 45 = .ok (.getfield 18, 3) := by decide +kernel
theorem dX3_keep_48 : decode cX3_keep 48 = .ok (.invokevirtual 46, 3) := by decide +kernel
theorem dX3_keep_51 : decode cX3_keep 51 = .ok (.if_icmp .ge 26, 3) := by decide +kernel
theorem dX3_keep_54 : decode cX3_keep 54 = .ok (.aload_n 0, 1) := by decide +kernel
theorem dX3_keep_55 : decode cX3_keep 55 = .ok (.getfield 18, 3) := by decide +kernel
theorem dX3_keep_58 : decode cX3_keep 58 = .ok (.iload_n 1, 1) := by decide +kernel
theorem dX3_keep_59 : decode cX3_keep 59 = .ok (.invokevirtual 109, 3) := by decide +kernel
theorem dX3_keep_62 : decode cX3_keep 62 = .ok (.checkcast 55, 3) := by decide +kernel
theorem dX3_keep_65 : decode cX3_keep 65 = .ok (.getfield 64, 3) := by decide +kernel
theorem dX3_keep_68 : decode cX3_keep 68 = .ok (.invokevirtual 199, 3) := by decide +kernel
theorem dX3_keep_71 : decode cX3_keep 71 = .ok (.iinc 1 1, 3) := by decide +kernel
theorem dX3_keep_74 : decode cX3_keep 74 = .ok (.goto (-31), 3) := by decide +kernel
theorem dX3_keep_77 : decode cX3_keep 77 = .ok (.iconst 0, 1) := by decide +kernel
theorem dX3_keep_78 : decode cX3_keep 78 = .ok (.istore_n 1, 1) := by decide +kernel
theorem dX3_keep_79 : decode cX3_keep 79 = .ok (.iload_n 1, 1) := by decide +kernel
theorem dX3_keep_80 : decode cX3_keep 80 = .ok (.aload_n 0, 1) := by decide +kernel
theorem dX3_keep_81 : decode cX3_keep 81 = .ok (.getfield 21, 3) := by decide +kernel
theorem dX3_keep_84 : decode cX3_keep 84 = .ok (.invokevirtual 46, 3) := by decide +kernel
theorem dX3_keep_87 : decode cX3_keep 87 = .ok (.if_icmp .ge 23, 3) := by decide +kernel
theorem dX3_keep_90 : decode cX3_keep 90 = .ok (.aload_n 0, 1) := by decide +kernel
theorem dX3_keep_91 : decode cX3_keep 91 = .ok (.getfield 21, 3) := by decide +kernel
theorem dX3_keep_94 : decode cX3_keep 94 = .ok (.iload_n 1, 1) := by decide +kernel
theorem dX3_keep_95 : decode cX3_keep 95 = .ok (.invokevirtual 109, 3) := by decide +kernel
theorem dX3_keep_98 : decode cX3_keep 98 = .ok (.checkcast 74, 3) := by decide +kernel
theorem dX3_keep_101 : decode cX3_keep 101 = .ok (.invokevirtual 200, 3) := by decide +kernel
theorem dX3_keep_104 : decode cX3_keep 104 = .ok (.iinc 1 1, 3) := by decide +kernel
theorem dX3_keep_107 : decode cX3_keep 107 = .ok (.goto (-28), 3) := by decide +kernel
theorem dX3_keep_110 : decode cX3_keep 110 = .ok (.iconst 0, 1) := by decide +kernel
theorem dX3_keep_111 : decode cX3_keep 111 = .ok (.istore_n 1, 1) := by decide +kernel
theorem dX3_keep_112 : decode cX3_keep 112 = .ok (.iload_n 1, 1) := by decide +kernel
theorem dX3_keep_113 : decode cX3_keep 113 = .ok (.aload_n 0, 1) := by decide +kernel
theorem dX3_keep_114 : decode cX3_keep 114 = .ok (.getfield 24, 3) := by decide +kernel
theorem dX3_keep_117 : decode cX3_keep 117 = .ok (.invokevirtual 46, 3) := by decide +kernel
theorem dX3_keep_120 : decode cX3_keep 120 = .ok (.if_icmp .ge 23, 3) := by decide +kernel
theorem dX3_keep_123 : decode cX3_keep 123 = .ok (.aload_n 0, 1) := by decide +kernel
theorem dX3_keep_124 : decode cX3_keep 124 = .ok (.getfield 24, 3) := by decide +kernel
theorem dX3_keep_127 : decode cX3_keep 127 = .ok (.iload_n 1, 1) := by decide +kernel
theorem dX3_keep_128 : decode cX3_keep 128 = .ok (.invokevirtual 109, 3) := by decide +kernel
theorem dX3_keep_131 : decode cX3_keep 131 = .ok (.checkcast 113, 3) := by decide +kernel
theorem dX3_keep_134 : decode cX3_keep 134 = .ok (.invokevirtual 201, 3) := by decide +kernel
theorem dX3_keep_137 : decode cX3_keep 137 = .ok (.iinc 1 1, 3) := by decide +kernel
theorem dX3_keep_140 : decode cX3_keep 140 = .ok (.goto (-28), 3) := by decide +kernel
theorem dX3_keep_143 : decode cX3_keep 143 = .ok (.return_, 1) := by decide +kernel
def ch_wsX3_goBack : List (List Cond) := [wsX3_goBack_r1, wsX3_goBack_r2, wsX3_goBack_r3, wsX3_goBack_r4, wsX30, wsX00, wsJx4a65c0, wsX60, wsX70, wsX50, wsX40]
theorem chm_wsX3_goBack : ∀ c ∈ ch_wsX3_goBack, ∀ w ∈ c, w ∈ wsX3_goBack := List.forall_mem_cons.mpr ⟨(fun w h => (List.mem_cons_of_mem _ (List.mem_append_left _ (List.mem_append_left _ (List.mem_append_left _ (List.mem_append_left _ (List.mem_append_left _ (List.mem_append_left _ (List.mem_append_left _ (List.mem_append_left _ h)))))))))), List.forall_mem_cons.mpr ⟨(fun w h => (List.mem_cons_of_mem _ (List.mem_append_left _ (List.mem_append_left _ (List.mem_append_left _ (List.mem_append_left _ (List.mem_append_left _ (List.mem_append_left _ (List.mem_append_left _ (List.mem_append_right _ (List.mem_append_left _ h))))))))))), List.forall_mem_cons.mpr ⟨(fun w h => (List.mem_cons_of_mem _ (List.mem_append_left _ (List.mem_append_left _ (List.mem_append_left _ (List.mem_append_left _ (List.mem_append_left _ (List.mem_append_left _ (List.mem_append_left _ (List.mem_append_right _ (List.mem_append_right _ (List.mem_append_left _ h)))))))))))), List.forall_mem_cons.mpr ⟨(fun w h => (List.mem_cons_of_mem _ (List.mem_append_left _ (List.mem_append_left _ (List.mem_append_left _ (List.mem_append_left _ (List.mem_append_left _ (List.mem_append_left _ (List.mem_append_left _ (List.mem_append_right _ (List.mem_append_right _ (List.mem_append_right _ h)))))))))))), List.forall_mem_cons.mpr ⟨(fun w h => (List.mem_cons_of_mem _ (List.mem_append_left _ (List.mem_append_left _ (List.mem_append_left _ (List.mem_append_left _ (List.mem_append_left _ (List.mem_append_left _ (List.mem_append_right _ h))))))))), List.forall_mem_cons.mpr ⟨(fun w h => (List.mem_cons_of_mem _ (List.mem_append_left _ (List.mem_append_left _ (List.mem_append_left _ (List.mem_append_left _ (List.mem_append_left _ (List.mem_append_right _ h)))))))), List.forall_mem_cons.mpr ⟨(fun w h => (List.mem_cons_of_mem _ (List.mem_append_left _ (List.mem_append_left _ (List.mem_append_left _ (List.mem_append_left _ (List.mem_append_right _ h))))))), List.forall_mem_cons.mpr ⟨(fun w h => (List.mem_cons_of_mem _ (List.mem_append_left _ (List.mem_append_left _ (List.mem_append_left _ (List.mem_append_right _ h)))))), List.forall_mem_cons.mpr ⟨(fun w h => (List.mem_cons_of_mem _ (List.mem_append_left _ (List.mem_append_left _ (List.mem_append_right _ h))))), List.forall_mem_cons.mpr ⟨(fun w h => (List.mem_cons_of_mem _ (List.mem_append_left _ (List.mem_append_right _ h)))), List.forall_mem_cons.mpr ⟨(fun w h => (List.mem_cons_of_mem _ (List.mem_append_right _ h))), fun _ h => absurd h List.not_mem_nil⟩⟩⟩⟩⟩⟩⟩⟩⟩⟩⟩
set_option maxRecDepth 100000 in
set_option maxHeartbeats 4000000 in
theorem ggX3_goBack_Jx4a65c_size_8abf5 : GoodIn wsX3_goBack wsJx4a65c_size_8abf5 := goodIn_k ch_wsX3_goBack chm_wsX3_goBack _ [(0, 14), (0, 15), (6, 0), (6, 1), (6, 2)] (by rfl) (by decide +kernel)
set_option maxRecDepth 20000 in
theorem gX3_goBack_Jx4a65c_size_8abf5 : GoodIn wsX3_goBack (wsV RX3 46 RJx4a65c yJx4a65c_size_8abf5 wsJx4a65c_size_8abf5) := goodIn_app (goodIn_of _ (by decide +kernel)) ggX3_goBack_Jx4a65c_size_8abf5
set_option maxRecDepth 100000 in
set_option maxHeartbeats 4000000 in
theorem ggX3_goBack_Jx4a65c_get_915e3 : GoodIn wsX3_goBack wsJx4a65c_get_915e3 := goodIn_k ch_wsX3_goBack chm_wsX3_goBack _ [(0, 19), (0, 15), (0, 20), (0, 21), (0, 22), (0, 23), (1, 0), (1, 1), (1, 2), (1, 3), (1, 4), (1, 5), (1, 6), (0, 13), (1, 7), (1, 8), (6, 0), (6, 1), (6, 2)] (by rfl) (by decide +kernel)
set_option maxRecDepth 20000 in
theorem gX3_goBack_Jx4a65c_get_915e3 : GoodIn wsX3_goBack (wsV RX3 109 RJx4a65c yJx4a65c_get_915e3 wsJx4a65c_get_915e3) := goodIn_app (goodIn_of _ (by decide +kernel)) ggX3_goBack_Jx4a65c_get_915e3
set_option maxRecDepth 100000 in
set_option maxHeartbeats 4000000 in
theorem ggX3_goBack_X0_goBack : GoodIn wsX3_goBack wsX0_goBack := goodIn_k ch_wsX3_goBack chm_wsX3_goBack _ [(1, 13), (1, 14), (1, 15), (1, 16), (1, 17), (5, 0), (5, 1), (5, 2), (5, 3), (5, 4), (5, 5), (5, 6), (5, 7), (5, 8), (5, 9), (5, 10), (5, 11)] (by rfl) (by decide +kernel)
set_option maxRecDepth 20000 in
theorem gX3_goBack_X0_goBack : GoodIn wsX3_goBack (wsV RX3 202 RX0 yX0_goBack wsX0_goBack) := goodIn_app (goodIn_of _ (by decide +kernel)) ggX3_goBack_X0_goBack
set_option maxRecDepth 100000 in
set_option maxHeartbeats 4000000 in
theorem ggX3_goBack_X6_goBack : GoodIn wsX3_goBack wsX6_goBack := goodIn_k ch_wsX3_goBack chm_wsX3_goBack _ [(1, 22), (1, 23), (2, 0), (2, 1), (2, 2), (2, 3), (2, 4), (2, 5), (2, 6), (2, 7), (2, 8), (2, 9), (2, 10), (2, 11), (2, 12), (2, 13), (2, 14), (2, 15), (7, 0), (7, 1), (7, 2), (7, 3), (7, 4), (8, 0), (8, 1), (8, 2), (8, 3), (8, 4), (8, 5), (8, 6), (8, 7), (8, 8), (8, 9)] (by rfl) (by decide +kernel)
set_option maxRecDepth 20000 in
theorem gX3_goBack_X6_goBack : GoodIn wsX3_goBack (wsV RX3 205 RX6 yX6_goBack wsX6_goBack) := goodIn_app (goodIn_of _ (by decide +kernel)) ggX3_goBack_X6_goBack
set_option maxRecDepth 100000 in
set_option maxHeartbeats 4000000 in
theorem ggX3_goBack_X5_goBack : GoodIn wsX3_goBack wsX5_goBack := goodIn_k ch_wsX3_goBack chm_wsX3_goBack _ [(2, 20), (2, 21), (2, 22), (2, 23), (3, 0), (3, 1), (3, 2), (9, 0), (9, 1), (9, 2), (9, 3), (9, 4), (9, 5), (9, 6), (9, 7), (9, 8)] (by rfl) (by decide +kernel)
set_option maxRecDepth 20000 in
theorem gX3_goBack_X5_goBack : GoodIn wsX3_goBack (wsV RX3 206 RX5 yX5_goBack wsX5_goBack) := goodIn_app (goodIn_of _ (by decide +kernel)) ggX3_goBack_X5_goBack
set_option maxRecDepth 100000 in
set_option maxHeartbeats 4000000 in
theorem ggX3_goBack_X4_goBack : GoodIn wsX3_goBack wsX4_goBack := goodIn_k ch_wsX3_goBack chm_wsX3_goBack _ [(3, 7), (3, 8), (3, 9), (3, 10), (3, 11), (10, 0), (10, 1), (10, 2), (10, 3), (10, 4), (10, 5), (10, 6)] (by rfl) (by decide +kernel)
set_option maxRecDepth 20000 in
theorem gX3_goBack_X4_goBack : GoodIn wsX3_goBack (wsV RX3 207 RX4 yX4_goBack wsX4_goBack) := goodIn_app (goodIn_of _ (by decide +kernel)) ggX3_goBack_X4_goBack
theorem dX3_goBack_0 : decode cX3_goBack 0 = .ok (.aload_n 0, 1) := by decide +kernel
theorem dX3_goBack_1 : decode cX3_goBack 1 = .ok (.aload_n 0, 1) := by decide +kernel
theorem dX3_goBack_2 : decode cX3_goBack 2 = .ok (.getfield 193, 3) := by decide +kernel
theorem dX3_goBack_5 : decode cX3_goBack 5 = .ok (.putfield 83, 3) := by decide +kernel
theorem dX3_goBack_8 : decode cX3_goBack 8 = .ok (.iconst 0, 1) := by decide +kernel
theorem dX3_goBack_9 : decode cX3_goBack 9 = .ok (.istore_n 1, 1) := by decide +kernel
theorem dX3_goBack_10 : decode cX3_goBack 10 = .ok (.iload_n 1, 1) := by decide +kernel
theorem dX3_goBack_11 : decode cX3_goBack 11 = .ok (.aload_n 0, 1) := by decide +kernel
theorem dX3_goBack_12 : decode cX3_goBack 12 = .ok (.getfield 12, 3) := by decide +kernel
theorem dX3_goBack_15 : decode cX3_goBack 15 = .ok (.invokevirtual 46, 3) := by decide +kernel
theorem dX3_goBack_18 : decode cX3_goBack 18 = .ok (.if_icmp .ge 23, 3) := by decide +kernel
theorem dX3_goBack_21 : decode cX3_goBack 21 = .ok (.aload_n 0, 1) := by decide +kernel
theorem dX3_goBack_22 : decode cX3_goBack 22 = .ok (.getfield 12, 3) := by decide +kernel
theorem dX3_goBack_25 : decode cX3_goBack 25 = .ok (.iload_n 1, 1) := by decide +kernel
theorem dX3_goBack_26 : decode cX3_goBack 26 = .ok (.invokevirtual 109, 3) := by decide +kernel
theorem dX3_goBack_29 : decode cX3_goBack 29 = .ok (.checkcast 55, 3) := by decide +kernel
theorem dX3_goBack_32 : decode cX3_goBack 32 = .ok (.invokevirtual 202, 3) := by decide +kernel
theorem dX3_goBack_35 : decode cX3_goBack 35 = .ok (.iinc 1 1, 3) := by decide +kernel
theorem dX3_goBack_38 : decode cX3_goBack 38 = .ok (.goto (-28), 3) := by decide +kernel
theorem dX3_goBack_41 : decode cX3_goBack 41 = .ok (.iconst 0, 1) := by decide +kernel
theorem dX3_goBack_42 : decode cX3_goBack 42 = .ok (.istore_n 1, 1) := by decide +kernel
theorem dX3_goBack_43 : decode cX3_goBack 43 = .ok (.iload_n 1, 1) := by decide +kernel
theorem dX3_goBack_44 : decode cX3_goBack 44 = .ok (.aload_n 0, 1) := by decide +kernel
theorem dX3_goBack_45 : decode cX3_goBack 45 = .ok (.getfield 18, 3) := by decide +kernel
theorem dX3_goBack_48 : decode cX3_goBack 48 = .ok (.invokevirtual 46, 3) := by decide +kernel
theorem dX3_goBack_51 : decode cX3_goBack 51 = .ok (.if_icmp .ge 26, 3) := by decide +kernel
theorem dX3_goBack_54 : decode cX3_goBack 54 = .ok (.aload_n 0, 1) := by decide +kernel
theorem dX3_goBack_55 : decode cX3_goBack 55 = .ok (.getfield 18, 3) := by decide +kernel
theorem dX3_goBack_58 : decode cX3_goBack 58 = .ok (.iload_n 1, 1) := by decide +kernel
theorem dX3_goBack_59 : decode cX3_goBack 59 = .ok (.invokevirtual 109, 3) := by decide +kernel
theorem dX3_goBack_62 : decode cX3_goBack 62 = .ok (.checkcast 55, 3) := by decide +kernel
theorem dX3_goBack_65 : decode cX3_goBack 65 = .ok (.getfield 64, 3) := by decide +kernel
theorem dX3_goBack_68 : decode cX3_goBack 68 = .ok (.invokevirtual 205, 3) := by decide +kernel
theorem dX3_goBack_71 : decode cX3_goBack 71 = .ok (.iinc 1 1, 3) := by decide +kernel
theorem dX3_goBack_74 : decode cX3_goBack 74 = .ok (.goto (-31), 3) := by decide +kernel
theorem dX3_goBack_77 : decode cX3_goBack 77 = .ok (.iconst 0, 1) := by decide +kernel
theorem dX3_goBack_78 : decode cX3_goBack 78 = .ok (.istore_n 1, 1) := by decide +kernel
theorem dX3_goBack_79 : decode cX3_goBack 79 = .ok (.iload_n 1, 1) := by decide +kernel
theorem dX3_goBack_80 : decode cX3_goBack 80 = .ok (.aload_n 0, 1) := by decide +kernel
theorem dX3_goBack_81 : decode cX3_goBack 81 = .ok (.getfield 21, 3) := by decide +kernel
theorem dX3_goBack_84 : decode cX3_goBack 84 = .ok (.invokevirtual 46, 3) := by decide +kernel
theorem dX3_goBack_87 : decode cX3_goBack 87 = .ok (.if_icmp .ge 23, 3) := by decide +kernel
theorem dX3_goBack_90 : decode cX3_goBack 90 = .ok (.aload_n 0, 1) := by decide +kernel
theorem dX3_goBack_91 : decode cX3_goBack 91 = .ok (.getfield 21, 3) := by decide +kernel
theorem dX3_goBack_94 : decode cX3_goBack 94 = .ok (.iload_n 1, 1) := by decide +kernel
theorem dX3_goBack_95 : decode cX3_goBack 95 = .ok (.invokevirtual 109, 3) := by decide +kernel
theorem dX3_goBack_98 : decode cX3_goBack 98 = .ok (.checkcast 74, 3) := by decide +kernel
theorem dX3_goBack_101 : decode cX3_goBack 101 = .ok (.invokevirtual 206, 3) := by decide +kernel
theorem dX3_goBack_104 : decode cX3_goBack 104 = .ok (.iinc 1 1, 3) := by decide +kernel
theorem dX3_goBack_107 : decode cX3_goBack 107 = .ok (.goto (-28), 3) := by decide +kernel
theorem dX3_goBack_110 : decode cX3_goBack 110 = .ok (.iconst 0, 1) := by decide +kernel
theorem dX3_goBack_111 : decode cX3_goBack 111 = .ok (.istore_n 1, 1) := by decide +kernel
theorem dX3_goBack_112 : decode cX3_goBack 112 = .ok (.iload_n 1, 1) := by decide +kernel
theorem dX3_goBack_113 : decode cX3_goBack 113 = .ok (.aload_n 0, 1) := by decide +kernel
theorem dX3_goBack_114 : decode cX3_goBack 114 = .ok (.getfield 24, 3) := by decide +kernel
theorem dX3_goBack_117 : decode cX3_goBack 117 = .ok (.invokevirtual 46, 3) := by decide +kernel
theorem dX3_goBack_120 : decode cX3_goBack 120 = .ok (.if_icmp .ge 23, 3) := by decide +kernel
theorem dX3_goBack_123 : decode cX3_goBack 123 = .ok (.aload_n 0, 1) := by decide +kernel
theorem dX3_goBack_124 : decode cX3_goBack 124 = .ok (.getfield 24, 3) := by decide +kernel
theorem dX3_goBack_127 : decode cX3_goBack 127 = .ok (.iload_n 1, 1) := by decide +kernel
theorem dX3_goBack_128 : decode cX3_goBack 128 = .ok (.invokevirtual 109, 3) := by decide +kernel
theorem dX3_goBack_131 : decode cX3_goBack 131 = .ok (.checkcast 113, 3) := by decide +kernel
theorem dX3_goBack_134 : decode cX3_goBack 134 = .ok (.invokevirtual 207, 3) := by decide +kernel
theorem dX3_goBack_137 : decode cX3_goBack 137 = .ok (.iinc 1 1, 3) := by decide +kernel
theorem dX3_goBack_140 : decode cX3_goBack 140 = .ok (.goto (-28), 3) := by decide +kernel
theorem dX3_goBack_143 : decode cX3_goBack 143 = .ok (.return_, 1) := by decide +kernel
theorem dX4_init_0 : decode cX4_init 0 = .ok (.aload_n 0, 1) := by decide +kernel
theorem dX4_init_1 : decode cX4_init 1 = .ok (.invokespecial 1, 3) := by decide +kernel
theorem dX4_init_4 : decode cX4_init 4 = .ok (.aload_n 0, 1) := by decide +kernel
theorem dX4_init_5 : decode cX4_init 5 = .ok (.aload_n 1, 1) := by decide +kernel
theorem dX4_init_6 : decode cX4_init 6 = .ok (.putfield 7, 3) := by decide +kernel
theorem dX4_init_9 : decode cX4_init 9 = .ok (.aload_n 0, 1) := by decide +kernel
theorem dX4_init_10 : decode cX4_init 10 = .ok (.iload_n 2, 1) := by decide +kernel
theorem dX4_init_11 : decode cX4_init 11 = .ok (.putfield 13, 3) := by decide +kernel
theorem dX4_init_14 : decode cX4_init 14 = .ok (.aload_n 0, 1) := by decide +kernel
theorem dX4_init_15 : decode cX4_init 15 = .ok (.iload 4, 2) := by decide +kernel
theorem dX4_init_17 : decode cX4_init 17 = .ok (.putfield 17, 3) := by decide +kernel
theorem dX4_init_20 : decode cX4_init 20 = .ok (.aload_n 0, 1) := by decide +kernel
theorem dX4_init_21 : decode cX4_init 21 = .ok (.iload_n 3, 1) := by decide +kernel
theorem dX4_init_22 : decode cX4_init 22 = .ok (.putfield 20, 3) := by decide +kernel
theorem dX4_init_25 : decode cX4_init 25 = .ok (.aload_n 0, 1) := by decide +kernel
theorem dX4_init_26 : decode cX4_init 26 = .ok (.iload 5, 2) := by decide +kernel
theorem dX4_init_28 : decode cX4_init 28 = .ok (.putfield 23, 3) := by decide +kernel
theorem dX4_init_31 : decode cX4_init 31 = .ok (.return_, 1) := by decide +kernel
theorem dX4_bookUpTo_0 : decode cX4_bookUpTo 0 = .ok (.aload_n 0, 1) := by decide +kernel
theorem dX4_bookUpTo_1 : decode cX4_bookUpTo 1 = .ok (.getfield 23, 3) := by decide +kernel
theorem dX4_bookUpTo_4 : decode cX4_bookUpTo 4 = .ok (.ifCond .le 54, 3) := by decide +kernel
theorem dX4_bookUpTo_7 : decode cX4_bookUpTo 7 = .ok (.aload_n 0, 1) := by decide +kernel
theorem dX4_bookUpTo_8 : decode cX4_bookUpTo 8 = .ok (.getfield 20, 3) := by decide +kernel
theorem dX4_bookUpTo_11 : decode cX4_bookUpTo 11 = .ok (.iload_n 1, 1) := by decide +kernel
theorem dX4_bookUpTo_12 : decode cX4_bookUpTo 12 = .ok (.if_icmp .gt 46, 3) := by decide +kernel
theorem dX4_bookUpTo_15 : decode cX4_bookUpTo 15 = .ok (.aload_n 0, 1) := by decide +kernel
theorem dX4_bookUpTo_16 : decode cX4_bookUpTo 16 = .ok (.getfield 7, 3) := by decide +kernel
theorem dX4_bookUpTo_19 : decode cX4_bookUpTo 19 = .ok (.dup, 1) := by decide +kernel
theorem dX4_bookUpTo_20 : decode cX4_bookUpTo 20 = .ok (.getfield 26, 3) := by decide +kernel
theorem dX4_bookUpTo_23 : decode cX4_bookUpTo 23 = .ok (.aload_n 0, 1) := by decide +kernel
theorem dX4_bookUpTo_24 : decode cX4_bookUpTo 24 = .ok (.getfield 13, 3) := by decide +kernel
theorem dX4_bookUpTo_27 : decode cX4_bookUpTo 27 = .ok (.i2l, 1) := by decide +kernel
theorem dX4_bookUpTo_28 : decode cX4_bookUpTo 28 = .ok (.ladd, 1) := by decide +kernel
theorem dX4_bookUpTo_29 : decode cX4_bookUpTo 29 = .ok (.putfield 26, 3) := by decide +kernel
theorem dX4_bookUpTo_32 : decode cX4_bookUpTo 32 = .ok (.aload_n 0, 1) := by decide +kernel
theorem dX4_bookUpTo_33 : decode cX4_bookUpTo 33 = .ok (.dup, 1) := by decide +kernel
theorem dX4_bookUpTo_34 : decode cX4_bookUpTo 34 = .ok (.getfield 20, 3) := by decide +kernel
theorem dX4_bookUpTo_37 : decode cX4_bookUpTo 37 = .ok (.aload_n 0, 1) := by decide +kernel
theorem dX4_bookUpTo_38 : decode cX4_bookUpTo 38 = .ok (.getfield 17, 3) := by decide +kernel
theorem dX4_bookUpTo_41 : decode cX4_bookUpTo 41 = .ok (.iadd, 1) := by decide +kernel
theorem dX4_bookUpTo_42 : decode cX4_bookUpTo 42 = .ok (.putfield 20, 3) := by decide +kernel
theorem dX4_bookUpTo_45 : decode cX4_bookUpTo 45 = .ok (.aload_n 0, 1) := by decide +kernel
theorem dX4_bookUpTo_46 : decode cX4_bookUpTo 46 = .ok (.dup, 1) := by decide +kernel
theorem dX4_bookUpTo_47 : decode cX4_bookUpTo 47 = .ok (.getfield 23, 3) := by decide +kernel
theorem dX4_bookUpTo_50 : decode cX4_bookUpTo 50 = .ok (.iconst 1, 1) := by decide +kernel
theorem dX4_bookUpTo_51 : decode cX4_bookUpTo 51 = .ok (.isub, 1) := by decide +kernel
theorem dX4_bookUpTo_52 : decode cX4_bookUpTo 52 = .ok (.putfield 23, 3) := by decide +kernel
theorem dX4_bookUpTo_55 : decode cX4_bookUpTo 55 = .ok (.goto (-55), 3) := by decide +kernel
theorem dX4_bookUpTo_58 : decode cX4_bookUpTo 58 = .ok (.return_, 1) := by decide +kernel
set_option maxRecDepth 20000 in
theorem ggX4_sumWithin_X2_firstSettlingFrom : GoodIn wsX4_sumWithin wsX2_firstSettlingFrom := goodIn_r _ [9, 10, 11, 12, 8, 13, 14, 22] (by decide +kernel) (by decide +kernel)
set_option maxRecDepth 20000 in
theorem gX4_sumWithin_X2_firstSettlingFrom : GoodIn wsX4_sumWithin (wsV RX4 32 RX2 yX2_firstSettlingFrom wsX2_firstSettlingFrom) := goodIn_app (goodIn_of _ (by decide +kernel)) ggX4_sumWithin_X2_firstSettlingFrom
theorem dX4_sumWithin_0 : decode cX4_sumWithin 0 = .ok (.lconst 0, 1) := by decide +kernel
theorem dX4_sumWithin_1 : decode cX4_sumWithin 1 = .ok (.lstore 4, 2) := by decide +kernel
theorem dX4_sumWithin_3 : decode cX4_sumWithin 3 = .ok (.iconst 0, 1) := by decide +kernel
theorem dX4_sumWithin_4 : decode cX4_sumWithin 4 = .ok (.istore 6, 2) := by decide +kernel
theorem dX4_sumWithin_6 : decode cX4_sumWithin 6 = .ok (.iload 6, 2) := by decide +kernel
theorem dX4_sumWithin_8 : decode cX4_sumWithin 8 = .ok (.aload_n 0, 1) := by decide +kernel
theorem dX4_sumWithin_9 : decode cX4_sumWithin 9 = .ok (.getfield 23, 3) := by decide +kernel
theorem dX4_sumWithin_12 : decode cX4_sumWithin 12 = .ok (.if_icmp .ge 49, 3) := by decide +kernel
theorem dX4_sumWithin_15 : decode cX4_sumWithin 15 = .ok (.aload_n 1, 1) := by decide +kernel
theorem dX4_sumWithin_16 : decode cX4_sumWithin 16 = .ok (.aload_n 0, 1) := by decide +kernel
theorem dX4_sumWithin_17 : decode cX4_sumWithin 17 = .ok (.getfield 20, 3) := by decide +kernel
theorem dX4_sumWithin_20 : decode cX4_sumWithin 20 = .ok (.iload 6, 2) := by decide +kernel
theorem dX4_sumWithin_22 : decode cX4_sumWithin 22 = .ok (.aload_n 0, 1) := by decide +kernel
theorem dX4_sumWithin_23 : decode cX4_sumWithin 23 = .ok (.getfield 17, 3) := by decide +kernel
theorem dX4_sumWithin_26 : decode cX4_sumWithin 26 = .ok (.imul, 1) := by decide +kernel
theorem dX4_sumWithin_27 : decode cX4_sumWithin 27 = .ok (.iadd, 1) := by decide +kernel
theorem dX4_sumWithin_28 : decode cX4_sumWithin 28 = .ok (.invokevirtual 32, 3) := by decide +kernel
theorem dX4_sumWithin_31 : decode cX4_sumWithin 31 = .ok (.istore 7, 2) := by decide +kernel
theorem dX4_sumWithin_33 : decode cX4_sumWithin 33 = .ok (.iload 7, 2) := by decide +kernel
theorem dX4_sumWithin_35 : decode cX4_sumWithin 35 = .ok (.iload_n 2, 1) := by decide +kernel
theorem dX4_sumWithin_36 : decode cX4_sumWithin 36 = .ok (.if_icmp .lt 19, 3) := by decide +kernel
theorem dX4_sumWithin_39 : decode cX4_sumWithin 39 = .ok (.iload 7, 2) := by decide +kernel
theorem dX4_sumWithin_41 : decode cX4_sumWithin 41 = .ok (.iload_n 3, 1) := by decide +kernel
theorem dX4_sumWithin_42 : decode cX4_sumWithin 42 = .ok (.if_icmp .gt 13, 3) := by decide +kernel
theorem dX4_sumWithin_45 : decode cX4_sumWithin 45 = .ok (.lload 4, 2) := by decide +kernel
theorem dX4_sumWithin_47 : decode cX4_sumWithin 47 = .ok (.aload_n 0, 1) := by decide +kernel
theorem dX4_sumWithin_48 : decode cX4_sumWithin 48 = .ok (.getfield 13, 3) := by decide +kernel
theorem dX4_sumWithin_51 : decode cX4_sumWithin 51 = .ok (.i2l, 1) := by decide +kernel
theorem dX4_sumWithin_52 : decode cX4_sumWithin 52 = .ok (.ladd, 1) := by decide +kernel
theorem dX4_sumWithin_53 : decode cX4_sumWithin 53 = .ok (.lstore 4, 2) := by decide +kernel
theorem dX4_sumWithin_55 : decode cX4_sumWithin 55 = .ok (.iinc 6 1, 3) := by decide +kernel
theorem dX4_sumWithin_58 : decode cX4_sumWithin 58 = .ok (.goto (-52), 3) := by decide +kernel
theorem dX4_sumWithin_61 : decode cX4_sumWithin 61 = .ok (.lload 4, 2) := by decide +kernel
theorem dX4_sumWithin_63 : decode cX4_sumWithin 63 = .ok (.lreturn, 1) := by decide +kernel
theorem dX4_keep_0 : decode cX4_keep 0 = .ok (.aload_n 0, 1) := by decide +kernel
theorem dX4_keep_1 : decode cX4_keep 1 = .ok (.aload_n 0, 1) := by decide +kernel
theorem dX4_keep_2 : decode cX4_keep 2 = .ok (.getfield 20, 3) := by decide +kernel
theorem dX4_keep_5 : decode cX4_keep 5 = .ok (.putfield 38, 3) := by decide +kernel
theorem dX4_keep_8 : decode cX4_keep 8 = .ok (.aload_n 0, 1) := by decide +kernel
theorem dX4_keep_9 : decode cX4_keep 9 = .ok (.aload_n 0, 1) := by decide +kernel
theorem dX4_keep_10 : decode cX4_keep 10 = .ok (.getfield 23, 3) := by decide +kernel
theorem dX4_keep_13 : decode cX4_keep 13 = .ok (.putfield 41, 3) := by decide +kernel
theorem dX4_keep_16 : decode cX4_keep 16 = .ok (.return_, 1) := by decide +kernel
theorem dX4_goBack_0 : decode cX4_goBack 0 = .ok (.aload_n 0, 1) := by decide +kernel
theorem dX4_goBack_1 : decode cX4_goBack 1 = .ok (.aload_n 0, 1) := by decide +kernel
theorem dX4_goBack_2 : decode cX4_goBack 2 = .ok (.getfield 38, 3) := by decide +kernel
theorem dX4_goBack_5 : decode cX4_goBack 5 = .ok (.putfield 20, 3) := by decide +kernel
theorem dX4_goBack_8 : decode cX4_goBack 8 = .ok (.aload_n 0, 1) := by decide +kernel
theorem dX4_goBack_9 : decode cX4_goBack 9 = .ok (.aload_n 0, 1) := by decide +kernel
theorem dX4_goBack_10 : decode cX4_goBack 10 = .ok (.getfield 41, 3) := by decide +kernel
theorem dX4_goBack_13 : decode cX4_goBack 13 = .ok (.putfield 23, 3) := by decide +kernel
theorem dX4_goBack_16 : decode cX4_goBack 16 = .ok (.return_, 1) := by decide +kernel
theorem dX5_init_0 : decode cX5_init 0 = .ok (.aload_n 0, 1) := by decide +kernel
theorem dX5_init_1 : decode cX5_init 1 = .ok (.invokespecial 3, 3) := by decide +kernel
theorem dX5_init_4 : decode cX5_init 4 = .ok (.aload_n 0, 1) := by decide +kernel
theorem dX5_init_5 : decode cX5_init 5 = .ok (.aload_n 1, 1) := by decide +kernel
theorem dX5_init_6 : decode cX5_init 6 = .ok (.putfield 9, 3) := by decide +kernel
theorem dX5_init_9 : decode cX5_init 9 = .ok (.aload_n 0, 1) := by decide +kernel
theorem dX5_init_10 : decode cX5_init 10 = .ok (.iload_n 2, 1) := by decide +kernel
theorem dX5_init_11 : decode cX5_init 11 = .ok (.putfield 15, 3) := by decide +kernel
theorem dX5_init_14 : decode cX5_init 14 = .ok (.aload_n 0, 1) := by decide +kernel
theorem dX5_init_15 : decode cX5_init 15 = .ok (.iload_n 3, 1) := by decide +kernel
theorem dX5_init_16 : decode cX5_init 16 = .ok (.putfield 19, 3) := by decide +kernel
theorem dX5_init_19 : decode cX5_init 19 = .ok (.return_, 1) := by decide +kernel
theorem dX5_accrue_0 : decode cX5_accrue 0 = .ok (.aload_n 0, 1) := by decide +kernel
theorem dX5_accrue_1 : decode cX5_accrue 1 = .ok (.dup, 1) := by decide +kernel
theorem dX5_accrue_2 : decode cX5_accrue 2 = .ok (.getfield 22, 3) := by decide +kernel
theorem dX5_accrue_5 : decode cX5_accrue 5 = .ok (.aload_n 0, 1) := by decide +kernel
theorem dX5_accrue_6 : decode cX5_accrue 6 = .ok (.getfield 26, 3) := by decide +kernel
theorem dX5_accrue_9 : decode cX5_accrue 9 = .ok (.aload_n 0, 1) := by decide +kernel
theorem dX5_accrue_10 : decode cX5_accrue 10 = .ok (.getfield 19, 3) := by decide +kernel
theorem dX5_accrue_13 : decode cX5_accrue 13 = .ok (.i2l, 1) := by decide +kernel
theorem dX5_accrue_14 : decode cX5_accrue 14 = .ok (.lmul, 1) := by decide +kernel
theorem dX5_accrue_15 : decode cX5_accrue 15 = .ok (.ladd, 1) := by decide +kernel
theorem dX5_accrue_16 : decode cX5_accrue 16 = .ok (.putfield 22, 3) := by decide +kernel
theorem dX5_accrue_19 : decode cX5_accrue 19 = .ok (.return_, 1) := by decide +kernel
theorem dX5_bookInterest_0 : decode cX5_bookInterest 0 = .ok (.aload_n 0, 1) := by decide +kernel
theorem dX5_bookInterest_1 : decode cX5_bookInterest 1 = .ok (.getfield 22, 3) := by decide +kernel
theorem dX5_bookInterest_4 : decode cX5_bookInterest 4 = .ok (.ldc2_w 29, 3) := by decide +kernel
theorem dX5_bookInterest_7 : decode cX5_bookInterest 7 = .ok (.ldiv, 1) := by decide +kernel
theorem dX5_bookInterest_8 : decode cX5_bookInterest 8 = .ok (.lstore_n 1, 1) := by decide +kernel
theorem dX5_bookInterest_9 : decode cX5_bookInterest 9 = .ok (.aload_n 0, 1) := by decide +kernel
theorem dX5_bookInterest_10 : decode cX5_bookInterest 10 = .ok (.dup, 1) := by decide +kernel
theorem dX5_bookInterest_11 : decode cX5_bookInterest 11 = .ok (.getfield 22, 3) := by decide +kernel
theorem dX5_bookInterest_14 : decode cX5_bookInterest 14 = .ok (.lload_n 1, 1) := by decide +kernel
theorem dX5_bookInterest_15 : decode cX5_bookInterest 15 = .ok (.ldc2_w 29, 3) := by decide +kernel
theorem dX5_bookInterest_18 : decode cX5_bookInterest 18 = .ok (.lmul, 1) := by decide +kernel
theorem dX5_bookInterest_19 : decode cX5_bookInterest 19 = .ok (.lsub, 1) := by decide +kernel
theorem dX5_bookInterest_20 : decode cX5_bookInterest 20 = .ok (.putfield 22, 3) := by decide +kernel
theorem dX5_bookInterest_23 : decode cX5_bookInterest 23 = .ok (.aload_n 0, 1) := by decide +kernel
theorem dX5_bookInterest_24 : decode cX5_bookInterest 24 = .ok (.dup, 1) := by decide +kernel
theorem dX5_bookInterest_25 : decode cX5_bookInterest 25 = .ok (.getfield 31, 3) := by decide +kernel
theorem dX5_bookInterest_28 : decode cX5_bookInterest 28 = .ok (.lload_n 1, 1) := by decide +kernel
theorem dX5_bookInterest_29 : decode cX5_bookInterest 29 = .ok (.ladd, 1) := by decide +kernel
theorem dX5_bookInterest_30 : decode cX5_bookInterest 30 = .ok (.putfield 31, 3) := by decide +kernel
theorem dX5_bookInterest_33 : decode cX5_bookInterest 33 = .ok (.aload_n 0, 1) := by decide +kernel
theorem dX5_bookInterest_34 : decode cX5_bookInterest 34 = .ok (.getfield 9, 3) := by decide +kernel
theorem dX5_bookInterest_37 : decode cX5_bookInterest 37 = .ok (.dup, 1) := by decide +kernel
theorem dX5_bookInterest_38 : decode cX5_bookInterest 38 = .ok (.getfield 34, 3) := by decide +kernel
theorem dX5_bookInterest_41 : decode cX5_bookInterest 41 = .ok (.lload_n 1, 1) := by decide +kernel
theorem dX5_bookInterest_42 : decode cX5_bookInterest 42 = .ok (.lsub, 1) := by decide +kernel
theorem dX5_bookInterest_43 : decode cX5_bookInterest 43 = .ok (.putfield 34, 3) := by decide +kernel
theorem dX5_bookInterest_46 : decode cX5_bookInterest 46 = .ok (.return_, 1) := by decide +kernel
theorem dX5_keep_0 : decode cX5_keep 0 = .ok (.aload_n 0, 1) := by decide +kernel
theorem dX5_keep_1 : decode cX5_keep 1 = .ok (.aload_n 0, 1) := by decide +kernel
theorem dX5_keep_2 : decode cX5_keep 2 = .ok (.getfield 26, 3) := by decide +kernel
theorem dX5_keep_5 : decode cX5_keep 5 = .ok (.putfield 39, 3) := by decide +kernel
theorem dX5_keep_8 : decode cX5_keep 8 = .ok (.aload_n 0, 1) := by decide +kernel
theorem dX5_keep_9 : decode cX5_keep 9 = .ok (.aload_n 0, 1) := by decide +kernel
theorem dX5_keep_10 : decode cX5_keep 10 = .ok (.getfield 31, 3) := by decide +kernel
theorem dX5_keep_13 : decode cX5_keep 13 = .ok (.putfield 42, 3) := by decide +kernel
theorem dX5_keep_16 : decode cX5_keep 16 = .ok (.aload_n 0, 1) := by decide +kernel
theorem dX5_keep_17 : decode cX5_keep 17 = .ok (.aload_n 0, 1) := by decide +kernel
theorem dX5_keep_18 : decode cX5_keep 18 = .ok (.getfield 22, 3) := by decide +kernel
theorem dX5_keep_21 : decode cX5_keep 21 = .ok (.putfield 45, 3) := by decide +kernel
theorem dX5_keep_24 : decode cX5_keep 24 = .ok (.return_, 1) := by decide +kernel
theorem dX5_goBack_0 : decode cX5_goBack 0 = .ok (.aload_n 0, 1) := by decide +kernel
theorem dX5_goBack_1 : decode cX5_goBack 1 = .ok (.aload_n 0, 1) := by decide +kernel
theorem dX5_goBack_2 : decode cX5_goBack 2 = .ok (.getfield 39, 3) := by decide +kernel
theorem dX5_goBack_5 : decode cX5_goBack 5 = .ok (.putfield 26, 3) := by decide +kernel
theorem dX5_goBack_8 : decode cX5_goBack 8 = .ok (.aload_n 0, 1) := by decide +kernel
theorem dX5_goBack_9 : decode cX5_goBack 9 = .ok (.aload_n 0, 1) := by decide +kernel
theorem dX5_goBack_10 : decode cX5_goBack 10 = .ok (.getfield 42, 3) := by decide +kernel
theorem dX5_goBack_13 : decode cX5_goBack 13 = .ok (.putfield 31, 3) := by decide +kernel
theorem dX5_goBack_16 : decode cX5_goBack 16 = .ok (.aload_n 0, 1) := by decide +kernel
theorem dX5_goBack_17 : decode cX5_goBack 17 = .ok (.aload_n 0, 1) := by decide +kernel
theorem dX5_goBack_18 : decode cX5_goBack 18 = .ok (.getfield 45, 3) := by decide +kernel
theorem dX5_goBack_21 : decode cX5_goBack 21 = .ok (.putfield 22, 3) := by decide +kernel
theorem dX5_goBack_24 : decode cX5_goBack 24 = .ok (.return_, 1) := by decide +kernel
def ch_wsX6_init : List (List Cond) := [wsX6_init_r1, wsX6_init_r2, wsJx4a65c0, wsX60, wsX70]
theorem chm_wsX6_init : ∀ c ∈ ch_wsX6_init, ∀ w ∈ c, w ∈ wsX6_init := List.forall_mem_cons.mpr ⟨(fun w h => (List.mem_cons_of_mem _ (List.mem_append_left _ (List.mem_append_left _ (List.mem_append_left _ (List.mem_append_left _ h)))))), List.forall_mem_cons.mpr ⟨(fun w h => (List.mem_cons_of_mem _ (List.mem_append_left _ (List.mem_append_left _ (List.mem_append_left _ (List.mem_append_right _ h)))))), List.forall_mem_cons.mpr ⟨(fun w h => (List.mem_cons_of_mem _ (List.mem_append_left _ (List.mem_append_left _ (List.mem_append_right _ h))))), List.forall_mem_cons.mpr ⟨(fun w h => (List.mem_cons_of_mem _ (List.mem_append_left _ (List.mem_append_right _ h)))), List.forall_mem_cons.mpr ⟨(fun w h => (List.mem_cons_of_mem _ (List.mem_append_right _ h))), fun _ h => absurd h List.not_mem_nil⟩⟩⟩⟩⟩
set_option maxRecDepth 100000 in
set_option maxHeartbeats 4000000 in
theorem ggX6_init_Jx4a65c_init_da8c8 : GoodIn wsX6_init wsJx4a65c_init_da8c8 := goodIn_k ch_wsX6_init chm_wsX6_init _ [(0, 16), (0, 17), (0, 18), (0, 19), (0, 20), (0, 21), (0, 22), (0, 23), (1, 0), (1, 1), (1, 2), (1, 3), (1, 4), (0, 1), (0, 2), (2, 0), (2, 1), (2, 2)] (by rfl) (by decide +kernel)
set_option maxRecDepth 20000 in
theorem gX6_init_Jx4a65c_init_da8c8 : GoodIn wsX6_init (wsJx4a65c_init_da8c8) := ggX6_init_Jx4a65c_init_da8c8
set_option maxRecDepth 100000 in
set_option maxHeartbeats 4000000 in
theorem ggX6_init_X7_init : GoodIn wsX6_init wsX7_init := goodIn_k ch_wsX6_init chm_wsX6_init _ [(1, 7), (1, 8), (0, 1), (0, 2), (1, 9), (1, 10), (1, 11), (1, 12), (1, 13), (1, 14), (1, 15), (4, 0), (4, 1), (4, 2), (4, 3), (4, 4), (4, 5), (4, 6), (4, 7), (4, 8), (4, 9)] (by rfl) (by decide +kernel)
set_option maxRecDepth 20000 in
theorem gX6_init_X7_init : GoodIn wsX6_init (wsX7_init) := ggX6_init_X7_init
theorem dX6_init_0 : decode cX6_init 0 = .ok (.aload_n 0, 1) := by decide +kernel
theorem dX6_init_1 : decode cX6_init 1 = .ok (.invokespecial 1, 3) := by decide +kernel
theorem dX6_init_4 : decode cX6_init 4 = .ok (.aload_n 0, 1) := by decide +kernel
theorem dX6_init_5 : decode cX6_init 5 = .ok (.new 7, 3) := by decide +kernel
theorem dX6_init_8 : decode cX6_init 8 = .ok (.dup, 1) := by decide +kernel
theorem dX6_init_9 : decode cX6_init 9 = .ok (.invokespecial 9, 3) := by decide +kernel
theorem dX6_init_12 : decode cX6_init 12 = .ok (.putfield 10, 3) := by decide +kernel
theorem dX6_init_15 : decode cX6_init 15 = .ok (.aload_n 0, 1) := by decide +kernel
theorem dX6_init_16 : decode cX6_init 16 = .ok (.new 7, 3) := by decide +kernel
theorem dX6_init_19 : decode cX6_init 19 = .ok (.dup, 1) := by decide +kernel
theorem dX6_init_20 : decode cX6_init 20 = .ok (.invokespecial 9, 3) := by decide +kernel
theorem dX6_init_23 : decode cX6_init 23 = .ok (.putfield 16, 3) := by decide +kernel
theorem dX6_init_26 : decode cX6_init 26 = .ok (.aload_n 0, 1) := by decide +kernel
theorem dX6_init_27 : decode cX6_init 27 = .ok (.iload_n 1, 1) := by decide +kernel
theorem dX6_init_28 : decode cX6_init 28 = .ok (.putfield 19, 3) := by decide +kernel
theorem dX6_init_31 : decode cX6_init 31 = .ok (.aload_n 0, 1) := by decide +kernel
theorem dX6_init_32 : decode cX6_init 32 = .ok (.new 23, 3) := by decide +kernel
theorem dX6_init_35 : decode cX6_init 35 = .ok (.dup, 1) := by decide +kernel
theorem dX6_init_36 : decode cX6_init 36 = .ok (.iload_n 2, 1) := by decide +kernel
theorem dX6_init_37 : decode cX6_init 37 = .ok (.iconst 1, 1) := by decide +kernel
theorem dX6_init_38 : decode cX6_init 38 = .ok (.invokespecial 25, 3) := by decide +kernel
theorem dX6_init_41 : decode cX6_init 41 = .ok (.putfield 28, 3) := by decide +kernel
theorem dX6_init_44 : decode cX6_init 44 = .ok (.aload_n 0, 1) := by decide +kernel
theorem dX6_init_45 : decode cX6_init 45 = .ok (.new 23, 3) := by decide +kernel
theorem dX6_init_48 : decode cX6_init 48 = .ok (.dup, 1) := by decide +kernel
theorem dX6_init_49 : decode cX6_init 49 = .ok (.iload_n 3, 1) := by decide +kernel
theorem dX6_init_50 : decode cX6_init 50 = .ok (.iconst (-1), 1) := by decide +kernel
theorem dX6_init_51 : decode cX6_init 51 = .ok (.invokespecial 25, 3) := by decide +kernel
theorem dX6_init_54 : decode cX6_init 54 = .ok (.putfield 32, 3) := by decide +kernel
theorem dX6_init_57 : decode cX6_init 57 = .ok (.return_, 1) := by decide +kernel
def ch_wsX6_rank : List (List Cond) := [wsX6_rank_r1, wsX6_rank_r2, wsX6_rank_r3, wsX6_rank_r4, wsX60, wsX50, wsJx4a65c0]
theorem chm_wsX6_rank : ∀ c ∈ ch_wsX6_rank, ∀ w ∈ c, w ∈ wsX6_rank := List.forall_mem_cons.mpr ⟨(fun w h => (List.mem_cons_of_mem _ (List.mem_append_left _ (List.mem_append_left _ (List.mem_append_left _ (List.mem_append_left _ h)))))), List.forall_mem_cons.mpr ⟨(fun w h => (List.mem_cons_of_mem _ (List.mem_append_left _ (List.mem_append_left _ (List.mem_append_left _ (List.mem_append_right _ (List.mem_append_left _ h))))))), List.forall_mem_cons.mpr ⟨(fun w h => (List.mem_cons_of_mem _ (List.mem_append_left _ (List.mem_append_left _ (List.mem_append_left _ (List.mem_append_right _ (List.mem_append_right _ (List.mem_append_left _ h)))))))), List.forall_mem_cons.mpr ⟨(fun w h => (List.mem_cons_of_mem _ (List.mem_append_left _ (List.mem_append_left _ (List.mem_append_left _ (List.mem_append_right _ (List.mem_append_right _ (List.mem_append_right _ h)))))))), List.forall_mem_cons.mpr ⟨(fun w h => (List.mem_cons_of_mem _ (List.mem_append_left _ (List.mem_append_left _ (List.mem_append_right _ h))))), List.forall_mem_cons.mpr ⟨(fun w h => (List.mem_cons_of_mem _ (List.mem_append_left _ (List.mem_append_right _ h)))), List.forall_mem_cons.mpr ⟨(fun w h => (List.mem_cons_of_mem _ (List.mem_append_right _ h))), fun _ h => absurd h List.not_mem_nil⟩⟩⟩⟩⟩⟩⟩
set_option maxRecDepth 100000 in
set_option maxHeartbeats 4000000 in
theorem ggX6_rank_Jx4a65c_size_8abf5 : GoodIn wsX6_rank wsJx4a65c_size_8abf5 := goodIn_k ch_wsX6_rank chm_wsX6_rank _ [(0, 7), (0, 8), (6, 0), (6, 1), (6, 2)] (by rfl) (by decide +kernel)
set_option maxRecDepth 20000 in
theorem gX6_rank_Jx4a65c_size_8abf5 : GoodIn wsX6_rank (wsV RX6 35 RJx4a65c yJx4a65c_size_8abf5 wsJx4a65c_size_8abf5) := goodIn_app (goodIn_of _ (by decide +kernel)) ggX6_rank_Jx4a65c_size_8abf5
set_option maxRecDepth 100000 in
set_option maxHeartbeats 4000000 in
theorem ggX6_rank_Jx4a65c_get_915e3 : GoodIn wsX6_rank wsJx4a65c_get_915e3 := goodIn_k ch_wsX6_rank chm_wsX6_rank _ [(0, 12), (0, 8), (0, 13), (0, 14), (0, 15), (0, 16), (0, 17), (0, 18), (0, 19), (0, 20), (0, 21), (0, 22), (0, 23), (0, 6), (1, 0), (1, 1), (6, 0), (6, 1), (6, 2)] (by rfl) (by decide +kernel)
set_option maxRecDepth 20000 in
theorem gX6_rank_Jx4a65c_get_915e3 : GoodIn wsX6_rank (wsV RX6 39 RJx4a65c yJx4a65c_get_915e3 wsJx4a65c_get_915e3) := goodIn_app (goodIn_of _ (by decide +kernel)) ggX6_rank_Jx4a65c_get_915e3
set_option maxRecDepth 100000 in
set_option maxHeartbeats 4000000 in
theorem ggX6_rank_Jx4a65c_add_7a177 : GoodIn wsX6_rank wsJx4a65c_add_7a177 := goodIn_k ch_wsX6_rank chm_wsX6_rank _ [(1, 5), (1, 6), (1, 7), (0, 8), (1, 1), (1, 8), (1, 9), (1, 10), (1, 11), (1, 12), (1, 13), (1, 14), (0, 6), (1, 15), (1, 16), (1, 17), (1, 18), (1, 19), (1, 20), (1, 21), (1, 22), (1, 23), (2, 0), (2, 1), (2, 2), (2, 3), (2, 4), (2, 5), (2, 6), (2, 7), (2, 8), (2, 9), (2, 10), (2, 11), (2, 12), (2, 13), (2, 14), (2, 15), (2, 16), (2, 17), (2, 18), (2, 19), (2, 20), (2, 21), (2, 22), (2, 23), (3, 0), (3, 1), (3, 2), (3, 3), (3, 4), (3, 5), (3, 6), (3, 7), (6, 0), (6, 1), (6, 2)] (by rfl) (by decide +kernel)
set_option maxRecDepth 20000 in
theorem gX6_rank_Jx4a65c_add_7a177 : GoodIn wsX6_rank (wsV RX6 48 RJx4a65c yJx4a65c_add_7a177 wsJx4a65c_add_7a177) := goodIn_app (goodIn_of _ (by decide +kernel)) ggX6_rank_Jx4a65c_add_7a177
theorem dX6_rank_0 : decode cX6_rank 0 = .ok (.iconst 0, 1) := by decide +kernel
theorem dX6_rank_1 : decode cX6_rank 1 = .ok (.istore_n 2, 1) := by decide +kernel
theorem dX6_rank_2 : decode cX6_rank 2 = .ok (.iload_n 2, 1) := by decide +kernel
theorem dX6_rank_3 : decode cX6_rank 3 = .ok (.aload_n 0, 1) := by decide +kernel
theorem dX6_rank_4 : decode cX6_rank 4 = .ok (.getfield 16, 3) := by decide +kernel
theorem dX6_rank_7 : decode cX6_rank 7 = .ok (.invokevirtual 35, 3) := by decide +kernel
theorem dX6_rank_10 : decode cX6_rank 10 = .ok (.if_icmp .ge 30, 3) := by decide +kernel
theorem dX6_rank_13 : decode cX6_rank 13 = .ok (.aload_n 0, 1) := by decide +kernel
theorem dX6_rank_14 : decode cX6_rank 14 = .ok (.getfield 16, 3) := by decide +kernel
theorem dX6_rank_17 : decode cX6_rank 17 = .ok (.iload_n 2, 1) := by decide +kernel
theorem dX6_rank_18 : decode cX6_rank 18 = .ok (.invokevirtual 39, 3) := by decide +kernel
theorem dX6_rank_21 : decode cX6_rank 21 = .ok (.checkcast 43, 3) := by decide +kernel
theorem dX6_rank_24 : decode cX6_rank 24 = .ok (.getfield 45, 3) := by decide +kernel
theorem dX6_rank_27 : decode cX6_rank 27 = .ok (.aload_n 1, 1) := by decide +kernel
theorem dX6_rank_28 : decode cX6_rank 28 = .ok (.getfield 45, 3) := by decide +kernel
theorem dX6_rank_31 : decode cX6_rank 31 = .ok (.if_icmp .gt 9, 3) := by decide +kernel
theorem dX6_rank_34 : decode cX6_rank 34 = .ok (.iinc 2 1, 3) := by decide +kernel
theorem dX6_rank_37 : decode cX6_rank 37 = .ok (.goto (-35), 3) := by decide +kernel
theorem dX6_rank_40 : decode cX6_rank 40 = .ok (.aload_n 0, 1) := by decide +kernel
theorem dX6_rank_41 : decode cX6_rank 41 = .ok (.getfield 16, 3) := by decide +kernel
theorem dX6_rank_44 : decode cX6_rank 44 = .ok (.iload_n 2, 1) := by decide +kernel
theorem dX6_rank_45 : decode cX6_rank 45 = .ok (.aload_n 1, 1) := by decide +kernel
theorem dX6_rank_46 : decode cX6_rank 46 = .ok (.invokevirtual 48, 3) := by decide +kernel
theorem dX6_rank_49 : decode cX6_rank 49 = .ok (.return_, 1) := by decide +kernel
def ch_wsX6_drawMissing : List (List Cond) := [wsX6_drawMissing_r1, wsX6_drawMissing_r2, wsX60, wsX00, wsX50, wsJx4a65c0]
theorem chm_wsX6_drawMissing : ∀ c ∈ ch_wsX6_drawMissing, ∀ w ∈ c, w ∈ wsX6_drawMissing := List.forall_mem_cons.mpr ⟨(fun w h => (List.mem_cons_of_mem _ (List.mem_append_left _ (List.mem_append_left _ (List.mem_append_left _ (List.mem_append_left _ (List.mem_append_left _ h))))))), List.forall_mem_cons.mpr ⟨(fun w h => (List.mem_cons_of_mem _ (List.mem_append_left _ (List.mem_append_left _ (List.mem_append_left _ (List.mem_append_left _ (List.mem_append_right _ h))))))), List.forall_mem_cons.mpr ⟨(fun w h => (List.mem_cons_of_mem _ (List.mem_append_left _ (List.mem_append_left _ (List.mem_append_left _ (List.mem_append_right _ h)))))), List.forall_mem_cons.mpr ⟨(fun w h => (List.mem_cons_of_mem _ (List.mem_append_left _ (List.mem_append_left _ (List.mem_append_right _ h))))), List.forall_mem_cons.mpr ⟨(fun w h => (List.mem_cons_of_mem _ (List.mem_append_left _ (List.mem_append_right _ h)))), List.forall_mem_cons.mpr ⟨(fun w h => (List.mem_cons_of_mem _ (List.mem_append_right _ h))), fun _ h => absurd h List.not_mem_nil⟩⟩⟩⟩⟩⟩
set_option maxRecDepth 100000 in
set_option maxHeartbeats 4000000 in
theorem ggX6_drawMissing_Jx4a65c_size_8abf5 : GoodIn wsX6_drawMissing wsJx4a65c_size_8abf5 := goodIn_k ch_wsX6_drawMissing chm_wsX6_drawMissing _ [(0, 16), (0, 17), (5, 0), (5, 1), (5, 2)] (by rfl) (by decide +kernel)
set_option maxRecDepth 20000 in
theorem gX6_drawMissing_Jx4a65c_size_8abf5 : GoodIn wsX6_drawMissing (wsV RX6 35 RJx4a65c yJx4a65c_size_8abf5 wsJx4a65c_size_8abf5) := goodIn_app (goodIn_of _ (by decide +kernel)) ggX6_drawMissing_Jx4a65c_size_8abf5
set_option maxRecDepth 100000 in
set_option maxHeartbeats 4000000 in
theorem ggX6_drawMissing_Jx4a65c_get_915e3 : GoodIn wsX6_drawMissing wsJx4a65c_get_915e3 := goodIn_k ch_wsX6_drawMissing chm_wsX6_drawMissing _ [(0, 21), (0, 17), (0, 22), (0, 23), (1, 0), (1, 1), (1, 2), (1, 3), (1, 4), (1, 5), (1, 6), (1, 7), (1, 8), (0, 15), (1, 9), (1, 10), (5, 0), (5, 1), (5, 2)] (by rfl) (by decide +kernel)
set_option maxRecDepth 20000 in
theorem gX6_drawMissing_Jx4a65c_get_915e3 : GoodIn wsX6_drawMissing (wsV RX6 39 RJx4a65c yJx4a65c_get_915e3 wsJx4a65c_get_915e3) := goodIn_app (goodIn_of _ (by decide +kernel)) ggX6_drawMissing_Jx4a65c_get_915e3
theorem dX6_drawMissing_0 : decode cX6_drawMissing 0 = .ok (.iconst 0, 1) := by decide +kernel
theorem dX6_drawMissing_1 : decode cX6_drawMissing 1 = .ok (.istore_n 2, 1) := by decide +kernel
theorem dX6_drawMissing_2 : decode cX6_drawMissing 2 = .ok (.iload_n 2, 1) := by decide +kernel
theorem dX6_drawMissing_3 : decode cX6_drawMissing 3 = .ok (.aload_n 0, 1) := by decide +kernel
theorem dX6_drawMissing_4 : decode cX6_drawMissing 4 = .ok (.getfield 16, 3) := by decide +kernel
theorem dX6_drawMissing_7 : decode cX6_drawMissing 7 = .ok (.invokevirtual 35, 3) := by decide +kernel
theorem dX6_drawMissing_10 : decode cX6_drawMissing 10 = .ok (.if_icmp .ge 71, 3) := by decide +kernel
theorem dX6_drawMissing_13 : decode cX6_drawMissing 13 = .ok (.aload_n 0, 1) := by decide +kernel
theorem dX6_drawMissing_14 : decode cX6_drawMissing 14 = .ok (.getfield 16, 3) := by decide +kernel
theorem dX6_drawMissing_17 : decode cX6_drawMissing 17 = .ok (.iload_n 2, 1) := by decide +kernel
theorem dX6_drawMissing_18 : decode cX6_drawMissing 18 = .ok (.invokevirtual 39, 3) := by decide +kernel
theorem dX6_drawMissing_21 : decode cX6_drawMissing 21 = .ok (.checkcast 43, 3) := by decide +kernel
theorem dX6_drawMissing_24 : decode cX6_drawMissing 24 = .ok (.astore_n 3, 1) := by decide +kernel
theorem dX6_drawMissing_25 : decode cX6_drawMissing 25 = .ok (.aload_n 1, 1) := by decide +kernel
theorem dX6_drawMissing_26 : decode cX6_drawMissing 26 = .ok (.getfield 52, 3) := by decide +kernel
theorem dX6_drawMissing_29 : decode cX6_drawMissing 29 = .ok (.lneg, 1) := by decide +kernel
theorem dX6_drawMissing_30 : decode cX6_drawMissing 30 = .ok (.lconst 0, 1) := by decide +kernel
theorem dX6_drawMissing_31 : decode cX6_drawMissing 31 = .ok (.invokestatic 58, 3) := by decide +kernel
theorem dX6_drawMissing_34 : decode cX6_drawMissing 34 = .ok (.lstore 4, 2) := by decide +kernel
theorem dX6_drawMissing_36 : decode cX6_drawMissing 36 = .ok (.lload 4, 2) := by decide +kernel
theorem dX6_drawMissing_38 : decode cX6_drawMissing 38 = .ok (.aload_n 3, 1) := by decide +kernel
theorem dX6_drawMissing_39 : decode cX6_drawMissing 39 = .ok (.getfield 64, 3) := by decide +kernel
theorem dX6_drawMissing_42 : decode cX6_drawMissing 42 = .ok (.i2l, 1) := by decide +kernel
theorem dX6_drawMissing_43 : decode cX6_drawMissing 43 = .ok (.aload_n 3, 1) := by decide +kernel
theorem dX6_drawMissing_44 : decode cX6_drawMissing 44 = .ok (.getfield 67, 3) := by decide +kernel
theorem dX6_drawMissing_47 : decode cX6_drawMissing 47 = .ok (.lsub, 1) := by decide +kernel
theorem dX6_drawMissing_48 : decode cX6_drawMissing 48 = .ok (.invokestatic 70, 3) := by decide +kernel
theorem dX6_drawMissing_51 : decode cX6_drawMissing 51 = .ok (.lstore 6, 2) := by decide +kernel
theorem dX6_drawMissing_53 : decode cX6_drawMissing 53 = .ok (.aload_n 3, 1) := by decide +kernel
theorem dX6_drawMissing_54 : decode cX6_drawMissing 54 = .ok (.dup, 1) := by decide +kernel
theorem dX6_drawMissing_55 : decode cX6_drawMissing 55 = .ok (.getfield 67, 3) := by decide +kernel
theorem dX6_drawMissing_58 : decode cX6_drawMissing 58 = .ok (.lload 6, 2) := by decide +kernel
theorem dX6_drawMissing_60 : decode cX6_drawMissing 60 = .ok (.ladd, 1) := by decide +kernel
theorem dX6_drawMissing_61 : decode cX6_drawMissing 61 = .ok (.putfield 67, 3) := by decide +kernel
theorem dX6_drawMissing_64 : decode cX6_drawMissing 64 = .ok (.aload_n 1, 1) := by decide +kernel
theorem dX6_drawMissing_65 : decode cX6_drawMissing 65 = .ok (.dup, 1) := by decide +kernel
theorem dX6_drawMissing_66 : decode cX6_drawMissing 66 = .ok (.getfield 52, 3) := by decide +kernel
theorem dX6_drawMissing_69 : decode cX6_drawMissing 69 = .ok (.lload 6, 2) := by decide +kernel
theorem dX6_drawMissing_71 : decode cX6_drawMissing 71 = .ok (.ladd, 1) := by decide +kernel
theorem dX6_drawMissing_72 : decode cX6_drawMissing 72 = .ok (.putfield 52, 3) := by decide +kernel
theorem dX6_drawMissing_75 : decode cX6_drawMissing 75 = .ok (.iinc 2 1, 3) := by decide +kernel
theorem dX6_drawMissing_78 : decode cX6_drawMissing 78 = .ok (.goto (-76), 3) := by decide +kernel
theorem dX6_drawMissing_81 : decode cX6_drawMissing 81 = .ok (.return_, 1) := by decide +kernel
def ch_wsX6_payBack : List (List Cond) := [wsX6_payBack_r1, wsX6_payBack_r2, wsX60, wsX00, wsX50, wsJx4a65c0]
theorem chm_wsX6_payBack : ∀ c ∈ ch_wsX6_payBack, ∀ w ∈ c, w ∈ wsX6_payBack := List.forall_mem_cons.mpr ⟨(fun w h => (List.mem_cons_of_mem _ (List.mem_append_left _ (List.mem_append_left _ (List.mem_append_left _ (List.mem_append_left _ (List.mem_append_left _ h))))))), List.forall_mem_cons.mpr ⟨(fun w h => (List.mem_cons_of_mem _ (List.mem_append_left _ (List.mem_append_left _ (List.mem_append_left _ (List.mem_append_left _ (List.mem_append_right _ h))))))), List.forall_mem_cons.mpr ⟨(fun w h => (List.mem_cons_of_mem _ (List.mem_append_left _ (List.mem_append_left _ (List.mem_append_left _ (List.mem_append_right _ h)))))), List.forall_mem_cons.mpr ⟨(fun w h => (List.mem_cons_of_mem _ (List.mem_append_left _ (List.mem_append_left _ (List.mem_append_right _ h))))), List.forall_mem_cons.mpr ⟨(fun w h => (List.mem_cons_of_mem _ (List.mem_append_left _ (List.mem_append_right _ h)))), List.forall_mem_cons.mpr ⟨(fun w h => (List.mem_cons_of_mem _ (List.mem_append_right _ h))), fun _ h => absurd h List.not_mem_nil⟩⟩⟩⟩⟩⟩
set_option maxRecDepth 100000 in
set_option maxHeartbeats 4000000 in
theorem ggX6_payBack_Jx4a65c_size_8abf5 : GoodIn wsX6_payBack wsJx4a65c_size_8abf5 := goodIn_k ch_wsX6_payBack chm_wsX6_payBack _ [(0, 15), (0, 16), (5, 0), (5, 1), (5, 2)] (by rfl) (by decide +kernel)
set_option maxRecDepth 20000 in
theorem gX6_payBack_Jx4a65c_size_8abf5 : GoodIn wsX6_payBack (wsV RX6 35 RJx4a65c yJx4a65c_size_8abf5 wsJx4a65c_size_8abf5) := goodIn_app (goodIn_of _ (by decide +kernel)) ggX6_payBack_Jx4a65c_size_8abf5
set_option maxRecDepth 100000 in
set_option maxHeartbeats 4000000 in
theorem ggX6_payBack_Jx4a65c_get_915e3 : GoodIn wsX6_payBack wsJx4a65c_get_915e3 := goodIn_k ch_wsX6_payBack chm_wsX6_payBack _ [(0, 20), (0, 16), (0, 21), (0, 22), (0, 23), (1, 0), (1, 1), (1, 2), (1, 3), (1, 4), (1, 5), (1, 6), (1, 7), (0, 14), (1, 8), (1, 9), (5, 0), (5, 1), (5, 2)] (by rfl) (by decide +kernel)
set_option maxRecDepth 20000 in
theorem gX6_payBack_Jx4a65c_get_915e3 : GoodIn wsX6_payBack (wsV RX6 39 RJx4a65c yJx4a65c_get_915e3 wsJx4a65c_get_915e3) := goodIn_app (goodIn_of _ (by decide +kernel)) ggX6_payBack_Jx4a65c_get_915e3
theorem dX6_payBack_0 : decode cX6_payBack 0 = .ok (.aload_n 0, 1) := by decide +kernel
theorem dX6_payBack_1 : decode cX6_payBack 1 = .ok (.getfield 16, 3) := by decide +kernel
theorem dX6_payBack_4 : decode cX6_payBack 4 = .ok (.invokevirtual 35, 3) := by decide +kernel
theorem dX6_payBack_7 : decode cX6_payBack 7 = .ok (.iconst 1, 1) := by decide +kernel
theorem dX6_payBack_8 : decode cX6_payBack 8 = .ok (.isub, 1) := by decide +kernel
theorem dX6_payBack_9 : decode cX6_payBack 9 = .ok (.istore_n 2, 1) := by decide +kernel
theorem dX6_payBack_10 : decode cX6_payBack 10 = .ok (.iload_n 2, 1) := by decide +kernel
theorem dX6_payBack_11 : decode cX6_payBack 11 = .ok (.ifCond .lt 60, 3) := by decide +kernel
theorem dX6_payBack_14 : decode cX6_payBack 14 = .ok (.aload_n 0, 1) := by decide +kernel
theorem dX6_payBack_15 : decode cX6_payBack 15 = .ok (.getfield 16, 3) := by decide +kernel
theorem dX6_payBack_18 : decode cX6_payBack 18 = .ok (.iload_n 2, 1) := by decide +kernel
theorem dX6_payBack_19 : decode cX6_payBack 19 = .ok (.invokevirtual 39, 3) := by decide +kernel
theorem dX6_payBack_22 : decode cX6_payBack 22 = .ok (.checkcast 43, 3) := by decide +kernel
theorem dX6_payBack_25 : decode cX6_payBack 25 = .ok (.astore_n 3, 1) := by decide +kernel
theorem dX6_payBack_26 : decode cX6_payBack 26 = .ok (.aload_n 1, 1) := by decide +kernel
theorem dX6_payBack_27 : decode cX6_payBack 27 = .ok (.getfield 52, 3) := by decide +kernel
theorem dX6_payBack_30 : decode cX6_payBack 30 = .ok (.lconst 0, 1) := by decide +kernel
theorem dX6_payBack_31 : decode cX6_payBack 31 = .ok (.invokestatic 58, 3) := by decide +kernel
theorem dX6_payBack_34 : decode cX6_payBack 34 = .ok (.aload_n 3, 1) := by decide +kernel
theorem dX6_payBack_35 : decode cX6_payBack 35 = .ok (.getfield 67, 3) := by decide +kernel
theorem dX6_payBack_38 : decode cX6_payBack 38 = .ok (.invokestatic 70, 3) := by decide +kernel
theorem dX6_payBack_41 : decode cX6_payBack 41 = .ok (.lstore 4, 2) := by decide +kernel
theorem dX6_payBack_43 : decode cX6_payBack 43 = .ok (.aload_n 3, 1) := by decide +kernel
theorem dX6_payBack_44 : decode cX6_payBack 44 = .ok (.dup, 1) := by decide +kernel
theorem dX6_payBack_45 : decode cX6_payBack 45 = .ok (.getfield 67, 3) := by decide +kernel
theorem dX6_payBack_48 : decode cX6_payBack 48 = .ok (.lload 4, 2) := by decide +kernel
theorem dX6_payBack_50 : decode cX6_payBack 50 = .ok (.lsub, 1) := by decide +kernel
theorem dX6_payBack_51 : decode cX6_payBack 51 = .ok (.putfield 67, 3) := by decide +kernel
theorem dX6_payBack_54 : decode cX6_payBack 54 = .ok (.aload_n 1, 1) := by decide +kernel
theorem dX6_payBack_55 : decode cX6_payBack 55 = .ok (.dup, 1) := by decide +kernel
theorem dX6_payBack_56 : decode cX6_payBack 56 = .ok (.getfield 52, 3) := by decide +kernel
theorem dX6_payBack_59 : decode cX6_payBack 59 = .ok (.lload 4, 2) := by decide +kernel
theorem dX6_payBack_61 : decode cX6_payBack 61 = .ok (.lsub, 1) := by decide +kernel
theorem dX6_payBack_62 : decode cX6_payBack 62 = .ok (.putfield 52, 3) := by decide +kernel
theorem dX6_payBack_65 : decode cX6_payBack 65 = .ok (.iinc 2 (-1), 3) := by decide +kernel
theorem dX6_payBack_68 : decode cX6_payBack 68 = .ok (.goto (-58), 3) := by decide +kernel
theorem dX6_payBack_71 : decode cX6_payBack 71 = .ok (.return_, 1) := by decide +kernel
def ch_wsX6_accrue : List (List Cond) := [wsX6_accrue_r1, wsX6_accrue_r2, wsX60, wsX00, wsJx4a65c0, wsX70]
theorem chm_wsX6_accrue : ∀ c ∈ ch_wsX6_accrue, ∀ w ∈ c, w ∈ wsX6_accrue := List.forall_mem_cons.mpr ⟨(fun w h => (List.mem_cons_of_mem _ (List.mem_append_left _ (List.mem_append_left _ (List.mem_append_left _ (List.mem_append_left _ (List.mem_append_left _ h))))))), List.forall_mem_cons.mpr ⟨(fun w h => (List.mem_cons_of_mem _ (List.mem_append_left _ (List.mem_append_left _ (List.mem_append_left _ (List.mem_append_left _ (List.mem_append_right _ h))))))), List.forall_mem_cons.mpr ⟨(fun w h => (List.mem_cons_of_mem _ (List.mem_append_left _ (List.mem_append_left _ (List.mem_append_left _ (List.mem_append_right _ h)))))), List.forall_mem_cons.mpr ⟨(fun w h => (List.mem_cons_of_mem _ (List.mem_append_left _ (List.mem_append_left _ (List.mem_append_right _ h))))), List.forall_mem_cons.mpr ⟨(fun w h => (List.mem_cons_of_mem _ (List.mem_append_left _ (List.mem_append_right _ h)))), List.forall_mem_cons.mpr ⟨(fun w h => (List.mem_cons_of_mem _ (List.mem_append_right _ h))), fun _ h => absurd h List.not_mem_nil⟩⟩⟩⟩⟩⟩
set_option maxRecDepth 100000 in
set_option maxHeartbeats 4000000 in
theorem ggX6_accrue_Jx4a65c_size_8abf5 : GoodIn wsX6_accrue wsJx4a65c_size_8abf5 := goodIn_k ch_wsX6_accrue chm_wsX6_accrue _ [(0, 9), (0, 10), (4, 0), (4, 1), (4, 2)] (by rfl) (by decide +kernel)
set_option maxRecDepth 20000 in
theorem gX6_accrue_Jx4a65c_size_8abf5 : GoodIn wsX6_accrue (wsV RX6 35 RJx4a65c yJx4a65c_size_8abf5 wsJx4a65c_size_8abf5) := goodIn_app (goodIn_of _ (by decide +kernel)) ggX6_accrue_Jx4a65c_size_8abf5
set_option maxRecDepth 100000 in
set_option maxHeartbeats 4000000 in
theorem ggX6_accrue_Jx4a65c_get_915e3 : GoodIn wsX6_accrue wsJx4a65c_get_915e3 := goodIn_k ch_wsX6_accrue chm_wsX6_accrue _ [(0, 14), (0, 10), (0, 15), (0, 16), (0, 17), (0, 18), (0, 19), (0, 20), (0, 21), (0, 22), (0, 23), (1, 0), (1, 1), (0, 8), (1, 2), (1, 3), (4, 0), (4, 1), (4, 2)] (by rfl) (by decide +kernel)
set_option maxRecDepth 20000 in
theorem gX6_accrue_Jx4a65c_get_915e3 : GoodIn wsX6_accrue (wsV RX6 39 RJx4a65c yJx4a65c_get_915e3 wsJx4a65c_get_915e3) := goodIn_app (goodIn_of _ (by decide +kernel)) ggX6_accrue_Jx4a65c_get_915e3
set_option maxRecDepth 100000 in
set_option maxHeartbeats 4000000 in
theorem ggX6_accrue_X7_accrue : GoodIn wsX6_accrue wsX7_accrue := goodIn_k ch_wsX6_accrue chm_wsX6_accrue _ [(1, 8), (1, 9), (1, 10), (1, 11), (1, 12), (1, 13), (1, 14), (1, 15), (1, 16), (1, 17), (1, 18), (1, 19), (0, 6), (0, 7), (0, 8), (0, 9), (0, 10), (1, 20), (0, 12), (0, 13), (0, 14), (0, 15), (0, 16), (0, 17), (0, 18), (0, 19), (0, 20), (0, 21), (0, 22), (0, 23), (1, 0), (1, 1), (1, 2), (1, 3), (5, 0), (5, 1), (5, 2), (5, 3), (5, 4), (5, 5), (5, 6), (5, 7), (5, 8), (5, 9), (3, 0), (3, 1), (3, 2), (3, 3), (3, 4), (3, 5), (3, 6), (3, 7), (3, 8), (3, 9), (3, 10), (3, 11), (4, 0), (4, 1), (4, 2)] (by rfl) (by decide +kernel)
set_option maxRecDepth 20000 in
theorem gX6_accrue_X7_accrue : GoodIn wsX6_accrue (wsV RX6 73 RX7 yX7_accrue wsX7_accrue) := goodIn_app (goodIn_of _ (by decide +kernel)) ggX6_accrue_X7_accrue
theorem dX6_accrue_0 : decode cX6_accrue 0 = .ok (.lconst 0, 1) := by decide +kernel
theorem dX6_accrue_1 : decode cX6_accrue 1 = .ok (.lstore_n 1, 1) := by decide +kernel
theorem dX6_accrue_2 : decode cX6_accrue 2 = .ok (.iconst 0, 1) := by decide +kernel
theorem dX6_accrue_3 : decode cX6_accrue 3 = .ok (.istore_n 3, 1) := by decide +kernel
theorem dX6_accrue_4 : decode cX6_accrue 4 = .ok (.iload_n 3, 1) := by decide +kernel
theorem dX6_accrue_5 : decode cX6_accrue 5 = .ok (.aload_n 0, 1) := by decide +kernel
theorem dX6_accrue_6 : decode cX6_accrue 6 = .ok (.getfield 10, 3) := by decide +kernel
theorem dX6_accrue_9 : decode cX6_accrue 9 = .ok (.invokevirtual 35, 3) := by decide +kernel
theorem dX6_accrue_12 : decode cX6_accrue 12 = .ok (.if_icmp .ge 26, 3) := by decide +kernel
theorem dX6_accrue_15 : decode cX6_accrue 15 = .ok (.lload_n 1, 1) := by decide +kernel
theorem dX6_accrue_16 : decode cX6_accrue 16 = .ok (.aload_n 0, 1) := by decide +kernel
theorem dX6_accrue_17 : decode cX6_accrue 17 = .ok (.getfield 10, 3) := by decide +kernel
theorem dX6_accrue_20 : decode cX6_accrue 20 = .ok (.iload_n 3, 1) := by decide +kernel
theorem dX6_accrue_21 : decode cX6_accrue 21 = .ok (.invokevirtual 39, 3) := by decide +kernel
theorem dX6_accrue_24 : decode cX6_accrue 24 = .ok (.checkcast 53, 3) := by decide +kernel
theorem dX6_accrue_27 : decode cX6_accrue 27 = .ok (.getfield 52, 3) := by decide +kernel
theorem dX6_accrue_30 : decode cX6_accrue 30 = .ok (.ladd, 1) := by decide +kernel
theorem dX6_accrue_31 : decode cX6_accrue 31 = .ok (.lstore_n 1, 1) := by decide +kernel
theorem dX6_accrue_32 : decode cX6_accrue 32 = .ok (.iinc 3 1, 3) := by decide +kernel
theorem dX6_accrue_35 : decode cX6_accrue 35 = .ok (.goto (-31), 3) := by decide +kernel
theorem dX6_accrue_38 : decode cX6_accrue 38 = .ok (.aload_n 0, 1) := by decide +kernel
theorem dX6_accrue_39 : decode cX6_accrue 39 = .ok (.getfield 28, 3) := by decide +kernel
theorem dX6_accrue_42 : decode cX6_accrue 42 = .ok (.lload_n 1, 1) := by decide +kernel
theorem dX6_accrue_43 : decode cX6_accrue 43 = .ok (.aload_n 0, 1) := by decide +kernel
theorem dX6_accrue_44 : decode cX6_accrue 44 = .ok (.getfield 10, 3) := by decide +kernel
theorem dX6_accrue_47 : decode cX6_accrue 47 = .ok (.invokevirtual 73, 3) := by decide +kernel
theorem dX6_accrue_50 : decode cX6_accrue 50 = .ok (.aload_n 0, 1) := by decide +kernel
theorem dX6_accrue_51 : decode cX6_accrue 51 = .ok (.getfield 32, 3) := by decide +kernel
theorem dX6_accrue_54 : decode cX6_accrue 54 = .ok (.lload_n 1, 1) := by decide +kernel
theorem dX6_accrue_55 : decode cX6_accrue 55 = .ok (.aload_n 0, 1) := by decide +kernel
theorem dX6_accrue_56 : decode cX6_accrue 56 = .ok (.getfield 10, 3) := by decide +kernel
theorem dX6_accrue_59 : decode cX6_accrue 59 = .ok (.invokevirtual 73, 3) := by decide +kernel
theorem dX6_accrue_62 : decode cX6_accrue 62 = .ok (.return_, 1) := by decide +kernel
def ch_wsX6_bookInterest : List (List Cond) := [wsX6_bookInterest_r1, wsX6_bookInterest_r2, wsX6_bookInterest_r3, wsX60, wsX70, wsJx4a65c0, wsX00]
theorem chm_wsX6_bookInterest : ∀ c ∈ ch_wsX6_bookInterest, ∀ w ∈ c, w ∈ wsX6_bookInterest := List.forall_mem_cons.mpr ⟨(fun w h => (List.mem_cons_of_mem _ (List.mem_append_left _ (List.mem_append_left _ (List.mem_append_left _ (List.mem_append_left _ (List.mem_append_left _ h))))))), List.forall_mem_cons.mpr ⟨(fun w h => (List.mem_cons_of_mem _ (List.mem_append_left _ (List.mem_append_left _ (List.mem_append_left _ (List.mem_append_left _ (List.mem_append_right _ (List.mem_append_left _ h)))))))), List.forall_mem_cons.mpr ⟨(fun w h => (List.mem_cons_of_mem _ (List.mem_append_left _ (List.mem_append_left _ (List.mem_append_left _ (List.mem_append_left _ (List.mem_append_right _ (List.mem_append_right _ h)))))))), List.forall_mem_cons.mpr ⟨(fun w h => (List.mem_cons_of_mem _ (List.mem_append_left _ (List.mem_append_left _ (List.mem_append_left _ (List.mem_append_right _ h)))))), List.forall_mem_cons.mpr ⟨(fun w h => (List.mem_cons_of_mem _ (List.mem_append_left _ (List.mem_append_left _ (List.mem_append_right _ h))))), List.forall_mem_cons.mpr ⟨(fun w h => (List.mem_cons_of_mem _ (List.mem_append_left _ (List.mem_append_right _ h)))), List.forall_mem_cons.mpr ⟨(fun w h => (List.mem_cons_of_mem _ (List.mem_append_right _ h))), fun _ h => absurd h List.not_mem_nil⟩⟩⟩⟩⟩⟩⟩
set_option maxRecDepth 100000 in
set_option maxHeartbeats 4000000 in
theorem ggX6_bookInterest_X7_bookTo : GoodIn wsX6_bookInterest wsX7_bookTo := goodIn_k ch_wsX6_bookInterest chm_wsX6_bookInterest _ [(0, 7), (0, 8), (0, 9), (0, 10), (0, 11), (0, 12), (0, 13), (0, 14), (0, 15), (0, 16), (0, 17), (0, 6), (0, 18), (0, 19), (0, 20), (0, 21), (0, 22), (0, 23), (1, 0), (1, 1), (1, 2), (1, 3), (1, 4), (1, 5), (1, 6), (1, 7), (1, 8), (1, 9), (1, 10), (1, 11), (1, 12), (1, 13), (1, 14), (1, 15), (1, 16), (1, 17), (1, 18), (1, 19), (1, 20), (1, 21), (1, 22), (1, 23), (2, 0), (2, 1), (2, 2), (2, 3), (2, 4), (2, 5), (2, 6), (4, 0), (4, 1), (4, 2), (4, 3), (4, 4), (4, 5), (4, 6), (4, 7), (4, 8), (4, 9), (5, 0), (5, 1), (5, 2), (6, 0), (6, 1), (6, 2), (6, 3), (6, 4), (6, 5), (6, 6), (6, 7), (6, 8), (6, 9), (6, 10), (6, 11)] (by rfl) (by decide +kernel)
set_option maxRecDepth 20000 in
theorem gX6_bookInterest_X7_bookTo : GoodIn wsX6_bookInterest (wsV RX6 77 RX7 yX7_bookTo wsX7_bookTo) := goodIn_app (goodIn_of _ (by decide +kernel)) ggX6_bookInterest_X7_bookTo
theorem dX6_bookInterest_0 : decode cX6_bookInterest 0 = .ok (.aload_n 0, 1) := by decide +kernel
theorem dX6_bookInterest_1 : decode cX6_bookInterest 1 = .ok (.getfield 28, 3) := by decide +kernel
theorem dX6_bookInterest_4 : decode cX6_bookInterest 4 = .ok (.aload_n 0, 1) := by decide +kernel
theorem dX6_bookInterest_5 : decode cX6_bookInterest 5 = .ok (.getfield 10, 3) := by decide +kernel
theorem dX6_bookInterest_8 : decode cX6_bookInterest 8 = .ok (.invokevirtual 77, 3) := by decide +kernel
theorem dX6_bookInterest_11 : decode cX6_bookInterest 11 = .ok (.aload_n 0, 1) := by decide +kernel
theorem dX6_bookInterest_12 : decode cX6_bookInterest 12 = .ok (.getfield 32, 3) := by decide +kernel
theorem dX6_bookInterest_15 : decode cX6_bookInterest 15 = .ok (.aload_n 0, 1) := by decide +kernel
theorem dX6_bookInterest_16 : decode cX6_bookInterest 16 = .ok (.getfield 10, 3) := by decide +kernel
theorem dX6_bookInterest_19 : decode cX6_bookInterest 19 = .ok (.invokevirtual 77, 3) := by decide +kernel
theorem dX6_bookInterest_22 : decode cX6_bookInterest 22 = .ok (.return_, 1) := by decide +kernel
set_option maxRecDepth 20000 in
theorem ggX6_keep_X7_keep : GoodIn wsX6_keep wsX7_keep := goodIn_r _ [7, 8, 9, 10, 11, 12, 13, 14, 15, 16, 17, 23, 24, 25, 26, 27, 28, 29, 30, 31, 32] (by decide +kernel) (by decide +kernel)
set_option maxRecDepth 20000 in
theorem gX6_keep_X7_keep : GoodIn wsX6_keep (wsV RX6 81 RX7 yX7_keep wsX7_keep) := goodIn_app (goodIn_of _ (by decide +kernel)) ggX6_keep_X7_keep
theorem dX6_keep_0 : decode cX6_keep 0 = .ok (.aload_n 0, 1) := by decide +kernel
theorem dX6_keep_1 : decode cX6_keep 1 = .ok (.getfield 28, 3) := by decide +kernel
theorem dX6_keep_4 : decode cX6_keep 4 = .ok (.invokevirtual 81, 3) := by decide +kernel
theorem dX6_keep_7 : decode cX6_keep 7 = .ok (.aload_n 0, 1) := by decide +kernel
theorem dX6_keep_8 : decode cX6_keep 8 = .ok (.getfield 32, 3) := by decide +kernel
theorem dX6_keep_11 : decode cX6_keep 11 = .ok (.invokevirtual 81, 3) := by decide +kernel
theorem dX6_keep_14 : decode cX6_keep 14 = .ok (.return_, 1) := by decide +kernel
set_option maxRecDepth 20000 in
theorem ggX6_goBack_X7_goBack : GoodIn wsX6_goBack wsX7_goBack := goodIn_r _ [7, 8, 9, 10, 11, 12, 13, 14, 15, 16, 17, 23, 24, 25, 26, 27, 28, 29, 30, 31, 32] (by decide +kernel) (by decide +kernel)
set_option maxRecDepth 20000 in
theorem gX6_goBack_X7_goBack : GoodIn wsX6_goBack (wsV RX6 84 RX7 yX7_goBack wsX7_goBack) := goodIn_app (goodIn_of _ (by decide +kernel)) ggX6_goBack_X7_goBack
theorem dX6_goBack_0 : decode cX6_goBack 0 = .ok (.aload_n 0, 1) := by decide +kernel
theorem dX6_goBack_1 : decode cX6_goBack 1 = .ok (.getfield 28, 3) := by decide +kernel
theorem dX6_goBack_4 : decode cX6_goBack 4 = .ok (.invokevirtual 84, 3) := by decide +kernel
theorem dX6_goBack_7 : decode cX6_goBack 7 = .ok (.aload_n 0, 1) := by decide +kernel
theorem dX6_goBack_8 : decode cX6_goBack 8 = .ok (.getfield 32, 3) := by decide +kernel
theorem dX6_goBack_11 : decode cX6_goBack 11 = .ok (.invokevirtual 84, 3) := by decide +kernel
theorem dX6_goBack_14 : decode cX6_goBack 14 = .ok (.return_, 1) := by decide +kernel
theorem dX7_init_0 : decode cX7_init 0 = .ok (.aload_n 0, 1) := by decide +kernel
theorem dX7_init_1 : decode cX7_init 1 = .ok (.invokespecial 3, 3) := by decide +kernel
theorem dX7_init_4 : decode cX7_init 4 = .ok (.aload_n 0, 1) := by decide +kernel
theorem dX7_init_5 : decode cX7_init 5 = .ok (.bipush 10, 2) := by decide +kernel
theorem dX7_init_7 : decode cX7_init 7 = .ok (.newarray .long, 2) := by decide +kernel
theorem dX7_init_9 : decode cX7_init 9 = .ok (.putfield 9, 3) := by decide +kernel
theorem dX7_init_12 : decode cX7_init 12 = .ok (.aload_n 0, 1) := by decide +kernel
theorem dX7_init_13 : decode cX7_init 13 = .ok (.bipush 10, 2) := by decide +kernel
theorem dX7_init_15 : decode cX7_init 15 = .ok (.newarray .long, 2) := by decide +kernel
theorem dX7_init_17 : decode cX7_init 17 = .ok (.putfield 15, 3) := by decide +kernel
theorem dX7_init_20 : decode cX7_init 20 = .ok (.aload_n 0, 1) := by decide +kernel
theorem dX7_init_21 : decode cX7_init 21 = .ok (.bipush 10, 2) := by decide +kernel
theorem dX7_init_23 : decode cX7_init 23 = .ok (.newarray .long, 2) := by decide +kernel
theorem dX7_init_25 : decode cX7_init 25 = .ok (.putfield 18, 3) := by decide +kernel
theorem dX7_init_28 : decode cX7_init 28 = .ok (.aload_n 0, 1) := by decide +kernel
theorem dX7_init_29 : decode cX7_init 29 = .ok (.bipush 10, 2) := by decide +kernel
theorem dX7_init_31 : decode cX7_init 31 = .ok (.newarray .long, 2) := by decide +kernel
theorem dX7_init_33 : decode cX7_init 33 = .ok (.putfield 21, 3) := by decide +kernel
theorem dX7_init_36 : decode cX7_init 36 = .ok (.aload_n 0, 1) := by decide +kernel
theorem dX7_init_37 : decode cX7_init 37 = .ok (.iload_n 1, 1) := by decide +kernel
theorem dX7_init_38 : decode cX7_init 38 = .ok (.putfield 24, 3) := by decide +kernel
theorem dX7_init_41 : decode cX7_init 41 = .ok (.aload_n 0, 1) := by decide +kernel
theorem dX7_init_42 : decode cX7_init 42 = .ok (.iload_n 2, 1) := by decide +kernel
theorem dX7_init_43 : decode cX7_init 43 = .ok (.putfield 28, 3) := by decide +kernel
theorem dX7_init_46 : decode cX7_init 46 = .ok (.return_, 1) := by decide +kernel
def ch_wsX7_accrue : List (List Cond) := [wsX7_accrue_r1, wsX7_accrue_r2, wsX70, wsX00, wsJx4a65c0]
theorem chm_wsX7_accrue : ∀ c ∈ ch_wsX7_accrue, ∀ w ∈ c, w ∈ wsX7_accrue := List.forall_mem_cons.mpr ⟨(fun w h => (List.mem_cons_of_mem _ (List.mem_append_left _ (List.mem_append_left _ (List.mem_append_left _ (List.mem_append_left _ h)))))), List.forall_mem_cons.mpr ⟨(fun w h => (List.mem_cons_of_mem _ (List.mem_append_left _ (List.mem_append_left _ (List.mem_append_left _ (List.mem_append_right _ h)))))), List.forall_mem_cons.mpr ⟨(fun w h => (List.mem_cons_of_mem _ (List.mem_append_left _ (List.mem_append_left _ (List.mem_append_right _ h))))), List.forall_mem_cons.mpr ⟨(fun w h => (List.mem_cons_of_mem _ (List.mem_append_left _ (List.mem_append_right _ h)))), List.forall_mem_cons.mpr ⟨(fun w h => (List.mem_cons_of_mem _ (List.mem_append_right _ h))), fun _ h => absurd h List.not_mem_nil⟩⟩⟩⟩⟩
set_option maxRecDepth 100000 in
set_option maxHeartbeats 4000000 in
theorem ggX7_accrue_Jx4a65c_size_8abf5 : GoodIn wsX7_accrue wsJx4a65c_size_8abf5 := goodIn_k ch_wsX7_accrue chm_wsX7_accrue _ [(0, 14), (0, 15), (4, 0), (4, 1), (4, 2)] (by rfl) (by decide +kernel)
set_option maxRecDepth 20000 in
theorem gX7_accrue_Jx4a65c_size_8abf5 : GoodIn wsX7_accrue (wsV RX7 35 RJx4a65c yJx4a65c_size_8abf5 wsJx4a65c_size_8abf5) := goodIn_app (goodIn_of _ (by decide +kernel)) ggX7_accrue_Jx4a65c_size_8abf5
set_option maxRecDepth 100000 in
set_option maxHeartbeats 4000000 in
theorem ggX7_accrue_Jx4a65c_get_915e3 : GoodIn wsX7_accrue wsJx4a65c_get_915e3 := goodIn_k ch_wsX7_accrue chm_wsX7_accrue _ [(0, 19), (0, 15), (0, 20), (0, 21), (0, 22), (0, 23), (1, 0), (1, 1), (1, 2), (1, 3), (1, 4), (1, 5), (1, 6), (0, 13), (1, 7), (1, 8), (4, 0), (4, 1), (4, 2)] (by rfl) (by decide +kernel)
set_option maxRecDepth 20000 in
theorem gX7_accrue_Jx4a65c_get_915e3 : GoodIn wsX7_accrue (wsV RX7 41 RJx4a65c yJx4a65c_get_915e3 wsJx4a65c_get_915e3) := goodIn_app (goodIn_of _ (by decide +kernel)) ggX7_accrue_Jx4a65c_get_915e3
theorem dX7_accrue_0 : decode cX7_accrue 0 = .ok (.aload_n 0, 1) := by decide +kernel
theorem dX7_accrue_1 : decode cX7_accrue 1 = .ok (.getfield 28, 3) := by decide +kernel
theorem dX7_accrue_4 : decode cX7_accrue 4 = .ok (.i2l, 1) := by decide +kernel
theorem dX7_accrue_5 : decode cX7_accrue 5 = .ok (.lload_n 1, 1) := by decide +kernel
theorem dX7_accrue_6 : decode cX7_accrue 6 = .ok (.lmul, 1) := by decide +kernel
theorem dX7_accrue_7 : decode cX7_accrue 7 = .ok (.lstore 4, 2) := by decide +kernel
theorem dX7_accrue_9 : decode cX7_accrue 9 = .ok (.lload 4, 2) := by decide +kernel
theorem dX7_accrue_11 : decode cX7_accrue 11 = .ok (.lconst 0, 1) := by decide +kernel
theorem dX7_accrue_12 : decode cX7_accrue 12 = .ok (.lcmp, 1) := by decide +kernel
theorem dX7_accrue_13 : decode cX7_accrue 13 = .ok (.ifCond .gt 4, 3) := by decide +kernel
theorem dX7_accrue_16 : decode cX7_accrue 16 = .ok (.return_, 1) := by decide +kernel
theorem dX7_accrue_17 : decode cX7_accrue 17 = .ok (.aload_n 0, 1) := by decide +kernel
theorem dX7_accrue_18 : decode cX7_accrue 18 = .ok (.dup, 1) := by decide +kernel
theorem dX7_accrue_19 : decode cX7_accrue 19 = .ok (.getfield 31, 3) := by decide +kernel
theorem dX7_accrue_22 : decode cX7_accrue 22 = .ok (.lload 4, 2) := by decide +kernel
theorem dX7_accrue_24 : decode cX7_accrue 24 = .ok (.aload_n 0, 1) := by decide +kernel
theorem dX7_accrue_25 : decode cX7_accrue 25 = .ok (.getfield 24, 3) := by decide +kernel
theorem dX7_accrue_28 : decode cX7_accrue 28 = .ok (.i2l, 1) := by decide +kernel
theorem dX7_accrue_29 : decode cX7_accrue 29 = .ok (.lmul, 1) := by decide +kernel
theorem dX7_accrue_30 : decode cX7_accrue 30 = .ok (.ladd, 1) := by decide +kernel
theorem dX7_accrue_31 : decode cX7_accrue 31 = .ok (.putfield 31, 3) := by decide +kernel
theorem dX7_accrue_34 : decode cX7_accrue 34 = .ok (.iconst 0, 1) := by decide +kernel
theorem dX7_accrue_35 : decode cX7_accrue 35 = .ok (.istore 6, 2) := by decide +kernel
theorem dX7_accrue_37 : decode cX7_accrue 37 = .ok (.iload 6, 2) := by decide +kernel
theorem dX7_accrue_39 : decode cX7_accrue 39 = .ok (.aload_n 3, 1) := by decide +kernel
theorem dX7_accrue_40 : decode cX7_accrue 40 = .ok (.invokevirtual 35, 3) := by decide +kernel
theorem dX7_accrue_43 : decode cX7_accrue 43 = .ok (.if_icmp .ge 51, 3) := by decide +kernel
theorem dX7_accrue_46 : decode cX7_accrue 46 = .ok (.iload 6, 2) := by decide +kernel
theorem dX7_accrue_48 : decode cX7_accrue 48 = .ok (.aload_n 0, 1) := by decide +kernel
theorem dX7_accrue_49 : decode cX7_accrue 49 = .ok (.getfield 9, 3) := by decide +kernel
theorem dX7_accrue_52 : decode cX7_accrue 52 = .ok (.arraylength, 1) := by decide +kernel
theorem dX7_accrue_53 : decode cX7_accrue 53 = .ok (.if_icmp .ge 41, 3) := by decide +kernel
theorem dX7_accrue_56 : decode cX7_accrue 56 = .ok (.aload_n 0, 1) := by decide +kernel
theorem dX7_accrue_57 : decode cX7_accrue 57 = .ok (.getfield 9, 3) := by decide +kernel
theorem dX7_accrue_60 : decode cX7_accrue 60 = .ok (.iload 6, 2) := by decide +kernel
theorem dX7_accrue_62 : decode cX7_accrue 62 = .ok (.dup2, 1) := by decide +kernel
theorem dX7_accrue_63 : decode cX7_accrue 63 = .ok (.laload, 1) := by decide +kernel
theorem dX7_accrue_64 : decode cX7_accrue 64 = .ok (.aload_n 0, 1) := by decide +kernel
theorem dX7_accrue_65 : decode cX7_accrue 65 = .ok (.getfield 28, 3) := by decide +kernel
theorem dX7_accrue_68 : decode cX7_accrue 68 = .ok (.i2l, 1) := by decide +kernel
theorem dX7_accrue_69 : decode cX7_accrue 69 = .ok (.aload_n 3, 1) := by decide +kernel
theorem dX7_accrue_70 : decode cX7_accrue 70 = .ok (.iload 6, 2) := by decide +kernel
theorem dX7_accrue_72 : decode cX7_accrue 72 = .ok (.invokevirtual 41, 3) := by decide +kernel
theorem dX7_accrue_75 : decode cX7_accrue 75 = .ok (.checkcast 45, 3) := by decide +kernel
theorem dX7_accrue_78 : decode cX7_accrue 78 = .ok (.getfield 47, 3) := by decide +kernel
theorem dX7_accrue_81 : decode cX7_accrue 81 = .ok (.lmul, 1) := by decide +kernel
theorem dX7_accrue_82 : decode cX7_accrue 82 = .ok (.lconst 0, 1) := by decide +kernel
theorem dX7_accrue_83 : decode cX7_accrue 83 = .ok (.invokestatic 50, 3) := by decide +kernel
theorem dX7_accrue_86 : decode cX7_accrue 86 = .ok (.ladd, 1) := by decide +kernel
theorem dX7_accrue_87 : decode cX7_accrue 87 = .ok (.lastore, 1) := by decide +kernel
theorem dX7_accrue_88 : decode cX7_accrue 88 = .ok (.iinc 6 1, 3) := by decide +kernel
theorem dX7_accrue_91 : decode cX7_accrue 91 = .ok (.goto (-54), 3) := by decide +kernel
theorem dX7_accrue_94 : decode cX7_accrue 94 = .ok (.return_, 1) := by decide +kernel
def ch_wsX7_bookTo : List (List Cond) := [wsX7_bookTo_r1, wsX7_bookTo_r2, wsX70, wsJx4a65c0, wsX00]
theorem chm_wsX7_bookTo : ∀ c ∈ ch_wsX7_bookTo, ∀ w ∈ c, w ∈ wsX7_bookTo := List.forall_mem_cons.mpr ⟨(fun w h => (List.mem_cons_of_mem _ (List.mem_append_left _ (List.mem_append_left _ (List.mem_append_left _ (List.mem_append_left _ h)))))), List.forall_mem_cons.mpr ⟨(fun w h => (List.mem_cons_of_mem _ (List.mem_append_left _ (List.mem_append_left _ (List.mem_append_left _ (List.mem_append_right _ h)))))), List.forall_mem_cons.mpr ⟨(fun w h => (List.mem_cons_of_mem _ (List.mem_append_left _ (List.mem_append_left _ (List.mem_append_right _ h))))), List.forall_mem_cons.mpr ⟨(fun w h => (List.mem_cons_of_mem _ (List.mem_append_left _ (List.mem_append_right _ h)))), List.forall_mem_cons.mpr ⟨(fun w h => (List.mem_cons_of_mem _ (List.mem_append_right _ h))), fun _ h => absurd h List.not_mem_nil⟩⟩⟩⟩⟩
set_option maxRecDepth 100000 in
set_option maxHeartbeats 4000000 in
theorem ggX7_bookTo_X7_split : GoodIn wsX7_bookTo wsX7_split := goodIn_k ch_wsX7_bookTo chm_wsX7_bookTo _ [(0, 11), (0, 3), (0, 6), (0, 12), (0, 13), (0, 14), (0, 15), (0, 10), (0, 16), (0, 17), (2, 0), (2, 1), (2, 2), (2, 3), (2, 4), (2, 5), (2, 6), (2, 7), (2, 8), (2, 9)] (by rfl) (by decide +kernel)
set_option maxRecDepth 20000 in
theorem gX7_bookTo_X7_split : GoodIn wsX7_bookTo (wsV RX7 61 RX7 yX7_split wsX7_split) := goodIn_app (goodIn_of _ (by decide +kernel)) ggX7_bookTo_X7_split
set_option maxRecDepth 100000 in
set_option maxHeartbeats 4000000 in
theorem ggX7_bookTo_Jx4a65c_size_8abf5 : GoodIn wsX7_bookTo wsJx4a65c_size_8abf5 := goodIn_k ch_wsX7_bookTo chm_wsX7_bookTo _ [(0, 22), (0, 23), (3, 0), (3, 1), (3, 2)] (by rfl) (by decide +kernel)
set_option maxRecDepth 20000 in
theorem gX7_bookTo_Jx4a65c_size_8abf5 : GoodIn wsX7_bookTo (wsV RX7 35 RJx4a65c yJx4a65c_size_8abf5 wsJx4a65c_size_8abf5) := goodIn_app (goodIn_of _ (by decide +kernel)) ggX7_bookTo_Jx4a65c_size_8abf5
set_option maxRecDepth 100000 in
set_option maxHeartbeats 4000000 in
theorem ggX7_bookTo_Jx4a65c_get_915e3 : GoodIn wsX7_bookTo wsJx4a65c_get_915e3 := goodIn_k ch_wsX7_bookTo chm_wsX7_bookTo _ [(1, 3), (0, 23), (1, 4), (1, 5), (1, 6), (1, 7), (1, 8), (1, 9), (1, 10), (1, 11), (1, 12), (1, 13), (1, 14), (0, 21), (1, 15), (1, 16), (3, 0), (3, 1), (3, 2)] (by rfl) (by decide +kernel)
set_option maxRecDepth 20000 in
theorem gX7_bookTo_Jx4a65c_get_915e3 : GoodIn wsX7_bookTo (wsV RX7 41 RJx4a65c yJx4a65c_get_915e3 wsJx4a65c_get_915e3) := goodIn_app (goodIn_of _ (by decide +kernel)) ggX7_bookTo_Jx4a65c_get_915e3
set_option maxRecDepth 100000 in
set_option maxHeartbeats 4000000 in
theorem ggX7_bookTo_X0_addInterest : GoodIn wsX7_bookTo wsX0_addInterest := goodIn_k ch_wsX7_bookTo chm_wsX7_bookTo _ [(1, 21), (1, 22), (1, 23), (4, 0), (4, 1), (4, 2), (4, 3), (4, 4), (4, 5), (4, 6), (4, 7), (4, 8), (4, 9), (4, 10), (4, 11)] (by rfl) (by decide +kernel)
set_option maxRecDepth 20000 in
theorem gX7_bookTo_X0_addInterest : GoodIn wsX7_bookTo (wsV RX7 65 RX0 yX0_addInterest wsX0_addInterest) := goodIn_app (goodIn_of _ (by decide +kernel)) ggX7_bookTo_X0_addInterest
theorem dX7_bookTo_0 : decode cX7_bookTo 0 = .ok (.aload_n 0, 1) := by decide +kernel
theorem dX7_bookTo_1 : decode cX7_bookTo 1 = .ok (.getfield 31, 3) := by decide +kernel
theorem dX7_bookTo_4 : decode cX7_bookTo 4 = .ok (.ldc2_w 56, 3) := by decide +kernel
theorem dX7_bookTo_7 : decode cX7_bookTo 7 = .ok (.ldiv, 1) := by decide +kernel
theorem dX7_bookTo_8 : decode cX7_bookTo 8 = .ok (.lstore_n 2, 1) := by decide +kernel
theorem dX7_bookTo_9 : decode cX7_bookTo 9 = .ok (.aload_n 0, 1) := by decide +kernel
theorem dX7_bookTo_10 : decode cX7_bookTo 10 = .ok (.dup, 1) := by decide +kernel
theorem dX7_bookTo_11 : decode cX7_bookTo 11 = .ok (.getfield 31, 3) := by decide +kernel
theorem dX7_bookTo_14 : decode cX7_bookTo 14 = .ok (.lload_n 2, 1) := by decide +kernel
theorem dX7_bookTo_15 : decode cX7_bookTo 15 = .ok (.ldc2_w 56, 3) := by decide +kernel
theorem dX7_bookTo_18 : decode cX7_bookTo 18 = .ok (.lmul, 1) := by decide +kernel
theorem dX7_bookTo_19 : decode cX7_bookTo 19 = .ok (.lsub, 1) := by decide +kernel
theorem dX7_bookTo_20 : decode cX7_bookTo 20 = .ok (.putfield 31, 3) := by decide +kernel
theorem dX7_bookTo_23 : decode cX7_bookTo 23 = .ok (.aload_n 0, 1) := by decide +kernel
theorem dX7_bookTo_24 : decode cX7_bookTo 24 = .ok (.dup, 1) := by decide +kernel
theorem dX7_bookTo_25 : decode cX7_bookTo 25 = .ok (.getfield 58, 3) := by decide +kernel
theorem dX7_bookTo_28 : decode cX7_bookTo 28 = .ok (.lload_n 2, 1) := by decide +kernel
theorem dX7_bookTo_29 : decode cX7_bookTo 29 = .ok (.ladd, 1) := by decide +kernel
theorem dX7_bookTo_30 : decode cX7_bookTo 30 = .ok (.putfield 58, 3) := by decide +kernel
theorem dX7_bookTo_33 : decode cX7_bookTo 33 = .ok (.aload_n 0, 1) := by decide +kernel
theorem dX7_bookTo_34 : decode cX7_bookTo 34 = .ok (.lload_n 2, 1) := by decide +kernel
theorem dX7_bookTo_35 : decode cX7_bookTo 35 = .ok (.invokevirtual 61, 3) := by decide +kernel
theorem dX7_bookTo_38 : decode cX7_bookTo 38 = .ok (.iconst 0, 1) := by decide +kernel
theorem dX7_bookTo_39 : decode cX7_bookTo 39 = .ok (.istore 4, 2) := by decide +kernel
theorem dX7_bookTo_41 : decode cX7_bookTo 41 = .ok (.iload 4, 2) := by decide +kernel
theorem dX7_bookTo_43 : decode cX7_bookTo 43 = .ok (.aload_n 0, 1) := by decide +kernel
theorem dX7_bookTo_44 : decode cX7_bookTo 44 = .ok (.getfield 9, 3) := by decide +kernel
theorem dX7_bookTo_47 : decode cX7_bookTo 47 = .ok (.arraylength, 1) := by decide +kernel
theorem dX7_bookTo_48 : decode cX7_bookTo 48 = .ok (.if_icmp .ge 51, 3) := by decide +kernel
theorem dX7_bookTo_51 : decode cX7_bookTo 51 = .ok (.iload 4, 2) := by decide +kernel
theorem dX7_bookTo_53 : decode cX7_bookTo 53 = .ok (.aload_n 1, 1) := by decide +kernel
theorem dX7_bookTo_54 : decode cX7_bookTo 54 = .ok (.invokevirtual 35, 3) := by decide +kernel
theorem dX7_bookTo_57 : decode cX7_bookTo 57 = .ok (.if_icmp .ge 28, 3) := by decide +kernel
theorem dX7_bookTo_60 : decode cX7_bookTo 60 = .ok (.aload_n 1, 1) := by decide +kernel
theorem dX7_bookTo_61 : decode cX7_bookTo 61 = .ok (.iload 4, 2) := by decide +kernel
theorem dX7_bookTo_63 : decode cX7_bookTo 63 = .ok (.invokevirtual 41, 3) := by decide +kernel
theorem dX7_bookTo_66 : decode cX7_bookTo 66 = .ok (.checkcast 45, 3) := by decide +kernel
theorem dX7_bookTo_69 : decode cX7_bookTo 69 = .ok (.aload_n 0, 1) := by decide +kernel
theorem dX7_bookTo_70 : decode cX7_bookTo 70 = .ok (.getfield 28, 3) := by decide +kernel
theorem dX7_bookTo_73 : decode cX7_bookTo 73 = .ok (.i2l, 1) := by decide +kernel
theorem dX7_bookTo_74 : decode cX7_bookTo 74 = .ok (.aload_n 0, 1) := by decide +kernel
theorem dX7_bookTo_75 : decode cX7_bookTo 75 = .ok (.getfield 15, 3) := by decide +kernel
theorem dX7_bookTo_78 : decode cX7_bookTo 78 = .ok (.iload 4, 2) := by decide +kernel
theorem dX7_bookTo_80 : decode cX7_bookTo 80 = .ok (.laload, 1) := by decide +kernel
theorem dX7_bookTo_81 : decode cX7_bookTo 81 = .ok (.lmul, 1) := by decide +kernel
theorem dX7_bookTo_82 : decode cX7_bookTo 82 = .ok (.invokevirtual 65, 3) := by decide +kernel
theorem dX7_bookTo_85 : decode cX7_bookTo 85 = .ok (.aload_n 0, 1) := by decide +kernel
theorem dX7_bookTo_86 : decode cX7_bookTo 86 = .ok (.getfield 9, 3) := by decide +kernel
theorem dX7_bookTo_89 : decode cX7_bookTo 89 = .ok (.iload 4, 2) := by decide +kernel
theorem dX7_bookTo_91 : decode cX7_bookTo 91 = .ok (.lconst 0, 1) := by decide +kernel
theorem dX7_bookTo_92 : decode cX7_bookTo 92 = .ok (.lastore, 1) := by decide +kernel
theorem dX7_bookTo_93 : decode cX7_bookTo 93 = .ok (.iinc 4 1, 3) := by decide +kernel
theorem dX7_bookTo_96 : decode cX7_bookTo 96 = .ok (.goto (-55), 3) := by decide +kernel
theorem dX7_bookTo_99 : decode cX7_bookTo 99 = .ok (.return_, 1) := by decide +kernel
set_option maxRecDepth 20000 in
theorem ggX7_split_X7_giveCents : GoodIn wsX7_split wsX7_giveCents := goodIn_r _ [8, 2, 3, 9, 10, 11, 12, 13, 14, 15, 16, 17, 18, 19] (by decide +kernel) (by decide +kernel)
set_option maxRecDepth 20000 in
theorem gX7_split_X7_giveCents : GoodIn wsX7_split (wsV RX7 68 RX7 yX7_giveCents wsX7_giveCents) := goodIn_app (goodIn_of _ (by decide +kernel)) ggX7_split_X7_giveCents
theorem dX7_split_0 : decode cX7_split 0 = .ok (.lconst 0, 1) := by decide +kernel
theorem dX7_split_1 : decode cX7_split 1 = .ok (.lstore_n 3, 1) := by decide +kernel
theorem dX7_split_2 : decode cX7_split 2 = .ok (.iconst 0, 1) := by decide +kernel
theorem dX7_split_3 : decode cX7_split 3 = .ok (.istore 5, 2) := by decide +kernel
theorem dX7_split_5 : decode cX7_split 5 = .ok (.iload 5, 2) := by decide +kernel
theorem dX7_split_7 : decode cX7_split 7 = .ok (.aload_n 0, 1) := by decide +kernel
theorem dX7_split_8 : decode cX7_split 8 = .ok (.getfield 9, 3) := by decide +kernel
theorem dX7_split_11 : decode cX7_split 11 = .ok (.arraylength, 1) := by decide +kernel
theorem dX7_split_12 : decode cX7_split 12 = .ok (.if_icmp .ge 27, 3) := by decide +kernel
theorem dX7_split_15 : decode cX7_split 15 = .ok (.lload_n 3, 1) := by decide +kernel
theorem dX7_split_16 : decode cX7_split 16 = .ok (.aload_n 0, 1) := by decide +kernel
theorem dX7_split_17 : decode cX7_split 17 = .ok (.getfield 9, 3) := by decide +kernel
theorem dX7_split_20 : decode cX7_split 20 = .ok (.iload 5, 2) := by decide +kernel
theorem dX7_split_22 : decode cX7_split 22 = .ok (.laload, 1) := by decide +kernel
theorem dX7_split_23 : decode cX7_split 23 = .ok (.ladd, 1) := by decide +kernel
theorem dX7_split_24 : decode cX7_split 24 = .ok (.lstore_n 3, 1) := by decide +kernel
theorem dX7_split_25 : decode cX7_split 25 = .ok (.aload_n 0, 1) := by decide +kernel
theorem dX7_split_26 : decode cX7_split 26 = .ok (.getfield 15, 3) := by decide +kernel
theorem dX7_split_29 : decode cX7_split 29 = .ok (.iload 5, 2) := by decide +kernel
theorem dX7_split_31 : decode cX7_split 31 = .ok (.lconst 0, 1) := by decide +kernel
theorem dX7_split_32 : decode cX7_split 32 = .ok (.lastore, 1) := by decide +kernel
theorem dX7_split_33 : decode cX7_split 33 = .ok (.iinc 5 1, 3) := by decide +kernel
theorem dX7_split_36 : decode cX7_split 36 = .ok (.goto (-31), 3) := by decide +kernel
theorem dX7_split_39 : decode cX7_split 39 = .ok (.lload_n 3, 1) := by decide +kernel
theorem dX7_split_40 : decode cX7_split 40 = .ok (.lconst 0, 1) := by decide +kernel
theorem dX7_split_41 : decode cX7_split 41 = .ok (.lcmp, 1) := by decide +kernel
theorem dX7_split_42 : decode cX7_split 42 = .ok (.ifCond .gt 4, 3) := by decide +kernel
theorem dX7_split_45 : decode cX7_split 45 = .ok (.return_, 1) := by decide +kernel
theorem dX7_split_46 : decode cX7_split 46 = .ok (.lload_n 1, 1) := by decide +kernel
theorem dX7_split_47 : decode cX7_split 47 = .ok (.lstore 5, 2) := by decide +kernel
theorem dX7_split_49 : decode cX7_split 49 = .ok (.iconst 0, 1) := by decide +kernel
theorem dX7_split_50 : decode cX7_split 50 = .ok (.istore 7, 2) := by decide +kernel
theorem dX7_split_52 : decode cX7_split 52 = .ok (.iload 7, 2) := by decide +kernel
theorem dX7_split_54 : decode cX7_split 54 = .ok (.aload_n 0, 1) := by decide +kernel
theorem dX7_split_55 : decode cX7_split 55 = .ok (.getfield 9, 3) := by decide +kernel
theorem dX7_split_58 : decode cX7_split 58 = .ok (.arraylength, 1) := by decide +kernel
theorem dX7_split_59 : decode cX7_split 59 = .ok (.if_icmp .ge 54, 3) := by decide +kernel
theorem dX7_split_62 : decode cX7_split 62 = .ok (.lload_n 1, 1) := by decide +kernel
theorem dX7_split_63 : decode cX7_split 63 = .ok (.aload_n 0, 1) := by decide +kernel
theorem dX7_split_64 : decode cX7_split 64 = .ok (.getfield 9, 3) := by decide +kernel
theorem dX7_split_67 : decode cX7_split 67 = .ok (.iload 7, 2) := by decide +kernel
theorem dX7_split_69 : decode cX7_split 69 = .ok (.laload, 1) := by decide +kernel
theorem dX7_split_70 : decode cX7_split 70 = .ok (.lmul, 1) := by decide +kernel
theorem dX7_split_71 : decode cX7_split 71 = .ok (.lstore 8, 2) := by decide +kernel
theorem dX7_split_73 : decode cX7_split 73 = .ok (.aload_n 0, 1) := by decide +kernel
theorem dX7_split_74 : decode cX7_split 74 = .ok (.getfield 15, 3) := by decide +kernel
theorem dX7_split_77 : decode cX7_split 77 = .ok (.iload 7, 2) := by decide +kernel
theorem dX7_split_79 : decode cX7_split 79 = .ok (.lload 8, 2) := by decide +kernel
theorem dX7_split_81 : decode cX7_split 81 = .ok (.lload_n 3, 1) := by decide +kernel
theorem dX7_split_82 : decode cX7_split 82 = .ok (.ldiv, 1) := by decide +kernel
theorem dX7_split_83 : decode cX7_split 83 = .ok (.lastore, 1) := by decide +kernel
theorem dX7_split_84 : decode cX7_split 84 = .ok (.aload_n 0, 1) := by decide +kernel
theorem dX7_split_85 : decode cX7_split 85 = .ok (.getfield 18, 3) := by decide +kernel
theorem dX7_split_88 : decode cX7_split 88 = .ok (.iload 7, 2) := by decide +kernel
theorem dX7_split_90 : decode cX7_split 90 = .ok (.lload 8, 2) := by decide +kernel
theorem dX7_split_92 : decode cX7_split 92 = .ok (.lload_n 3, 1) := by decide +kernel
theorem dX7_split_93 : decode cX7_split 93 = .ok (.lrem, 1) := by decide +kernel
theorem dX7_split_94 : decode cX7_split 94 = .ok (.lastore, 1) := by decide +kernel
theorem dX7_split_95 : decode cX7_split 95 = .ok (.lload 5, 2) := by decide +kernel
theorem dX7_split_97 : decode cX7_split 97 = .ok (.aload_n 0, 1) := by decide +kernel
theorem dX7_split_98 : decode cX7_split 98 = .ok (.getfield 15, 3) := by decide +kernel
theorem dX7_split_101 : decode cX7_split 101 = .ok (.iload 7, 2) := by decide +kernel
theorem dX7_split_103 : decode cX7_split 103 = .ok (.laload, 1) := by decide +kernel
theorem dX7_split_104 : decode cX7_split 104 = .ok (.lsub, 1) := by decide +kernel
theorem dX7_split_105 : decode cX7_split 105 = .ok (.lstore 5, 2) := by decide +kernel
theorem dX7_split_107 : decode cX7_split 107 = .ok (.iinc 7 1, 3) := by decide +kernel
theorem dX7_split_110 : decode cX7_split 110 = .ok (.goto (-58), 3) := by decide +kernel
theorem dX7_split_113 : decode cX7_split 113 = .ok (.aload_n 0, 1) := by decide +kernel
theorem dX7_split_114 : decode cX7_split 114 = .ok (.lload 5, 2) := by decide +kernel
theorem dX7_split_116 : decode cX7_split 116 = .ok (.invokevirtual 68, 3) := by decide +kernel
theorem dX7_split_119 : decode cX7_split 119 = .ok (.return_, 1) := by decide +kernel
theorem dX7_giveCents_0 : decode cX7_giveCents 0 = .ok (.iconst 0, 1) := by decide +kernel
theorem dX7_giveCents_1 : decode cX7_giveCents 1 = .ok (.istore_n 3, 1) := by decide +kernel
theorem dX7_giveCents_2 : decode cX7_giveCents 2 = .ok (.iload_n 3, 1) := by decide +kernel
theorem dX7_giveCents_3 : decode cX7_giveCents 3 = .ok (.i2l, 1) := by decide +kernel
theorem dX7_giveCents_4 : decode cX7_giveCents 4 = .ok (.lload_n 1, 1) := by decide +kernel
theorem dX7_giveCents_5 : decode cX7_giveCents 5 = .ok (.lcmp, 1) := by decide +kernel
theorem dX7_giveCents_6 : decode cX7_giveCents 6 = .ok (.ifCond .ge 83, 3) := by decide +kernel
theorem dX7_giveCents_9 : decode cX7_giveCents 9 = .ok (.iload_n 3, 1) := by decide +kernel
theorem dX7_giveCents_10 : decode cX7_giveCents 10 = .ok (.aload_n 0, 1) := by decide +kernel
theorem dX7_giveCents_11 : decode cX7_giveCents 11 = .ok (.getfield 15, 3) := by decide +kernel
theorem dX7_giveCents_14 : decode cX7_giveCents 14 = .ok (.arraylength, 1) := by decide +kernel
theorem dX7_giveCents_15 : decode cX7_giveCents 15 = .ok (.if_icmp .ge 74, 3) := by decide +kernel
theorem dX7_giveCents_18 : decode cX7_giveCents 18 = .ok (.iconst 0, 1) := by decide +kernel
theorem dX7_giveCents_19 : decode cX7_giveCents 19 = .ok (.istore 4, 2) := by decide +kernel
theorem dX7_giveCents_21 : decode cX7_giveCents 21 = .ok (.iconst 1, 1) := by decide +kernel
theorem dX7_giveCents_22 : decode cX7_giveCents 22 = .ok (.istore 5, 2) := by decide +kernel
theorem dX7_giveCents_24 : decode cX7_giveCents 24 = .ok (.iload 5, 2) := by decide +kernel
theorem dX7_giveCents_26 : decode cX7_giveCents 26 = .ok (.aload_n 0, 1) := by decide +kernel
theorem dX7_giveCents_27 : decode cX7_giveCents 27 = .ok (.getfield 18, 3) := by decide +kernel
theorem dX7_giveCents_30 : decode cX7_giveCents 30 = .ok (.arraylength, 1) := by decide +kernel
theorem dX7_giveCents_31 : decode cX7_giveCents 31 = .ok (.if_icmp .ge 31, 3) := by decide +kernel
theorem dX7_giveCents_34 : decode cX7_giveCents 34 = .ok (.aload_n 0, 1) := by decide +kernel
theorem dX7_giveCents_35 : decode cX7_giveCents 35 = .ok (.getfield 18, 3) := by decide +kernel
theorem dX7_giveCents_38 : decode cX7_giveCents 38 = .ok (.iload 5, 2) := by decide +kernel
theorem dX7_giveCents_40 : decode cX7_giveCents 40 = .ok (.laload, 1) := by decide +kernel
theorem dX7_giveCents_41 : decode cX7_giveCents 41 = .ok (.aload_n 0, 1) := by decide +kernel
theorem dX7_giveCents_42 : decode cX7_giveCents 42 = .ok (.getfield 18, 3) := by decide +kernel
theorem dX7_giveCents_45 : decode cX7_giveCents 45 = .ok (.iload 4, 2) := by decide +kernel
theorem dX7_giveCents_47 : decode cX7_giveCents 47 = .ok (.laload, 1) := by decide +kernel
theorem dX7_giveCents_48 : decode cX7_giveCents 48 = .ok (.lcmp, 1) := by decide +kernel
theorem dX7_giveCents_49 : decode cX7_giveCents 49 = .ok (.ifCond .le 7, 3) := by decide +kernel
theorem dX7_giveCents_52 : decode cX7_giveCents 52 = .ok (.iload 5, 2) := by decide +kernel
theorem dX7_giveCents_54 : decode cX7_giveCents 54 = .ok (.istore 4, 2) := by decide +kernel
theorem dX7_giveCents_56 : decode cX7_giveCents 56 = .ok (.iinc 5 1, 3) := by decide +kernel
theorem dX7_giveCents_59 : decode cX7_giveCents 59 = .ok (.goto (-35), 3) := by decide +kernel
theorem dX7_giveCents_62 : decode cX7_giveCents 62 = .ok (.aload_n 0, 1) := by decide +kernel
theorem dX7_giveCents_63 : decode cX7_giveCents 63 = .ok (.getfield 15, 3) := by decide +kernel
theorem dX7_giveCents_66 : decode cX7_giveCents 66 = .ok (.iload 4, 2) := by decide +kernel
theorem dX7_giveCents_68 : decode cX7_giveCents 68 = .ok (.dup2, 1) := by decide +kernel
theorem dX7_giveCents_69 : decode cX7_giveCents 69 = .ok (.laload, 1) := by decide +kernel
theorem dX7_giveCents_70 : decode cX7_giveCents 70 = .ok (.lconst 1, 1) := by decide +kernel
theorem dX7_giveCents_71 : decode cX7_giveCents 71 = .ok (.ladd, 1) := by decide +kernel
theorem dX7_giveCents_72 : decode cX7_giveCents 72 = .ok (.lastore, 1) := by decide +kernel
theorem dX7_giveCents_73 : decode cX7_giveCents 73 = .ok (.aload_n 0, 1) := by decide +kernel
theorem dX7_giveCents_74 : decode cX7_giveCents 74 = .ok (.getfield 18, 3) := by decide +kernel
theorem dX7_giveCents_77 : decode cX7_giveCents 77 = .ok (.iload 4, 2) := by decide +kernel
theorem dX7_giveCents_79 : decode cX7_giveCents 79 = .ok (.ldc2_w 71, 3) := by decide +kernel
theorem dX7_giveCents_82 : decode cX7_giveCents 82 = .ok (.lastore, 1) := by decide +kernel
theorem dX7_giveCents_83 : decode cX7_giveCents 83 = .ok (.iinc 3 1, 3) := by decide +kernel
theorem dX7_giveCents_86 : decode cX7_giveCents 86 = .ok (.goto (-84), 3) := by decide +kernel
theorem dX7_giveCents_89 : decode cX7_giveCents 89 = .ok (.return_, 1) := by decide +kernel
theorem dX7_keep_0 : decode cX7_keep 0 = .ok (.aload_n 0, 1) := by decide +kernel
theorem dX7_keep_1 : decode cX7_keep 1 = .ok (.aload_n 0, 1) := by decide +kernel
theorem dX7_keep_2 : decode cX7_keep 2 = .ok (.getfield 31, 3) := by decide +kernel
theorem dX7_keep_5 : decode cX7_keep 5 = .ok (.putfield 73, 3) := by decide +kernel
theorem dX7_keep_8 : decode cX7_keep 8 = .ok (.aload_n 0, 1) := by decide +kernel
theorem dX7_keep_9 : decode cX7_keep 9 = .ok (.aload_n 0, 1) := by decide +kernel
theorem dX7_keep_10 : decode cX7_keep 10 = .ok (.getfield 58, 3) := by decide +kernel
theorem dX7_keep_13 : decode cX7_keep 13 = .ok (.putfield 76, 3) := by decide +kernel
theorem dX7_keep_16 : decode cX7_keep 16 = .ok (.aload_n 0, 1) := by decide +kernel
theorem dX7_keep_17 : decode cX7_keep 17 = .ok (.getfield 9, 3) := by decide +kernel
theorem dX7_keep_20 : decode cX7_keep 20 = .ok (.iconst 0, 1) := by decide +kernel
theorem dX7_keep_21 : decode cX7_keep 21 = .ok (.aload_n 0, 1) := by decide +kernel
theorem dX7_keep_22 : decode cX7_keep 22 = .ok (.getfield 21, 3) := by decide +kernel
theorem dX7_keep_25 : decode cX7_keep 25 = .ok (.iconst 0, 1) := by decide +kernel
theorem dX7_keep_26 : decode cX7_keep 26 = .ok (.bipush 10, 2) := by decide +kernel
theorem dX7_keep_28 : decode cX7_keep 28 = .ok (.invokestatic 79, 3) := by decide +kernel
theorem dX7_keep_31 : decode cX7_keep 31 = .ok (.return_, 1) := by decide +kernel
theorem dX7_goBack_0 : decode cX7_goBack 0 = .ok (.aload_n 0, 1) := by decide +kernel
theorem dX7_goBack_1 : decode cX7_goBack 1 = .ok (.aload_n 0, 1) := by decide +kernel
theorem dX7_goBack_2 : decode cX7_goBack 2 = .ok (.getfield 73, 3) := by decide +kernel
theorem dX7_goBack_5 : decode cX7_goBack 5 = .ok (.putfield 31, 3) := by decide +kernel
theorem dX7_goBack_8 : decode cX7_goBack 8 = .ok (.aload_n 0, 1) := by decide +kernel
theorem dX7_goBack_9 : decode cX7_goBack 9 = .ok (.aload_n 0, 1) := by decide +kernel
theorem dX7_goBack_10 : decode cX7_goBack 10 = .ok (.getfield 76, 3) := by decide +kernel
theorem dX7_goBack_13 : decode cX7_goBack 13 = .ok (.putfield 58, 3) := by decide +kernel
theorem dX7_goBack_16 : decode cX7_goBack 16 = .ok (.aload_n 0, 1) := by decide +kernel
theorem dX7_goBack_17 : decode cX7_goBack 17 = .ok (.getfield 21, 3) := by decide +kernel
theorem dX7_goBack_20 : decode cX7_goBack 20 = .ok (.iconst 0, 1) := by decide +kernel
theorem dX7_goBack_21 : decode cX7_goBack 21 = .ok (.aload_n 0, 1) := by decide +kernel
theorem dX7_goBack_22 : decode cX7_goBack 22 = .ok (.getfield 9, 3) := by decide +kernel
theorem dX7_goBack_25 : decode cX7_goBack 25 = .ok (.iconst 0, 1) := by decide +kernel
theorem dX7_goBack_26 : decode cX7_goBack 26 = .ok (.bipush 10, 2) := by decide +kernel
theorem dX7_goBack_28 : decode cX7_goBack 28 = .ok (.invokestatic 79, 3) := by decide +kernel
theorem dX7_goBack_31 : decode cX7_goBack 31 = .ok (.return_, 1) := by decide +kernel
def ch_wsX8_sumFrom : List (List Cond) := [wsX8_sumFrom_r1, wsX8_sumFrom_r2, wsX00, wsJx4a65c0]
theorem chm_wsX8_sumFrom : ∀ c ∈ ch_wsX8_sumFrom, ∀ w ∈ c, w ∈ wsX8_sumFrom := List.forall_mem_cons.mpr ⟨(fun w h => (List.mem_cons_of_mem _ (List.mem_append_left _ (List.mem_append_left _ (List.mem_append_left _ h))))), List.forall_mem_cons.mpr ⟨(fun w h => (List.mem_cons_of_mem _ (List.mem_append_left _ (List.mem_append_left _ (List.mem_append_right _ h))))), List.forall_mem_cons.mpr ⟨(fun w h => (List.mem_cons_of_mem _ (List.mem_append_left _ (List.mem_append_right _ h)))), List.forall_mem_cons.mpr ⟨(fun w h => (List.mem_cons_of_mem _ (List.mem_append_right _ h))), fun _ h => absurd h List.not_mem_nil⟩⟩⟩⟩
set_option maxRecDepth 100000 in
set_option maxHeartbeats 4000000 in
theorem ggX8_sumFrom_Jx4a65c_size_8abf5 : GoodIn wsX8_sumFrom wsJx4a65c_size_8abf5 := goodIn_k ch_wsX8_sumFrom chm_wsX8_sumFrom _ [(0, 7), (0, 8), (3, 0), (3, 1), (3, 2)] (by rfl) (by decide +kernel)
set_option maxRecDepth 20000 in
theorem gX8_sumFrom_Jx4a65c_size_8abf5 : GoodIn wsX8_sumFrom (wsV RX8 19 RJx4a65c yJx4a65c_size_8abf5 wsJx4a65c_size_8abf5) := goodIn_app (goodIn_of _ (by decide +kernel)) ggX8_sumFrom_Jx4a65c_size_8abf5
set_option maxRecDepth 100000 in
set_option maxHeartbeats 4000000 in
theorem ggX8_sumFrom_Jx4a65c_get_915e3 : GoodIn wsX8_sumFrom wsJx4a65c_get_915e3 := goodIn_k ch_wsX8_sumFrom chm_wsX8_sumFrom _ [(0, 12), (0, 8), (0, 13), (0, 14), (0, 15), (0, 16), (0, 17), (0, 18), (0, 19), (0, 20), (0, 21), (0, 22), (0, 23), (0, 6), (1, 0), (1, 1), (3, 0), (3, 1), (3, 2)] (by rfl) (by decide +kernel)
set_option maxRecDepth 20000 in
theorem gX8_sumFrom_Jx4a65c_get_915e3 : GoodIn wsX8_sumFrom (wsV RX8 25 RJx4a65c yJx4a65c_get_915e3 wsJx4a65c_get_915e3) := goodIn_app (goodIn_of _ (by decide +kernel)) ggX8_sumFrom_Jx4a65c_get_915e3
set_option maxRecDepth 20000 in
theorem ggX8_sumFrom_X8_sumFrom : GoodIn wsX8_sumFrom wsX8_sumFrom := goodIn_r _ [0, 1, 2, 3, 4, 5, 6, 7, 8, 9, 10, 11, 12, 13, 14, 15, 16, 17, 18, 19, 20, 21, 22, 23, 24, 25, 26, 27, 28, 29, 30, 31, 32, 33, 34, 35, 36, 37, 38, 39, 40, 41, 42, 43, 44] (by decide +kernel) (by decide +kernel)
set_option maxRecDepth 20000 in
theorem gX8_sumFrom_X8_sumFrom : GoodIn wsX8_sumFrom (va_wsS RX8 29 yX8_sumFrom wsX8_sumFrom) := goodIn_app (goodIn_of _ (by decide +kernel)) ggX8_sumFrom_X8_sumFrom
theorem dX8_sumFrom_0 : decode cX8_sumFrom 0 = .ok (.iload_n 1, 1) := by decide +kernel
theorem dX8_sumFrom_1 : decode cX8_sumFrom 1 = .ok (.bipush 10, 2) := by decide +kernel
theorem dX8_sumFrom_3 : decode cX8_sumFrom 3 = .ok (.if_icmp .le 5, 3) := by decide +kernel
theorem dX8_sumFrom_6 : decode cX8_sumFrom 6 = .ok (.lconst 0, 1) := by decide +kernel
theorem dX8_sumFrom_7 : decode cX8_sumFrom 7 = .ok (.lreturn, 1) := by decide +kernel
theorem dX8_sumFrom_8 : decode cX8_sumFrom 8 = .ok (.aload_n 0, 1) := by decide +kernel
theorem dX8_sumFrom_9 : decode cX8_sumFrom 9 = .ok (.getfield 9, 3) := by decide +kernel
theorem dX8_sumFrom_12 : decode cX8_sumFrom 12 = .ok (.lstore_n 2, 1) := by decide +kernel
theorem dX8_sumFrom_13 : decode cX8_sumFrom 13 = .ok (.iconst 0, 1) := by decide +kernel
theorem dX8_sumFrom_14 : decode cX8_sumFrom 14 = .ok (.istore 4, 2) := by decide +kernel
theorem dX8_sumFrom_16 : decode cX8_sumFrom 16 = .ok (.iload 4, 2) := by decide +kernel
theorem dX8_sumFrom_18 : decode cX8_sumFrom 18 = .ok (.aload_n 0, 1) := by decide +kernel
theorem dX8_sumFrom_19 : decode cX8_sumFrom 19 = .ok (.getfield 15, 3) := by decide +kernel
theorem dX8_sumFrom_22 : decode cX8_sumFrom 22 = .ok (.invokevirtual 19, 3) := by decide +kernel
theorem dX8_sumFrom_25 : decode cX8_sumFrom 25 = .ok (.if_icmp .ge 30, 3) := by decide +kernel
theorem dX8_sumFrom_28 : decode cX8_sumFrom 28 = .ok (.lload_n 2, 1) := by decide +kernel
theorem dX8_sumFrom_29 : decode cX8_sumFrom 29 = .ok (.aload_n 0, 1) := by decide +kernel
theorem dX8_sumFrom_30 : decode cX8_sumFrom 30 = .ok (.getfield 15, 3) := by decide +kernel
theorem dX8_sumFrom_33 : decode cX8_sumFrom 33 = .ok (.iload 4, 2) := by decide +kernel
theorem dX8_sumFrom_35 : decode cX8_sumFrom 35 = .ok (.invokevirtual 25, 3) := by decide +kernel
theorem dX8_sumFrom_38 : decode cX8_sumFrom 38 = .ok (.checkcast 10, 3) := by decide +kernel
theorem dX8_sumFrom_41 : decode cX8_sumFrom 41 = .ok (.iload_n 1, 1) := by decide +kernel
theorem dX8_sumFrom_42 : decode cX8_sumFrom 42 = .ok (.iconst 1, 1) := by decide +kernel
theorem dX8_sumFrom_43 : decode cX8_sumFrom 43 = .ok (.iadd, 1) := by decide +kernel
theorem dX8_sumFrom_44 : decode cX8_sumFrom 44 = .ok (.invokestatic 29, 3) := by decide +kernel
theorem dX8_sumFrom_47 : decode cX8_sumFrom 47 = .ok (.ladd, 1) := by decide +kernel
theorem dX8_sumFrom_48 : decode cX8_sumFrom 48 = .ok (.lstore_n 2, 1) := by decide +kernel
theorem dX8_sumFrom_49 : decode cX8_sumFrom 49 = .ok (.iinc 4 1, 3) := by decide +kernel
theorem dX8_sumFrom_52 : decode cX8_sumFrom 52 = .ok (.goto (-36), 3) := by decide +kernel
theorem dX8_sumFrom_55 : decode cX8_sumFrom 55 = .ok (.lload_n 2, 1) := by decide +kernel
theorem dX8_sumFrom_56 : decode cX8_sumFrom 56 = .ok (.lreturn, 1) := by decide +kernel
def ch_wsX8_sweep : List (List Cond) := [wsX8_sweep_r1, wsX8_sweep_r2, wsX8_sweep_r3, wsX00, wsJx4a65c0]
theorem chm_wsX8_sweep : ∀ c ∈ ch_wsX8_sweep, ∀ w ∈ c, w ∈ wsX8_sweep := List.forall_mem_cons.mpr ⟨(fun w h => (List.mem_cons_of_mem _ (List.mem_append_left _ (List.mem_append_left _ (List.mem_append_left _ h))))), List.forall_mem_cons.mpr ⟨(fun w h => (List.mem_cons_of_mem _ (List.mem_append_left _ (List.mem_append_left _ (List.mem_append_right _ (List.mem_append_left _ h)))))), List.forall_mem_cons.mpr ⟨(fun w h => (List.mem_cons_of_mem _ (List.mem_append_left _ (List.mem_append_left _ (List.mem_append_right _ (List.mem_append_right _ h)))))), List.forall_mem_cons.mpr ⟨(fun w h => (List.mem_cons_of_mem _ (List.mem_append_left _ (List.mem_append_right _ h)))), List.forall_mem_cons.mpr ⟨(fun w h => (List.mem_cons_of_mem _ (List.mem_append_right _ h))), fun _ h => absurd h List.not_mem_nil⟩⟩⟩⟩⟩
set_option maxRecDepth 100000 in
set_option maxHeartbeats 4000000 in
theorem ggX8_sweep_X8_sweepUp : GoodIn wsX8_sweep wsX8_sweepUp := goodIn_k ch_wsX8_sweep chm_wsX8_sweep _ [(0, 3), (0, 4), (0, 5), (0, 6), (0, 7), (0, 8), (0, 9), (0, 10), (0, 11), (0, 12), (0, 13), (0, 14), (0, 15), (0, 16), (0, 17), (0, 18), (0, 19), (0, 20), (0, 21), (0, 22), (0, 23), (1, 0), (1, 1), (1, 2), (1, 3), (1, 4), (1, 5), (1, 6), (1, 7), (1, 8), (1, 9), (1, 10), (0, 0), (0, 1), (0, 2), (1, 11), (1, 12), (1, 13), (1, 14), (1, 15), (1, 16), (1, 17), (1, 18), (1, 19), (1, 20), (1, 21), (3, 0), (3, 1), (3, 2), (3, 3), (3, 4), (3, 5), (3, 6), (3, 7), (3, 8), (3, 9), (3, 10), (3, 11), (4, 0), (4, 1), (4, 2)] (by rfl) (by decide +kernel)
set_option maxRecDepth 20000 in
theorem gX8_sweep_X8_sweepUp : GoodIn wsX8_sweep (va_wsS RX8 35 yX8_sweepUp wsX8_sweepUp) := goodIn_app (goodIn_of _ (by decide +kernel)) ggX8_sweep_X8_sweepUp
set_option maxRecDepth 100000 in
set_option maxHeartbeats 4000000 in
theorem ggX8_sweep_X8_sweepDown : GoodIn wsX8_sweep wsX8_sweepDown := goodIn_k ch_wsX8_sweep chm_wsX8_sweep _ [(2, 0), (0, 11), (0, 6), (0, 4), (0, 5), (2, 1), (2, 2), (0, 2), (2, 3), (0, 7), (0, 8), (0, 9), (0, 10), (2, 4), (2, 5), (1, 20), (1, 21), (1, 11), (1, 12), (1, 13), (1, 14), (1, 15), (1, 16), (1, 17), (1, 18), (1, 19), (0, 12), (0, 13), (0, 14), (0, 15), (0, 16), (0, 17), (0, 18), (0, 19), (0, 20), (0, 21), (0, 22), (0, 23), (1, 0), (1, 1), (1, 2), (1, 3), (1, 4), (1, 5), (1, 6), (1, 7), (1, 8), (1, 9), (1, 10), (1, 22), (1, 23), (3, 0), (3, 1), (3, 2), (3, 3), (3, 4), (3, 5), (3, 6), (3, 7), (3, 8), (3, 9), (3, 10), (3, 11), (4, 0), (4, 1), (4, 2)] (by rfl) (by decide +kernel)
set_option maxRecDepth 20000 in
theorem gX8_sweep_X8_sweepDown : GoodIn wsX8_sweep (va_wsS RX8 39 yX8_sweepDown wsX8_sweepDown) := goodIn_app (goodIn_of _ (by decide +kernel)) ggX8_sweep_X8_sweepDown
theorem dX8_sweep_0 : decode cX8_sweep 0 = .ok (.aload_n 0, 1) := by decide +kernel
theorem dX8_sweep_1 : decode cX8_sweep 1 = .ok (.iconst 0, 1) := by decide +kernel
theorem dX8_sweep_2 : decode cX8_sweep 2 = .ok (.invokestatic 35, 3) := by decide +kernel
theorem dX8_sweep_5 : decode cX8_sweep 5 = .ok (.aload_n 0, 1) := by decide +kernel
theorem dX8_sweep_6 : decode cX8_sweep 6 = .ok (.iconst 0, 1) := by decide +kernel
theorem dX8_sweep_7 : decode cX8_sweep 7 = .ok (.invokestatic 39, 3) := by decide +kernel
theorem dX8_sweep_10 : decode cX8_sweep 10 = .ok (.return_, 1) := by decide +kernel
def ch_wsX8_sweepUp : List (List Cond) := [wsX8_sweepUp_r1, wsX8_sweepUp_r2, wsX00, wsJx4a65c0]
theorem chm_wsX8_sweepUp : ∀ c ∈ ch_wsX8_sweepUp, ∀ w ∈ c, w ∈ wsX8_sweepUp := List.forall_mem_cons.mpr ⟨(fun w h => (List.mem_cons_of_mem _ (List.mem_append_left _ (List.mem_append_left _ (List.mem_append_left _ h))))), List.forall_mem_cons.mpr ⟨(fun w h => (List.mem_cons_of_mem _ (List.mem_append_left _ (List.mem_append_left _ (List.mem_append_right _ h))))), List.forall_mem_cons.mpr ⟨(fun w h => (List.mem_cons_of_mem _ (List.mem_append_left _ (List.mem_append_right _ h)))), List.forall_mem_cons.mpr ⟨(fun w h => (List.mem_cons_of_mem _ (List.mem_append_right _ h))), fun _ h => absurd h List.not_mem_nil⟩⟩⟩⟩
set_option maxRecDepth 100000 in
set_option maxHeartbeats 4000000 in
theorem ggX8_sweepUp_Jx4a65c_size_8abf5 : GoodIn wsX8_sweepUp wsJx4a65c_size_8abf5 := goodIn_k ch_wsX8_sweepUp chm_wsX8_sweepUp _ [(0, 12), (0, 13), (3, 0), (3, 1), (3, 2)] (by rfl) (by decide +kernel)
set_option maxRecDepth 20000 in
theorem gX8_sweepUp_Jx4a65c_size_8abf5 : GoodIn wsX8_sweepUp (wsV RX8 19 RJx4a65c yJx4a65c_size_8abf5 wsJx4a65c_size_8abf5) := goodIn_app (goodIn_of _ (by decide +kernel)) ggX8_sweepUp_Jx4a65c_size_8abf5
set_option maxRecDepth 100000 in
set_option maxHeartbeats 4000000 in
theorem ggX8_sweepUp_Jx4a65c_get_915e3 : GoodIn wsX8_sweepUp wsJx4a65c_get_915e3 := goodIn_k ch_wsX8_sweepUp chm_wsX8_sweepUp _ [(0, 17), (0, 13), (0, 18), (0, 19), (0, 20), (0, 21), (0, 22), (0, 23), (1, 0), (1, 1), (1, 2), (1, 3), (1, 4), (0, 11), (1, 5), (1, 6), (3, 0), (3, 1), (3, 2)] (by rfl) (by decide +kernel)
set_option maxRecDepth 20000 in
theorem gX8_sweepUp_Jx4a65c_get_915e3 : GoodIn wsX8_sweepUp (wsV RX8 25 RJx4a65c yJx4a65c_get_915e3 wsJx4a65c_get_915e3) := goodIn_app (goodIn_of _ (by decide +kernel)) ggX8_sweepUp_Jx4a65c_get_915e3
set_option maxRecDepth 20000 in
theorem ggX8_sweepUp_X8_sweepUp : GoodIn wsX8_sweepUp wsX8_sweepUp := goodIn_r _ [0, 1, 2, 3, 4, 5, 6, 7, 8, 9, 10, 11, 12, 13, 14, 15, 16, 17, 18, 19, 20, 21, 22, 23, 24, 25, 26, 27, 28, 29, 30, 31, 32, 33, 34, 35, 36, 37, 38, 39, 40, 41, 42, 43, 44, 45, 46, 47, 48, 49, 50, 51, 52, 53, 54, 55, 56, 57, 58, 59, 60] (by decide +kernel) (by decide +kernel)
set_option maxRecDepth 20000 in
theorem gX8_sweepUp_X8_sweepUp : GoodIn wsX8_sweepUp (va_wsS RX8 35 yX8_sweepUp wsX8_sweepUp) := goodIn_app (goodIn_of _ (by decide +kernel)) ggX8_sweepUp_X8_sweepUp
set_option maxRecDepth 100000 in
set_option maxHeartbeats 4000000 in
theorem ggX8_sweepUp_X0_surplusOf : GoodIn wsX8_sweepUp wsX0_surplusOf := goodIn_k ch_wsX8_sweepUp chm_wsX8_sweepUp _ [(1, 14), (1, 15), (1, 16), (1, 17), (0, 4), (0, 5), (0, 6), (1, 18), (1, 19), (1, 20), (2, 0), (2, 1), (2, 2), (2, 3), (2, 4), (2, 5), (2, 6), (2, 7), (2, 8), (2, 9), (2, 10), (2, 11)] (by rfl) (by decide +kernel)
set_option maxRecDepth 20000 in
theorem gX8_sweepUp_X0_surplusOf : GoodIn wsX8_sweepUp (wsV RX8 42 RX0 yX0_surplusOf wsX0_surplusOf) := goodIn_app (goodIn_of _ (by decide +kernel)) ggX8_sweepUp_X0_surplusOf
theorem dX8_sweepUp_0 : decode cX8_sweepUp 0 = .ok (.iload_n 1, 1) := by decide +kernel
theorem dX8_sweepUp_1 : decode cX8_sweepUp 1 = .ok (.bipush 10, 2) := by decide +kernel
theorem dX8_sweepUp_3 : decode cX8_sweepUp 3 = .ok (.if_icmp .le 4, 3) := by decide +kernel
theorem dX8_sweepUp_6 : decode cX8_sweepUp 6 = .ok (.return_, 1) := by decide +kernel
theorem dX8_sweepUp_7 : decode cX8_sweepUp 7 = .ok (.iconst 0, 1) := by decide +kernel
theorem dX8_sweepUp_8 : decode cX8_sweepUp 8 = .ok (.istore_n 2, 1) := by decide +kernel
theorem dX8_sweepUp_9 : decode cX8_sweepUp 9 = .ok (.iload_n 2, 1) := by decide +kernel
theorem dX8_sweepUp_10 : decode cX8_sweepUp 10 = .ok (.aload_n 0, 1) := by decide +kernel
theorem dX8_sweepUp_11 : decode cX8_sweepUp 11 = .ok (.getfield 15, 3) := by decide +kernel
theorem dX8_sweepUp_14 : decode cX8_sweepUp 14 = .ok (.invokevirtual 19, 3) := by decide +kernel
theorem dX8_sweepUp_17 : decode cX8_sweepUp 17 = .ok (.if_icmp .ge 26, 3) := by decide +kernel
theorem dX8_sweepUp_20 : decode cX8_sweepUp 20 = .ok (.aload_n 0, 1) := by decide +kernel
theorem dX8_sweepUp_21 : decode cX8_sweepUp 21 = .ok (.getfield 15, 3) := by decide +kernel
theorem dX8_sweepUp_24 : decode cX8_sweepUp 24 = .ok (.iload_n 2, 1) := by decide +kernel
theorem dX8_sweepUp_25 : decode cX8_sweepUp 25 = .ok (.invokevirtual 25, 3) := by decide +kernel
theorem dX8_sweepUp_28 : decode cX8_sweepUp 28 = .ok (.checkcast 10, 3) := by decide +kernel
theorem dX8_sweepUp_31 : decode cX8_sweepUp 31 = .ok (.iload_n 1, 1) := by decide +kernel
theorem dX8_sweepUp_32 : decode cX8_sweepUp 32 = .ok (.iconst 1, 1) := by decide +kernel
theorem dX8_sweepUp_33 : decode cX8_sweepUp 33 = .ok (.iadd, 1) := by decide +kernel
theorem dX8_sweepUp_34 : decode cX8_sweepUp 34 = .ok (.invokestatic 35, 3) := by decide +kernel
theorem dX8_sweepUp_37 : decode cX8_sweepUp 37 = .ok (.iinc 2 1, 3) := by decide +kernel
theorem dX8_sweepUp_40 : decode cX8_sweepUp 40 = .ok (.goto (-31), 3) := by decide +kernel
theorem dX8_sweepUp_43 : decode cX8_sweepUp 43 = .ok (.aload_n 0, 1) := by decide +kernel
theorem dX8_sweepUp_44 : decode cX8_sweepUp 44 = .ok (.aload_n 0, 1) := by decide +kernel
theorem dX8_sweepUp_45 : decode cX8_sweepUp 45 = .ok (.getfield 9, 3) := by decide +kernel
theorem dX8_sweepUp_48 : decode cX8_sweepUp 48 = .ok (.invokevirtual 42, 3) := by decide +kernel
theorem dX8_sweepUp_51 : decode cX8_sweepUp 51 = .ok (.lconst 0, 1) := by decide +kernel
theorem dX8_sweepUp_52 : decode cX8_sweepUp 52 = .ok (.invokestatic 46, 3) := by decide +kernel
theorem dX8_sweepUp_55 : decode cX8_sweepUp 55 = .ok (.lstore_n 2, 1) := by decide +kernel
theorem dX8_sweepUp_56 : decode cX8_sweepUp 56 = .ok (.aload_n 0, 1) := by decide +kernel
theorem dX8_sweepUp_57 : decode cX8_sweepUp 57 = .ok (.getfield 52, 3) := by decide +kernel
theorem dX8_sweepUp_60 : decode cX8_sweepUp 60 = .ok (.ifnull 26, 3) := by decide +kernel
theorem dX8_sweepUp_63 : decode cX8_sweepUp 63 = .ok (.aload_n 0, 1) := by decide +kernel
theorem dX8_sweepUp_64 : decode cX8_sweepUp 64 = .ok (.dup, 1) := by decide +kernel
theorem dX8_sweepUp_65 : decode cX8_sweepUp 65 = .ok (.getfield 9, 3) := by decide +kernel
theorem dX8_sweepUp_68 : decode cX8_sweepUp 68 = .ok (.lload_n 2, 1) := by decide +kernel
theorem dX8_sweepUp_69 : decode cX8_sweepUp 69 = .ok (.lsub, 1) := by decide +kernel
theorem dX8_sweepUp_70 : decode cX8_sweepUp 70 = .ok (.putfield 9, 3) := by decide +kernel
theorem dX8_sweepUp_73 : decode cX8_sweepUp 73 = .ok (.aload_n 0, 1) := by decide +kernel
theorem dX8_sweepUp_74 : decode cX8_sweepUp 74 = .ok (.getfield 52, 3) := by decide +kernel
theorem dX8_sweepUp_77 : decode cX8_sweepUp 77 = .ok (.dup, 1) := by decide +kernel
theorem dX8_sweepUp_78 : decode cX8_sweepUp 78 = .ok (.getfield 9, 3) := by decide +kernel
theorem dX8_sweepUp_81 : decode cX8_sweepUp 81 = .ok (.lload_n 2, 1) := by decide +kernel
theorem dX8_sweepUp_82 : decode cX8_sweepUp 82 = .ok (.ladd, 1) := by decide +kernel
theorem dX8_sweepUp_83 : decode cX8_sweepUp 83 = .ok (.putfield 9, 3) := by decide +kernel
theorem dX8_sweepUp_86 : decode cX8_sweepUp 86 = .ok (.return_, 1) := by decide +kernel
def ch_wsX8_sweepDown : List (List Cond) := [wsX8_sweepDown_r1, wsX8_sweepDown_r2, wsX8_sweepDown_r3, wsX00, wsJx4a65c0]
theorem chm_wsX8_sweepDown : ∀ c ∈ ch_wsX8_sweepDown, ∀ w ∈ c, w ∈ wsX8_sweepDown := List.forall_mem_cons.mpr ⟨(fun w h => (List.mem_cons_of_mem _ (List.mem_append_left _ (List.mem_append_left _ (List.mem_append_left _ h))))), List.forall_mem_cons.mpr ⟨(fun w h => (List.mem_cons_of_mem _ (List.mem_append_left _ (List.mem_append_left _ (List.mem_append_right _ (List.mem_append_left _ h)))))), List.forall_mem_cons.mpr ⟨(fun w h => (List.mem_cons_of_mem _ (List.mem_append_left _ (List.mem_append_left _ (List.mem_append_right _ (List.mem_append_right _ h)))))), List.forall_mem_cons.mpr ⟨(fun w h => (List.mem_cons_of_mem _ (List.mem_append_left _ (List.mem_append_right _ h)))), List.forall_mem_cons.mpr ⟨(fun w h => (List.mem_cons_of_mem _ (List.mem_append_right _ h))), fun _ h => absurd h List.not_mem_nil⟩⟩⟩⟩⟩
set_option maxRecDepth 100000 in
set_option maxHeartbeats 4000000 in
theorem ggX8_sweepDown_X8_partOf : GoodIn wsX8_sweepDown wsX8_partOf := goodIn_k ch_wsX8_sweepDown chm_wsX8_sweepDown _ [(0, 7), (0, 0), (0, 8), (0, 9), (0, 10), (0, 11), (0, 12), (0, 13), (0, 14), (0, 15), (0, 16), (0, 17), (0, 18), (0, 19), (0, 20), (0, 21), (0, 22), (0, 23), (1, 0), (3, 0), (3, 1), (3, 2), (3, 3), (3, 4), (3, 5), (3, 6), (3, 7), (3, 8), (3, 9), (3, 10), (3, 11)] (by rfl) (by decide +kernel)
set_option maxRecDepth 20000 in
theorem gX8_sweepDown_X8_partOf : GoodIn wsX8_sweepDown (va_wsS RX8 56 yX8_partOf wsX8_partOf) := goodIn_app (goodIn_of _ (by decide +kernel)) ggX8_sweepDown_X8_partOf
set_option maxRecDepth 100000 in
set_option maxHeartbeats 4000000 in
theorem ggX8_sweepDown_Jx4a65c_size_8abf5 : GoodIn wsX8_sweepDown wsJx4a65c_size_8abf5 := goodIn_k ch_wsX8_sweepDown chm_wsX8_sweepDown _ [(1, 5), (1, 6), (4, 0), (4, 1), (4, 2)] (by rfl) (by decide +kernel)
set_option maxRecDepth 20000 in
theorem gX8_sweepDown_Jx4a65c_size_8abf5 : GoodIn wsX8_sweepDown (wsV RX8 19 RJx4a65c yJx4a65c_size_8abf5 wsJx4a65c_size_8abf5) := goodIn_app (goodIn_of _ (by decide +kernel)) ggX8_sweepDown_Jx4a65c_size_8abf5
set_option maxRecDepth 100000 in
set_option maxHeartbeats 4000000 in
theorem ggX8_sweepDown_Jx4a65c_get_915e3 : GoodIn wsX8_sweepDown wsJx4a65c_get_915e3 := goodIn_k ch_wsX8_sweepDown chm_wsX8_sweepDown _ [(1, 10), (1, 6), (1, 11), (1, 12), (1, 13), (1, 14), (1, 15), (1, 16), (1, 17), (1, 18), (1, 19), (1, 20), (1, 21), (1, 4), (1, 22), (1, 23), (4, 0), (4, 1), (4, 2)] (by rfl) (by decide +kernel)
set_option maxRecDepth 20000 in
theorem gX8_sweepDown_Jx4a65c_get_915e3 : GoodIn wsX8_sweepDown (wsV RX8 25 RJx4a65c yJx4a65c_get_915e3 wsJx4a65c_get_915e3) := goodIn_app (goodIn_of _ (by decide +kernel)) ggX8_sweepDown_Jx4a65c_get_915e3
set_option maxRecDepth 20000 in
theorem ggX8_sweepDown_X8_sweepDown : GoodIn wsX8_sweepDown wsX8_sweepDown := goodIn_r _ [0, 1, 2, 3, 4, 5, 6, 7, 8, 9, 10, 11, 12, 13, 14, 15, 16, 17, 18, 19, 20, 21, 22, 23, 24, 25, 26, 27, 28, 29, 30, 31, 32, 33, 34, 35, 36, 37, 38, 39, 40, 41, 42, 43, 44, 45, 46, 47, 48, 49, 50, 51, 52, 53, 54, 55, 56, 57, 58, 59, 60, 61, 62, 63, 64, 65] (by decide +kernel) (by decide +kernel)
set_option maxRecDepth 20000 in
theorem gX8_sweepDown_X8_sweepDown : GoodIn wsX8_sweepDown (va_wsS RX8 39 yX8_sweepDown wsX8_sweepDown) := goodIn_app (goodIn_of _ (by decide +kernel)) ggX8_sweepDown_X8_sweepDown
theorem dX8_sweepDown_0 : decode cX8_sweepDown 0 = .ok (.iload_n 1, 1) := by decide +kernel
theorem dX8_sweepDown_1 : decode cX8_sweepDown 1 = .ok (.bipush 10, 2) := by decide +kernel
theorem dX8_sweepDown_3 : decode cX8_sweepDown 3 = .ok (.if_icmp .le 4, 3) := by decide +kernel
theorem dX8_sweepDown_6 : decode cX8_sweepDown 6 = .ok (.return_, 1) := by decide +kernel
theorem dX8_sweepDown_7 : decode cX8_sweepDown 7 = .ok (.aload_n 0, 1) := by decide +kernel
theorem dX8_sweepDown_8 : decode cX8_sweepDown 8 = .ok (.getfield 52, 3) := by decide +kernel
theorem dX8_sweepDown_11 : decode cX8_sweepDown 11 = .ok (.ifnull 42, 3) := by decide +kernel
theorem dX8_sweepDown_14 : decode cX8_sweepDown 14 = .ok (.aload_n 0, 1) := by decide +kernel
theorem dX8_sweepDown_15 : decode cX8_sweepDown 15 = .ok (.aload_n 0, 1) := by decide +kernel
theorem dX8_sweepDown_16 : decode cX8_sweepDown 16 = .ok (.getfield 9, 3) := by decide +kernel
theorem dX8_sweepDown_19 : decode cX8_sweepDown 19 = .ok (.aload_n 0, 1) := by decide +kernel
theorem dX8_sweepDown_20 : decode cX8_sweepDown 20 = .ok (.getfield 52, 3) := by decide +kernel
theorem dX8_sweepDown_23 : decode cX8_sweepDown 23 = .ok (.getfield 9, 3) := by decide +kernel
theorem dX8_sweepDown_26 : decode cX8_sweepDown 26 = .ok (.invokestatic 56, 3) := by decide +kernel
theorem dX8_sweepDown_29 : decode cX8_sweepDown 29 = .ok (.lstore_n 2, 1) := by decide +kernel
theorem dX8_sweepDown_30 : decode cX8_sweepDown 30 = .ok (.aload_n 0, 1) := by decide +kernel
theorem dX8_sweepDown_31 : decode cX8_sweepDown 31 = .ok (.dup, 1) := by decide +kernel
theorem dX8_sweepDown_32 : decode cX8_sweepDown 32 = .ok (.getfield 9, 3) := by decide +kernel
theorem dX8_sweepDown_35 : decode cX8_sweepDown 35 = .ok (.lload_n 2, 1) := by decide +kernel
theorem dX8_sweepDown_36 : decode cX8_sweepDown 36 = .ok (.ladd, 1) := by decide +kernel
theorem dX8_sweepDown_37 : decode cX8_sweepDown 37 = .ok (.putfield 9, 3) := by decide +kernel
theorem dX8_sweepDown_40 : decode cX8_sweepDown 40 = .ok (.aload_n 0, 1) := by decide +kernel
theorem dX8_sweepDown_41 : decode cX8_sweepDown 41 = .ok (.getfield 52, 3) := by decide +kernel
theorem dX8_sweepDown_44 : decode cX8_sweepDown 44 = .ok (.dup, 1) := by decide +kernel
theorem dX8_sweepDown_45 : decode cX8_sweepDown 45 = .ok (.getfield 9, 3) := by decide +kernel
theorem dX8_sweepDown_48 : decode cX8_sweepDown 48 = .ok (.lload_n 2, 1) := by decide +kernel
theorem dX8_sweepDown_49 : decode cX8_sweepDown 49 = .ok (.lsub, 1) := by decide +kernel
theorem dX8_sweepDown_50 : decode cX8_sweepDown 50 = .ok (.putfield 9, 3) := by decide +kernel
theorem dX8_sweepDown_53 : decode cX8_sweepDown 53 = .ok (.iconst 0, 1) := by decide +kernel
theorem dX8_sweepDown_54 : decode cX8_sweepDown 54 = .ok (.istore_n 2, 1) := by decide +kernel
theorem dX8_sweepDown_55 : decode cX8_sweepDown 55 = .ok (.iload_n 2, 1) := by decide +kernel
theorem dX8_sweepDown_56 : decode cX8_sweepDown 56 = .ok (.aload_n 0, 1) := by decide +kernel
theorem dX8_sweepDown_57 : decode cX8_sweepDown 57 = .ok (.getfield 15, 3) := by decide +kernel
theorem dX8_sweepDown_60 : decode cX8_sweepDown 60 = .ok (.invokevirtual 19, 3) := by decide +kernel
theorem dX8_sweepDown_63 : decode cX8_sweepDown 63 = .ok (.if_icmp .ge 26, 3) := by decide +kernel
theorem dX8_sweepDown_66 : decode cX8_sweepDown 66 = .ok (.aload_n 0, 1) := by decide +kernel
theorem dX8_sweepDown_67 : decode cX8_sweepDown 67 = .ok (.getfield 15, 3) := by decide +kernel
theorem dX8_sweepDown_70 : decode cX8_sweepDown 70 = .ok (.iload_n 2, 1) := by decide +kernel
theorem dX8_sweepDown_71 : decode cX8_sweepDown 71 = .ok (.invokevirtual 25, 3) := by decide +kernel
theorem dX8_sweepDown_74 : decode cX8_sweepDown 74 = .ok (.checkcast 10, 3) := by decide +kernel
theorem dX8_sweepDown_77 : decode cX8_sweepDown 77 = .ok (.iload_n 1, 1) := by decide +kernel
theorem dX8_sweepDown_78 : decode cX8_sweepDown 78 = .ok (.iconst 1, 1) := by decide +kernel
theorem dX8_sweepDown_79 : decode cX8_sweepDown 79 = .ok (.iadd, 1) := by decide +kernel
theorem dX8_sweepDown_80 : decode cX8_sweepDown 80 = .ok (.invokestatic 39, 3) := by decide +kernel
theorem dX8_sweepDown_83 : decode cX8_sweepDown 83 = .ok (.iinc 2 1, 3) := by decide +kernel
theorem dX8_sweepDown_86 : decode cX8_sweepDown 86 = .ok (.goto (-31), 3) := by decide +kernel
theorem dX8_sweepDown_89 : decode cX8_sweepDown 89 = .ok (.return_, 1) := by decide +kernel
set_option maxRecDepth 20000 in
theorem ggX8_partOf_X0_surplusOf : GoodIn wsX8_partOf wsX0_surplusOf := goodIn_r _ [14, 15, 16, 17, 3, 4, 5, 18, 8, 9, 19, 20, 21, 22, 23, 24, 25, 26, 27, 28, 29, 30] (by decide +kernel) (by decide +kernel)
set_option maxRecDepth 20000 in
theorem gX8_partOf_X0_surplusOf : GoodIn wsX8_partOf (wsV RX8 42 RX0 yX0_surplusOf wsX0_surplusOf) := goodIn_app (goodIn_of _ (by decide +kernel)) ggX8_partOf_X0_surplusOf
theorem dX8_partOf_0 : decode cX8_partOf 0 = .ok (.aload_n 0, 1) := by decide +kernel
theorem dX8_partOf_1 : decode cX8_partOf 1 = .ok (.getfield 52, 3) := by decide +kernel
theorem dX8_partOf_4 : decode cX8_partOf 4 = .ok (.ifnonnull 5, 3) := by decide +kernel
theorem dX8_partOf_7 : decode cX8_partOf 7 = .ok (.lconst 0, 1) := by decide +kernel
theorem dX8_partOf_8 : decode cX8_partOf 8 = .ok (.lreturn, 1) := by decide +kernel
theorem dX8_partOf_9 : decode cX8_partOf 9 = .ok (.aload_n 0, 1) := by decide +kernel
theorem dX8_partOf_10 : decode cX8_partOf 10 = .ok (.lload_n 1, 1) := by decide +kernel
theorem dX8_partOf_11 : decode cX8_partOf 11 = .ok (.invokevirtual 42, 3) := by decide +kernel
theorem dX8_partOf_14 : decode cX8_partOf 14 = .ok (.lneg, 1) := by decide +kernel
theorem dX8_partOf_15 : decode cX8_partOf 15 = .ok (.lconst 0, 1) := by decide +kernel
theorem dX8_partOf_16 : decode cX8_partOf 16 = .ok (.invokestatic 46, 3) := by decide +kernel
theorem dX8_partOf_19 : decode cX8_partOf 19 = .ok (.lstore 5, 2) := by decide +kernel
theorem dX8_partOf_21 : decode cX8_partOf 21 = .ok (.lload_n 3, 1) := by decide +kernel
theorem dX8_partOf_22 : decode cX8_partOf 22 = .ok (.aload_n 0, 1) := by decide +kernel
theorem dX8_partOf_23 : decode cX8_partOf 23 = .ok (.getfield 52, 3) := by decide +kernel
theorem dX8_partOf_26 : decode cX8_partOf 26 = .ok (.getfield 60, 3) := by decide +kernel
theorem dX8_partOf_29 : decode cX8_partOf 29 = .ok (.i2l, 1) := by decide +kernel
theorem dX8_partOf_30 : decode cX8_partOf 30 = .ok (.lsub, 1) := by decide +kernel
theorem dX8_partOf_31 : decode cX8_partOf 31 = .ok (.lconst 0, 1) := by decide +kernel
theorem dX8_partOf_32 : decode cX8_partOf 32 = .ok (.invokestatic 46, 3) := by decide +kernel
theorem dX8_partOf_35 : decode cX8_partOf 35 = .ok (.lstore 7, 2) := by decide +kernel
theorem dX8_partOf_37 : decode cX8_partOf 37 = .ok (.lload 5, 2) := by decide +kernel
theorem dX8_partOf_39 : decode cX8_partOf 39 = .ok (.lload 7, 2) := by decide +kernel
theorem dX8_partOf_41 : decode cX8_partOf 41 = .ok (.invokestatic 64, 3) := by decide +kernel
theorem dX8_partOf_44 : decode cX8_partOf 44 = .ok (.lreturn, 1) := by decide +kernel
def ch_wsX8_sweptCash : List (List Cond) := [wsX8_sweptCash_r1, wsX8_sweptCash_r2, wsX8_sweptCash_r3, wsX00, wsJx4a65c0]
theorem chm_wsX8_sweptCash : ∀ c ∈ ch_wsX8_sweptCash, ∀ w ∈ c, w ∈ wsX8_sweptCash := List.forall_mem_cons.mpr ⟨(fun w h => (List.mem_cons_of_mem _ (List.mem_append_left _ (List.mem_append_left _ (List.mem_append_left _ h))))), List.forall_mem_cons.mpr ⟨(fun w h => (List.mem_cons_of_mem _ (List.mem_append_left _ (List.mem_append_left _ (List.mem_append_right _ (List.mem_append_left _ h)))))), List.forall_mem_cons.mpr ⟨(fun w h => (List.mem_cons_of_mem _ (List.mem_append_left _ (List.mem_append_left _ (List.mem_append_right _ (List.mem_append_right _ h)))))), List.forall_mem_cons.mpr ⟨(fun w h => (List.mem_cons_of_mem _ (List.mem_append_left _ (List.mem_append_right _ h)))), List.forall_mem_cons.mpr ⟨(fun w h => (List.mem_cons_of_mem _ (List.mem_append_right _ h))), fun _ h => absurd h List.not_mem_nil⟩⟩⟩⟩⟩
set_option maxRecDepth 100000 in
set_option maxHeartbeats 4000000 in
theorem ggX8_sweptCash_X8_leftBefore : GoodIn wsX8_sweptCash wsX8_leftBefore := goodIn_k ch_wsX8_sweptCash chm_wsX8_sweptCash _ [(0, 3), (0, 4), (0, 5), (0, 6), (0, 7), (0, 8), (0, 9), (0, 2), (0, 10), (0, 11), (0, 12), (0, 13), (0, 14), (0, 15), (0, 16), (0, 17), (0, 18), (0, 19), (0, 20), (0, 21), (0, 22), (0, 23), (1, 0), (1, 1), (1, 2), (1, 3), (1, 4), (1, 5), (1, 6), (1, 7), (1, 8), (1, 9), (1, 10), (1, 11), (1, 12), (1, 13), (1, 14), (1, 15), (1, 16), (1, 17), (1, 18), (1, 19), (1, 20), (1, 21), (1, 22), (1, 23), (2, 0), (2, 1), (2, 2), (2, 3), (2, 4), (0, 0), (0, 1), (2, 5), (2, 6), (2, 7), (2, 8), (2, 9), (3, 0), (3, 1), (3, 2), (3, 3), (3, 4), (3, 5), (3, 6), (3, 7), (3, 8), (3, 9), (3, 10), (3, 11), (4, 0), (4, 1), (4, 2)] (by rfl) (by decide +kernel)
set_option maxRecDepth 20000 in
theorem gX8_sweptCash_X8_leftBefore : GoodIn wsX8_sweptCash (va_wsS RX8 67 yX8_leftBefore wsX8_leftBefore) := goodIn_app (goodIn_of _ (by decide +kernel)) ggX8_sweptCash_X8_leftBefore
theorem dX8_sweptCash_0 : decode cX8_sweptCash 0 = .ok (.aload_n 0, 1) := by decide +kernel
theorem dX8_sweptCash_1 : decode cX8_sweptCash 1 = .ok (.bipush 10, 2) := by decide +kernel
theorem dX8_sweptCash_3 : decode cX8_sweptCash 3 = .ok (.iconst 0, 1) := by decide +kernel
theorem dX8_sweptCash_4 : decode cX8_sweptCash 4 = .ok (.invokestatic 67, 3) := by decide +kernel
theorem dX8_sweptCash_7 : decode cX8_sweptCash 7 = .ok (.lreturn, 1) := by decide +kernel
def ch_wsX8_leftBefore : List (List Cond) := [wsX8_leftBefore_r1, wsX8_leftBefore_r2, wsX8_leftBefore_r3, wsX00, wsJx4a65c0]
theorem chm_wsX8_leftBefore : ∀ c ∈ ch_wsX8_leftBefore, ∀ w ∈ c, w ∈ wsX8_leftBefore := List.forall_mem_cons.mpr ⟨(fun w h => (List.mem_cons_of_mem _ (List.mem_append_left _ (List.mem_append_left _ (List.mem_append_left _ h))))), List.forall_mem_cons.mpr ⟨(fun w h => (List.mem_cons_of_mem _ (List.mem_append_left _ (List.mem_append_left _ (List.mem_append_right _ (List.mem_append_left _ h)))))), List.forall_mem_cons.mpr ⟨(fun w h => (List.mem_cons_of_mem _ (List.mem_append_left _ (List.mem_append_left _ (List.mem_append_right _ (List.mem_append_right _ h)))))), List.forall_mem_cons.mpr ⟨(fun w h => (List.mem_cons_of_mem _ (List.mem_append_left _ (List.mem_append_right _ h)))), List.forall_mem_cons.mpr ⟨(fun w h => (List.mem_cons_of_mem _ (List.mem_append_right _ h))), fun _ h => absurd h List.not_mem_nil⟩⟩⟩⟩⟩
set_option maxRecDepth 100000 in
set_option maxHeartbeats 4000000 in
theorem ggX8_leftBefore_X8_heldBetweenPasses : GoodIn wsX8_leftBefore wsX8_heldBetweenPasses := goodIn_k ch_wsX8_leftBefore chm_wsX8_leftBefore _ [(0, 7), (0, 8), (0, 9), (0, 10), (0, 11), (0, 12), (0, 13), (0, 6), (0, 14), (0, 15), (0, 2), (0, 3), (0, 16), (0, 17), (0, 18), (0, 19), (0, 20), (0, 21), (0, 22), (0, 23), (1, 0), (1, 1), (1, 2), (1, 3), (1, 4), (1, 5), (1, 6), (1, 7), (1, 8), (1, 9), (1, 10), (1, 11), (1, 12), (1, 13), (1, 14), (1, 15), (1, 16), (1, 17), (1, 18), (1, 19), (1, 20), (1, 21), (1, 22), (1, 23), (2, 0), (2, 1), (3, 0), (3, 1), (3, 2), (3, 3), (3, 4), (3, 5), (3, 6), (3, 7), (3, 8), (3, 9), (3, 10), (3, 11), (4, 0), (4, 1), (4, 2)] (by rfl) (by decide +kernel)
set_option maxRecDepth 20000 in
theorem gX8_leftBefore_X8_heldBetweenPasses : GoodIn wsX8_leftBefore (va_wsS RX8 71 yX8_heldBetweenPasses wsX8_heldBetweenPasses) := goodIn_app (goodIn_of _ (by decide +kernel)) ggX8_leftBefore_X8_heldBetweenPasses
set_option maxRecDepth 20000 in
theorem ggX8_leftBefore_X8_leftBefore : GoodIn wsX8_leftBefore wsX8_leftBefore := goodIn_r _ [0, 1, 2, 3, 4, 5, 6, 7, 8, 9, 10, 11, 12, 13, 14, 15, 16, 17, 18, 19, 20, 21, 22, 23, 24, 25, 26, 27, 28, 29, 30, 31, 32, 33, 34, 35, 36, 37, 38, 39, 40, 41, 42, 43, 44, 45, 46, 47, 48, 49, 50, 51, 52, 53, 54, 55, 56, 57, 58, 59, 60, 61, 62, 63, 64, 65, 66, 67, 68, 69, 70, 71, 72] (by decide +kernel) (by decide +kernel)
set_option maxRecDepth 20000 in
theorem gX8_leftBefore_X8_leftBefore : GoodIn wsX8_leftBefore (va_wsS RX8 67 yX8_leftBefore wsX8_leftBefore) := goodIn_app (goodIn_of _ (by decide +kernel)) ggX8_leftBefore_X8_leftBefore
set_option maxRecDepth 100000 in
set_option maxHeartbeats 4000000 in
theorem ggX8_leftBefore_X8_partOf : GoodIn wsX8_leftBefore wsX8_partOf := goodIn_k ch_wsX8_leftBefore chm_wsX8_leftBefore _ [(2, 6), (0, 0), (0, 8), (0, 9), (0, 10), (0, 11), (2, 7), (2, 8), (2, 0), (2, 1), (1, 15), (1, 16), (1, 17), (1, 18), (1, 19), (1, 20), (1, 21), (1, 22), (1, 23), (3, 0), (3, 1), (3, 2), (3, 3), (3, 4), (3, 5), (3, 6), (3, 7), (3, 8), (3, 9), (3, 10), (3, 11)] (by rfl) (by decide +kernel)
set_option maxRecDepth 20000 in
theorem gX8_leftBefore_X8_partOf : GoodIn wsX8_leftBefore (va_wsS RX8 56 yX8_partOf wsX8_partOf) := goodIn_app (goodIn_of _ (by decide +kernel)) ggX8_leftBefore_X8_partOf
set_option maxRecDepth 100000 in
set_option maxHeartbeats 4000000 in
theorem ggX8_leftBefore_Jx4a65c_size_8abf5 : GoodIn wsX8_leftBefore wsJx4a65c_size_8abf5 := goodIn_k ch_wsX8_leftBefore chm_wsX8_leftBefore _ [(0, 20), (0, 21), (4, 0), (4, 1), (4, 2)] (by rfl) (by decide +kernel)
set_option maxRecDepth 20000 in
theorem gX8_leftBefore_Jx4a65c_size_8abf5 : GoodIn wsX8_leftBefore (wsV RX8 19 RJx4a65c yJx4a65c_size_8abf5 wsJx4a65c_size_8abf5) := goodIn_app (goodIn_of _ (by decide +kernel)) ggX8_leftBefore_Jx4a65c_size_8abf5
set_option maxRecDepth 100000 in
set_option maxHeartbeats 4000000 in
theorem ggX8_leftBefore_Jx4a65c_get_915e3 : GoodIn wsX8_leftBefore wsJx4a65c_get_915e3 := goodIn_k ch_wsX8_leftBefore chm_wsX8_leftBefore _ [(1, 1), (0, 21), (1, 2), (1, 3), (1, 4), (1, 5), (1, 6), (1, 7), (1, 8), (1, 9), (1, 10), (1, 11), (1, 12), (0, 19), (1, 13), (1, 14), (4, 0), (4, 1), (4, 2)] (by rfl) (by decide +kernel)
set_option maxRecDepth 20000 in
theorem gX8_leftBefore_Jx4a65c_get_915e3 : GoodIn wsX8_leftBefore (wsV RX8 25 RJx4a65c yJx4a65c_get_915e3 wsJx4a65c_get_915e3) := goodIn_app (goodIn_of _ (by decide +kernel)) ggX8_leftBefore_Jx4a65c_get_915e3
theorem dX8_leftBefore_0 : decode cX8_leftBefore 0 = .ok (.iload_n 2, 1) := by decide +kernel
theorem dX8_leftBefore_1 : decode cX8_leftBefore 1 = .ok (.bipush 10, 2) := by decide +kernel
theorem dX8_leftBefore_3 : decode cX8_leftBefore 3 = .ok (.if_icmp .le 5, 3) := by decide +kernel
theorem dX8_leftBefore_6 : decode cX8_leftBefore 6 = .ok (.lconst 0, 1) := by decide +kernel
theorem dX8_leftBefore_7 : decode cX8_leftBefore 7 = .ok (.lreturn, 1) := by decide +kernel
theorem dX8_leftBefore_8 : decode cX8_leftBefore 8 = .ok (.aload_n 0, 1) := by decide +kernel
theorem dX8_leftBefore_9 : decode cX8_leftBefore 9 = .ok (.invokestatic 71, 3) := by decide +kernel
theorem dX8_leftBefore_12 : decode cX8_leftBefore 12 = .ok (.lstore_n 3, 1) := by decide +kernel
theorem dX8_leftBefore_13 : decode cX8_leftBefore 13 = .ok (.aload_n 0, 1) := by decide +kernel
theorem dX8_leftBefore_14 : decode cX8_leftBefore 14 = .ok (.getfield 52, 3) := by decide +kernel
theorem dX8_leftBefore_17 : decode cX8_leftBefore 17 = .ok (.ifnull 25, 3) := by decide +kernel
theorem dX8_leftBefore_20 : decode cX8_leftBefore 20 = .ok (.lload_n 3, 1) := by decide +kernel
theorem dX8_leftBefore_21 : decode cX8_leftBefore 21 = .ok (.aload_n 0, 1) := by decide +kernel
theorem dX8_leftBefore_22 : decode cX8_leftBefore 22 = .ok (.lload_n 3, 1) := by decide +kernel
theorem dX8_leftBefore_23 : decode cX8_leftBefore 23 = .ok (.aload_n 0, 1) := by decide +kernel
theorem dX8_leftBefore_24 : decode cX8_leftBefore 24 = .ok (.getfield 52, 3) := by decide +kernel
theorem dX8_leftBefore_27 : decode cX8_leftBefore 27 = .ok (.aload_n 0, 1) := by decide +kernel
theorem dX8_leftBefore_28 : decode cX8_leftBefore 28 = .ok (.getfield 75, 3) := by decide +kernel
theorem dX8_leftBefore_31 : decode cX8_leftBefore 31 = .ok (.iload_n 2, 1) := by decide +kernel
theorem dX8_leftBefore_32 : decode cX8_leftBefore 32 = .ok (.iconst 1, 1) := by decide +kernel
theorem dX8_leftBefore_33 : decode cX8_leftBefore 33 = .ok (.iadd, 1) := by decide +kernel
theorem dX8_leftBefore_34 : decode cX8_leftBefore 34 = .ok (.invokestatic 67, 3) := by decide +kernel
theorem dX8_leftBefore_37 : decode cX8_leftBefore 37 = .ok (.invokestatic 56, 3) := by decide +kernel
theorem dX8_leftBefore_40 : decode cX8_leftBefore 40 = .ok (.ladd, 1) := by decide +kernel
theorem dX8_leftBefore_41 : decode cX8_leftBefore 41 = .ok (.lstore_n 3, 1) := by decide +kernel
theorem dX8_leftBefore_42 : decode cX8_leftBefore 42 = .ok (.iconst 0, 1) := by decide +kernel
theorem dX8_leftBefore_43 : decode cX8_leftBefore 43 = .ok (.istore 5, 2) := by decide +kernel
theorem dX8_leftBefore_45 : decode cX8_leftBefore 45 = .ok (.iload 5, 2) := by decide +kernel
theorem dX8_leftBefore_47 : decode cX8_leftBefore 47 = .ok (.aload_n 0, 1) := by decide +kernel
theorem dX8_leftBefore_48 : decode cX8_leftBefore 48 = .ok (.getfield 15, 3) := by decide +kernel
theorem dX8_leftBefore_51 : decode cX8_leftBefore 51 = .ok (.invokevirtual 19, 3) := by decide +kernel
theorem dX8_leftBefore_54 : decode cX8_leftBefore 54 = .ok (.if_icmp .ge 46, 3) := by decide +kernel
theorem dX8_leftBefore_57 : decode cX8_leftBefore 57 = .ok (.aload_n 0, 1) := by decide +kernel
theorem dX8_leftBefore_58 : decode cX8_leftBefore 58 = .ok (.getfield 15, 3) := by decide +kernel
theorem dX8_leftBefore_61 : decode cX8_leftBefore 61 = .ok (.iload 5, 2) := by decide +kernel
theorem dX8_leftBefore_63 : decode cX8_leftBefore 63 = .ok (.invokevirtual 25, 3) := by decide +kernel
theorem dX8_leftBefore_66 : decode cX8_leftBefore 66 = .ok (.checkcast 10, 3) := by decide +kernel
theorem dX8_leftBefore_69 : decode cX8_leftBefore 69 = .ok (.astore 6, 2) := by decide +kernel
theorem dX8_leftBefore_71 : decode cX8_leftBefore 71 = .ok (.aload 6, 2) := by decide +kernel
theorem dX8_leftBefore_73 : decode cX8_leftBefore 73 = .ok (.getfield 75, 3) := by decide +kernel
theorem dX8_leftBefore_76 : decode cX8_leftBefore 76 = .ok (.iload_n 1, 1) := by decide +kernel
theorem dX8_leftBefore_77 : decode cX8_leftBefore 77 = .ok (.if_icmp .ge 17, 3) := by decide +kernel
theorem dX8_leftBefore_80 : decode cX8_leftBefore 80 = .ok (.lload_n 3, 1) := by decide +kernel
theorem dX8_leftBefore_81 : decode cX8_leftBefore 81 = .ok (.aload 6, 2) := by decide +kernel
theorem dX8_leftBefore_83 : decode cX8_leftBefore 83 = .ok (.aload 6, 2) := by decide +kernel
theorem dX8_leftBefore_85 : decode cX8_leftBefore 85 = .ok (.invokestatic 71, 3) := by decide +kernel
theorem dX8_leftBefore_88 : decode cX8_leftBefore 88 = .ok (.lload_n 3, 1) := by decide +kernel
theorem dX8_leftBefore_89 : decode cX8_leftBefore 89 = .ok (.invokestatic 56, 3) := by decide +kernel
theorem dX8_leftBefore_92 : decode cX8_leftBefore 92 = .ok (.lsub, 1) := by decide +kernel
theorem dX8_leftBefore_93 : decode cX8_leftBefore 93 = .ok (.lstore_n 3, 1) := by decide +kernel
theorem dX8_leftBefore_94 : decode cX8_leftBefore 94 = .ok (.iinc 5 1, 3) := by decide +kernel
theorem dX8_leftBefore_97 : decode cX8_leftBefore 97 = .ok (.goto (-52), 3) := by decide +kernel
theorem dX8_leftBefore_100 : decode cX8_leftBefore 100 = .ok (.lload_n 3, 1) := by decide +kernel
theorem dX8_leftBefore_101 : decode cX8_leftBefore 101 = .ok (.lreturn, 1) := by decide +kernel
def ch_wsX8_heldBetweenPasses : List (List Cond) := [wsX8_heldBetweenPasses_r1, wsX8_heldBetweenPasses_r2, wsX00, wsJx4a65c0]
theorem chm_wsX8_heldBetweenPasses : ∀ c ∈ ch_wsX8_heldBetweenPasses, ∀ w ∈ c, w ∈ wsX8_heldBetweenPasses := List.forall_mem_cons.mpr ⟨(fun w h => (List.mem_cons_of_mem _ (List.mem_append_left _ (List.mem_append_left _ (List.mem_append_left _ h))))), List.forall_mem_cons.mpr ⟨(fun w h => (List.mem_cons_of_mem _ (List.mem_append_left _ (List.mem_append_left _ (List.mem_append_right _ h))))), List.forall_mem_cons.mpr ⟨(fun w h => (List.mem_cons_of_mem _ (List.mem_append_left _ (List.mem_append_right _ h)))), List.forall_mem_cons.mpr ⟨(fun w h => (List.mem_cons_of_mem _ (List.mem_append_right _ h))), fun _ h => absurd h List.not_mem_nil⟩⟩⟩⟩
set_option maxRecDepth 100000 in
set_option maxHeartbeats 4000000 in
theorem ggX8_heldBetweenPasses_X8_heldWithGifts : GoodIn wsX8_heldBetweenPasses wsX8_heldWithGifts := goodIn_k ch_wsX8_heldBetweenPasses chm_wsX8_heldBetweenPasses _ [(0, 7), (0, 8), (0, 9), (0, 10), (0, 0), (0, 1), (0, 2), (0, 3), (0, 11), (0, 12), (0, 13), (0, 14), (0, 15), (0, 16), (0, 17), (0, 18), (0, 19), (0, 20), (0, 21), (0, 22), (0, 23), (1, 0), (1, 1), (1, 2), (1, 3), (1, 4), (1, 5), (1, 6), (1, 7), (1, 8), (1, 9), (0, 4), (0, 5), (0, 6), (1, 10), (1, 11), (1, 12), (1, 13), (1, 14), (1, 15), (1, 16), (1, 17), (1, 18), (1, 19), (1, 20), (2, 0), (2, 1), (2, 2), (2, 3), (2, 4), (2, 5), (2, 6), (2, 7), (2, 8), (2, 9), (2, 10), (2, 11), (3, 0), (3, 1), (3, 2)] (by rfl) (by decide +kernel)
set_option maxRecDepth 20000 in
theorem gX8_heldBetweenPasses_X8_heldWithGifts : GoodIn wsX8_heldBetweenPasses (va_wsS RX8 78 yX8_heldWithGifts wsX8_heldWithGifts) := goodIn_app (goodIn_of _ (by decide +kernel)) ggX8_heldBetweenPasses_X8_heldWithGifts
set_option maxRecDepth 100000 in
set_option maxHeartbeats 4000000 in
theorem ggX8_heldBetweenPasses_X0_surplusOf : GoodIn wsX8_heldBetweenPasses wsX0_surplusOf := goodIn_k ch_wsX8_heldBetweenPasses chm_wsX8_heldBetweenPasses _ [(1, 14), (1, 15), (1, 16), (1, 17), (0, 1), (0, 2), (0, 3), (1, 18), (1, 19), (1, 20), (2, 0), (2, 1), (2, 2), (2, 3), (2, 4), (2, 5), (2, 6), (2, 7), (2, 8), (2, 9), (2, 10), (2, 11)] (by rfl) (by decide +kernel)
set_option maxRecDepth 20000 in
theorem gX8_heldBetweenPasses_X0_surplusOf : GoodIn wsX8_heldBetweenPasses (wsV RX8 42 RX0 yX0_surplusOf wsX0_surplusOf) := goodIn_app (goodIn_of _ (by decide +kernel)) ggX8_heldBetweenPasses_X0_surplusOf
theorem dX8_heldBetweenPasses_0 : decode cX8_heldBetweenPasses 0 = .ok (.aload_n 0, 1) := by decide +kernel
