theorem dL_areExposed_86 : decode cL_areExposed 86 = .ok (.iconst 0, 1) := by decide +kernel
theorem dL_areExposed_87 : decode cL_areExposed 87 = .ok (.istore_n 2, 1) := by decide +kernel
theorem dL_areExposed_88 : decode cL_areExposed 88 = .ok (.iinc 3 1, 3) := by decide +kernel
theorem dL_areExposed_91 : decode cL_areExposed 91 = .ok (.goto (-87), 3) := by decide +kernel
theorem dL_areExposed_94 : decode cL_areExposed 94 = .ok (.iload_n 2, 1) := by decide +kernel
theorem dL_areExposed_95 : decode cL_areExposed 95 = .ok (.ireturn, 1) := by decide +kernel
def ch_wsL_areLines : List (List Cond) := [wsL_areLines_r1, wsL_areLines_r2, wsX50, wsX90, wsX30, wsJx4a65c0]
theorem chm_wsL_areLines : ∀ c ∈ ch_wsL_areLines, ∀ w ∈ c, w ∈ wsL_areLines := List.forall_mem_cons.mpr ⟨(fun w h => (List.mem_cons_of_mem _ (List.mem_append_left _ (List.mem_append_left _ (List.mem_append_left _ (List.mem_append_left _ (List.mem_append_left _ (List.mem_append_left _ h)))))))), List.forall_mem_cons.mpr ⟨(fun w h => (List.mem_cons_of_mem _ (List.mem_append_left _ (List.mem_append_left _ (List.mem_append_left _ (List.mem_append_left _ (List.mem_append_left _ (List.mem_append_right _ h)))))))), List.forall_mem_cons.mpr ⟨(fun w h => (List.mem_cons_of_mem _ (List.mem_append_left _ (List.mem_append_left _ (List.mem_append_left _ (List.mem_append_left _ (List.mem_append_right _ h))))))), List.forall_mem_cons.mpr ⟨(fun w h => (List.mem_cons_of_mem _ (List.mem_append_left _ (List.mem_append_left _ (List.mem_append_left _ (List.mem_append_right _ h)))))), List.forall_mem_cons.mpr ⟨(fun w h => (List.mem_cons_of_mem _ (List.mem_append_left _ (List.mem_append_left _ (List.mem_append_right _ h))))), List.forall_mem_cons.mpr ⟨(fun w h => (List.mem_cons_of_mem _ (List.mem_append_left _ (List.mem_append_right _ h)))), fun _ h => absurd h List.not_mem_nil⟩⟩⟩⟩⟩⟩
set_option maxRecDepth 100000 in
set_option maxHeartbeats 4000000 in
theorem ggL_areLines_X9_drawn : GoodIn wsL_areLines wsX9_drawn := goodIn_ca (goodIn_k ch_wsL_areLines chm_wsL_areLines _ [(0, 4), (0, 5), (0, 6), (0, 7), (0, 8), (0, 3), (0, 9), (0, 10), (0, 11), (0, 12), (0, 13), (0, 14), (0, 15), (0, 16), (0, 17), (0, 18), (0, 19), (0, 20), (0, 21), (0, 22), (0, 23), (1, 0), (1, 1), (1, 2), (1, 3), (1, 4), (1, 5), (1, 6), (1, 7), (1, 8), (1, 9), (1, 10), (1, 11), (1, 12), (1, 13), (2, 0), (2, 1), (2, 2), (2, 3), (2, 4), (2, 5), (2, 6), (2, 7), (2, 8), (3, 0), (4, 0), (4, 1), (4, 2), (4, 3), (4, 4), (4, 5), (4, 6), (4, 7), (5, 0), (5, 1), (5, 2)] (by rfl) (by decide +kernel)) (goodIn_sub (fun _ h => List.mem_cons_of_mem _ (List.mem_append_right _ h)) (by decide +kernel))
set_option maxRecDepth 20000 in
theorem gL_areLines_X9_drawn : GoodIn wsL_areLines (wsV RL 51 RX9 yX9_drawn wsX9_drawn) := goodIn_app (goodIn_of _ (by decide +kernel)) ggL_areLines_X9_drawn
set_option maxRecDepth 100000 in
set_option maxHeartbeats 4000000 in
theorem ggL_areLines_X9_costOf : GoodIn wsL_areLines wsX9_costOf := goodIn_ca (goodIn_k ch_wsL_areLines chm_wsL_areLines _ [(1, 17), (1, 18), (0, 6), (0, 7), (0, 8), (0, 3), (0, 9), (0, 10), (0, 11), (0, 12), (0, 13), (0, 14), (0, 15), (0, 16), (0, 17), (0, 18), (0, 19), (0, 20), (0, 21), (0, 22), (0, 23), (1, 0), (1, 1), (1, 2), (1, 3), (1, 4), (1, 5), (1, 6), (1, 7), (1, 8), (1, 9), (1, 10), (1, 11), (1, 12), (1, 13), (2, 0), (2, 1), (2, 2), (2, 3), (2, 4), (2, 5), (2, 6), (2, 7), (2, 8), (3, 0), (4, 0), (4, 1), (4, 2), (4, 3), (4, 4), (4, 5), (4, 6), (4, 7), (5, 0), (5, 1), (5, 2)] (by rfl) (by decide +kernel)) (goodIn_sub (fun _ h => List.mem_cons_of_mem _ (List.mem_append_right _ h)) (by decide +kernel))
set_option maxRecDepth 20000 in
theorem gL_areLines_X9_costOf : GoodIn wsL_areLines (wsV RL 54 RX9 yX9_costOf wsX9_costOf) := goodIn_app (goodIn_of _ (by decide +kernel)) ggL_areLines_X9_costOf
theorem dL_areLines_0 : decode cL_areLines 0 = .ok (.iconst 1, 1) := by decide +kernel
theorem dL_areLines_1 : decode cL_areLines 1 = .ok (.istore_n 2, 1) := by decide +kernel
theorem dL_areLines_2 : decode cL_areLines 2 = .ok (.iconst 0, 1) := by decide +kernel
theorem dL_areLines_3 : decode cL_areLines 3 = .ok (.istore_n 3, 1) := by decide +kernel
theorem dL_areLines_4 : decode cL_areLines 4 = .ok (.iload_n 3, 1) := by decide +kernel
theorem dL_areLines_5 : decode cL_areLines 5 = .ok (.aload_n 1, 1) := by decide +kernel
theorem dL_areLines_6 : decode cL_areLines 6 = .ok (.iconst 1, 1) := by decide +kernel
theorem dL_areLines_7 : decode cL_areLines 7 = .ok (.iaload, 1) := by decide +kernel
theorem dL_areLines_8 : decode cL_areLines 8 = .ok (.if_icmp .ge 53, 3) := by decide +kernel
theorem dL_areLines_11 : decode cL_areLines 11 = .ok (.iload_n 2, 1) := by decide +kernel
theorem dL_areLines_12 : decode cL_areLines 12 = .ok (.ifCond .eq 41, 3) := by decide +kernel
theorem dL_areLines_15 : decode cL_areLines 15 = .ok (.aload_n 0, 1) := by decide +kernel
theorem dL_areLines_16 : decode cL_areLines 16 = .ok (.iload_n 3, 1) := by decide +kernel
theorem dL_areLines_17 : decode cL_areLines 17 = .ok (.invokevirtual 51, 3) := by decide +kernel
theorem dL_areLines_20 : decode cL_areLines 20 = .ok (.ifCond .lt 33, 3) := by decide +kernel
theorem dL_areLines_23 : decode cL_areLines 23 = .ok (.aload_n 0, 1) := by decide +kernel
theorem dL_areLines_24 : decode cL_areLines 24 = .ok (.iload_n 3, 1) := by decide +kernel
theorem dL_areLines_25 : decode cL_areLines 25 = .ok (.invokevirtual 51, 3) := by decide +kernel
theorem dL_areLines_28 : decode cL_areLines 28 = .ok (.aload_n 1, 1) := by decide +kernel
theorem dL_areLines_29 : decode cL_areLines 29 = .ok (.iconst 2, 1) := by decide +kernel
theorem dL_areLines_30 : decode cL_areLines 30 = .ok (.iload_n 3, 1) := by decide +kernel
theorem dL_areLines_31 : decode cL_areLines 31 = .ok (.imul, 1) := by decide +kernel
theorem dL_areLines_32 : decode cL_areLines 32 = .ok (.bipush 23, 2) := by decide +kernel
theorem dL_areLines_34 : decode cL_areLines 34 = .ok (.iadd, 1) := by decide +kernel
theorem dL_areLines_35 : decode cL_areLines 35 = .ok (.iaload, 1) := by decide +kernel
theorem dL_areLines_36 : decode cL_areLines 36 = .ok (.if_icmp .gt 17, 3) := by decide +kernel
theorem dL_areLines_39 : decode cL_areLines 39 = .ok (.aload_n 0, 1) := by decide +kernel
theorem dL_areLines_40 : decode cL_areLines 40 = .ok (.iload_n 3, 1) := by decide +kernel
theorem dL_areLines_41 : decode cL_areLines 41 = .ok (.invokevirtual 54, 3) := by decide +kernel
theorem dL_areLines_44 : decode cL_areLines 44 = .ok (.lconst 0, 1) := by decide +kernel
theorem dL_areLines_45 : decode cL_areLines 45 = .ok (.lcmp, 1) := by decide +kernel
theorem dL_areLines_46 : decode cL_areLines 46 = .ok (.ifCond .lt 7, 3) := by decide +kernel
theorem dL_areLines_49 : decode cL_areLines 49 = .ok (.iconst 1, 1) := by decide +kernel
theorem dL_areLines_50 : decode cL_areLines 50 = .ok (.goto 4, 3) := by decide +kernel
theorem dL_areLines_53 : decode cL_areLines 53 = .ok (.iconst 0, 1) := by decide +kernel
theorem dL_areLines_54 : decode cL_areLines 54 = .ok (.istore_n 2, 1) := by decide +kernel
theorem dL_areLines_55 : decode cL_areLines 55 = .ok (.iinc 3 1, 3) := by decide +kernel
theorem dL_areLines_58 : decode cL_areLines 58 = .ok (.goto (-54), 3) := by decide +kernel
theorem dL_areLines_61 : decode cL_areLines 61 = .ok (.iload_n 2, 1) := by decide +kernel
theorem dL_areLines_62 : decode cL_areLines 62 = .ok (.ireturn, 1) := by decide +kernel
def ch_wsL_isSwept : List (List Cond) := [wsL_isSwept_r1, wsL_isSwept_r2, wsL_isSwept_r3, wsL_isSwept_r4, wsX90, wsX30, wsJx4a65c0, wsX00]
theorem chm_wsL_isSwept : ∀ c ∈ ch_wsL_isSwept, ∀ w ∈ c, w ∈ wsL_isSwept := List.forall_mem_cons.mpr ⟨(fun w h => (List.mem_cons_of_mem _ (List.mem_append_left _ (List.mem_append_left _ (List.mem_append_left _ (List.mem_append_left _ (List.mem_append_left _ (List.mem_append_left _ h)))))))), List.forall_mem_cons.mpr ⟨(fun w h => (List.mem_cons_of_mem _ (List.mem_append_left _ (List.mem_append_left _ (List.mem_append_left _ (List.mem_append_left _ (List.mem_append_left _ (List.mem_append_right _ (List.mem_append_left _ h))))))))), List.forall_mem_cons.mpr ⟨(fun w h => (List.mem_cons_of_mem _ (List.mem_append_left _ (List.mem_append_left _ (List.mem_append_left _ (List.mem_append_left _ (List.mem_append_left _ (List.mem_append_right _ (List.mem_append_right _ (List.mem_append_left _ h)))))))))), List.forall_mem_cons.mpr ⟨(fun w h => (List.mem_cons_of_mem _ (List.mem_append_left _ (List.mem_append_left _ (List.mem_append_left _ (List.mem_append_left _ (List.mem_append_left _ (List.mem_append_right _ (List.mem_append_right _ (List.mem_append_right _ h)))))))))), List.forall_mem_cons.mpr ⟨(fun w h => (List.mem_cons_of_mem _ (List.mem_append_left _ (List.mem_append_left _ (List.mem_append_left _ (List.mem_append_left _ (List.mem_append_right _ h))))))), List.forall_mem_cons.mpr ⟨(fun w h => (List.mem_cons_of_mem _ (List.mem_append_left _ (List.mem_append_left _ (List.mem_append_left _ (List.mem_append_right _ h)))))), List.forall_mem_cons.mpr ⟨(fun w h => (List.mem_cons_of_mem _ (List.mem_append_left _ (List.mem_append_left _ (List.mem_append_right _ h))))), List.forall_mem_cons.mpr ⟨(fun w h => (List.mem_cons_of_mem _ (List.mem_append_left _ (List.mem_append_right _ h)))), fun _ h => absurd h List.not_mem_nil⟩⟩⟩⟩⟩⟩⟩⟩
set_option maxRecDepth 100000 in
set_option maxHeartbeats 4000000 in
theorem ggL_isSwept_X9_afterSweep : GoodIn wsL_isSwept wsX9_afterSweep := goodIn_ca (goodIn_k ch_wsL_isSwept chm_wsL_isSwept _ [(0, 4), (0, 5), (0, 6), (0, 7), (0, 3), (0, 8), (0, 9), (0, 10), (0, 11), (0, 12), (0, 13), (0, 14), (0, 15), (0, 16), (0, 17), (0, 18), (0, 19), (0, 20), (0, 21), (0, 22), (0, 23), (1, 0), (1, 1), (1, 2), (1, 3), (1, 4), (1, 5), (1, 6), (1, 7), (1, 8), (1, 9), (1, 10), (1, 11), (1, 12), (1, 13), (1, 14), (1, 15), (1, 16), (1, 17), (1, 18), (1, 19), (1, 20), (1, 21), (1, 22), (1, 23), (2, 0), (2, 1), (2, 2), (2, 3), (2, 4), (2, 5), (2, 6), (2, 7), (2, 8), (2, 9), (2, 10), (2, 11), (2, 12), (2, 13), (2, 14), (2, 15), (2, 16), (2, 17), (2, 18), (2, 19), (2, 20), (2, 21), (2, 22), (2, 23), (3, 0), (3, 1), (3, 2), (3, 3), (3, 4), (4, 0), (5, 0), (5, 1), (5, 2), (5, 3), (5, 4), (5, 5), (5, 6), (5, 7), (6, 0), (6, 1), (6, 2), (7, 0), (7, 1), (7, 2), (7, 3), (7, 4), (7, 5), (7, 6), (7, 7), (7, 8), (7, 9), (7, 10), (7, 11)] (by rfl) (by decide +kernel)) (goodIn_sub (fun _ h => List.mem_cons_of_mem _ (List.mem_append_right _ h)) (by decide +kernel))
set_option maxRecDepth 20000 in
theorem gL_isSwept_X9_afterSweep : GoodIn wsL_isSwept (wsV RL 32 RX9 yX9_afterSweep wsX9_afterSweep) := goodIn_app (goodIn_of _ (by decide +kernel)) ggL_isSwept_X9_afterSweep
set_option maxRecDepth 100000 in
set_option maxHeartbeats 4000000 in
theorem ggL_isSwept_L_parent : GoodIn wsL_isSwept wsL_parent := goodIn_k ch_wsL_isSwept chm_wsL_isSwept _ [(3, 8)] (by rfl) (by decide +kernel)
set_option maxRecDepth 20000 in
theorem gL_isSwept_L_parent : GoodIn wsL_isSwept (va_wsS RL 10 yL_parent wsL_parent) := goodIn_app (goodIn_of _ (by decide +kernel)) ggL_isSwept_L_parent
set_option maxRecDepth 100000 in
set_option maxHeartbeats 4000000 in
theorem ggL_isSwept_X9_balance : GoodIn wsL_isSwept wsX9_balance := goodIn_ca (goodIn_k ch_wsL_isSwept chm_wsL_isSwept _ [(3, 12), (3, 13), (0, 5), (0, 6), (0, 7), (0, 3), (0, 8), (0, 9), (0, 10), (0, 11), (0, 12), (0, 13), (0, 14), (0, 15), (0, 16), (0, 17), (0, 18), (0, 19), (0, 20), (0, 21), (0, 22), (0, 23), (1, 0), (1, 1), (1, 2), (1, 3), (1, 4), (1, 5), (1, 6), (1, 7), (1, 8), (1, 9), (1, 10), (1, 11), (1, 12), (7, 0), (7, 1), (7, 2), (7, 3), (7, 4), (7, 5), (7, 6), (7, 7), (7, 8), (7, 9), (7, 10), (7, 11), (4, 0), (5, 0), (5, 1), (5, 2), (5, 3), (5, 4), (5, 5), (5, 6), (5, 7), (6, 0), (6, 1), (6, 2)] (by rfl) (by decide +kernel)) (goodIn_sub (fun _ h => List.mem_cons_of_mem _ (List.mem_append_right _ h)) (by decide +kernel))
set_option maxRecDepth 20000 in
theorem gL_isSwept_X9_balance : GoodIn wsL_isSwept (wsV RL 22 RX9 yX9_balance wsX9_balance) := goodIn_app (goodIn_of _ (by decide +kernel)) ggL_isSwept_X9_balance
set_option maxRecDepth 100000 in
set_option maxHeartbeats 4000000 in
theorem ggL_isSwept_L_parentIsShort : GoodIn wsL_isSwept wsL_parentIsShort := goodIn_ca (goodIn_k ch_wsL_isSwept chm_wsL_isSwept _ [(3, 16), (0, 0), (0, 1), (0, 2), (0, 3), (0, 4), (0, 5), (0, 6), (0, 7), (0, 8), (0, 9), (0, 10), (0, 11), (0, 12), (0, 13), (0, 14), (0, 15), (0, 16), (0, 17), (0, 18), (0, 19), (0, 20), (0, 21), (0, 22), (0, 23), (1, 0), (1, 1), (1, 2), (1, 3), (1, 4), (1, 5), (1, 6), (1, 7), (1, 8), (1, 9), (1, 10), (1, 11), (1, 12), (1, 13), (1, 14), (1, 15), (1, 16), (1, 17), (1, 18), (1, 19), (1, 20), (1, 21), (1, 22), (1, 23), (2, 0), (2, 1), (2, 2), (2, 3), (2, 4), (2, 5), (2, 6), (2, 7), (2, 8), (2, 9), (2, 10), (2, 11), (2, 12), (2, 13), (2, 14), (2, 15), (2, 16), (2, 17), (2, 18), (2, 19), (2, 20), (2, 21), (2, 22), (2, 23), (3, 0), (3, 1), (3, 2), (3, 3), (3, 4), (4, 0), (5, 0), (5, 1), (5, 2), (5, 3), (5, 4), (5, 5), (5, 6), (5, 7), (6, 0), (6, 1), (6, 2), (7, 0), (7, 1), (7, 2), (7, 3), (7, 4), (7, 5), (7, 6), (7, 7), (7, 8), (7, 9), (7, 10), (7, 11)] (by rfl) (by decide +kernel)) (goodIn_sub (fun _ h => List.mem_cons_of_mem _ (List.mem_append_right _ h)) (by decide +kernel))
set_option maxRecDepth 20000 in
theorem gL_isSwept_L_parentIsShort : GoodIn wsL_isSwept (va_wsS RL 57 yL_parentIsShort wsL_parentIsShort) := goodIn_app (goodIn_of _ (by decide +kernel)) ggL_isSwept_L_parentIsShort
theorem dL_isSwept_0 : decode cL_isSwept 0 = .ok (.iconst 1, 1) := by decide +kernel
theorem dL_isSwept_1 : decode cL_isSwept 1 = .ok (.istore_n 2, 1) := by decide +kernel
theorem dL_isSwept_2 : decode cL_isSwept 2 = .ok (.iconst 0, 1) := by decide +kernel
theorem dL_isSwept_3 : decode cL_isSwept 3 = .ok (.istore_n 3, 1) := by decide +kernel
theorem dL_isSwept_4 : decode cL_isSwept 4 = .ok (.iload_n 3, 1) := by decide +kernel
theorem dL_isSwept_5 : decode cL_isSwept 5 = .ok (.aload_n 1, 1) := by decide +kernel
theorem dL_isSwept_6 : decode cL_isSwept 6 = .ok (.iconst 0, 1) := by decide +kernel
theorem dL_isSwept_7 : decode cL_isSwept 7 = .ok (.iaload, 1) := by decide +kernel
theorem dL_isSwept_8 : decode cL_isSwept 8 = .ok (.if_icmp .ge 251, 3) := by decide +kernel
theorem dL_isSwept_11 : decode cL_isSwept 11 = .ok (.aload_n 1, 1) := by decide +kernel
theorem dL_isSwept_12 : decode cL_isSwept 12 = .ok (.iconst 3, 1) := by decide +kernel
theorem dL_isSwept_13 : decode cL_isSwept 13 = .ok (.iload_n 3, 1) := by decide +kernel
theorem dL_isSwept_14 : decode cL_isSwept 14 = .ok (.imul, 1) := by decide +kernel
theorem dL_isSwept_15 : decode cL_isSwept 15 = .ok (.bipush 34, 2) := by decide +kernel
theorem dL_isSwept_17 : decode cL_isSwept 17 = .ok (.iadd, 1) := by decide +kernel
theorem dL_isSwept_18 : decode cL_isSwept 18 = .ok (.iaload, 1) := by decide +kernel
theorem dL_isSwept_19 : decode cL_isSwept 19 = .ok (.istore 4, 2) := by decide +kernel
theorem dL_isSwept_21 : decode cL_isSwept 21 = .ok (.aload_n 0, 1) := by decide +kernel
theorem dL_isSwept_22 : decode cL_isSwept 22 = .ok (.iload_n 3, 1) := by decide +kernel
theorem dL_isSwept_23 : decode cL_isSwept 23 = .ok (.invokevirtual 32, 3) := by decide +kernel
theorem dL_isSwept_26 : decode cL_isSwept 26 = .ok (.lstore 5, 2) := by decide +kernel
theorem dL_isSwept_28 : decode cL_isSwept 28 = .ok (.iconst 0, 1) := by decide +kernel
theorem dL_isSwept_29 : decode cL_isSwept 29 = .ok (.istore 7, 2) := by decide +kernel
theorem dL_isSwept_31 : decode cL_isSwept 31 = .ok (.iconst 0, 1) := by decide +kernel
theorem dL_isSwept_32 : decode cL_isSwept 32 = .ok (.istore 8, 2) := by decide +kernel
theorem dL_isSwept_34 : decode cL_isSwept 34 = .ok (.iload 8, 2) := by decide +kernel
theorem dL_isSwept_36 : decode cL_isSwept 36 = .ok (.aload_n 1, 1) := by decide +kernel
theorem dL_isSwept_37 : decode cL_isSwept 37 = .ok (.iconst 0, 1) := by decide +kernel
theorem dL_isSwept_38 : decode cL_isSwept 38 = .ok (.iaload, 1) := by decide +kernel
theorem dL_isSwept_39 : decode cL_isSwept 39 = .ok (.if_icmp .ge 31, 3) := by decide +kernel
theorem dL_isSwept_42 : decode cL_isSwept 42 = .ok (.iload 7, 2) := by decide +kernel
theorem dL_isSwept_44 : decode cL_isSwept 44 = .ok (.ifCond .ne 13, 3) := by decide +kernel
theorem dL_isSwept_47 : decode cL_isSwept 47 = .ok (.aload_n 1, 1) := by decide +kernel
theorem dL_isSwept_48 : decode cL_isSwept 48 = .ok (.iload 8, 2) := by decide +kernel
theorem dL_isSwept_50 : decode cL_isSwept 50 = .ok (.invokestatic 10, 3) := by decide +kernel
theorem dL_isSwept_53 : decode cL_isSwept 53 = .ok (.iload_n 3, 1) := by decide +kernel
theorem dL_isSwept_54 : decode cL_isSwept 54 = .ok (.if_icmp .ne 7, 3) := by decide +kernel
theorem dL_isSwept_57 : decode cL_isSwept 57 = .ok (.iconst 1, 1) := by decide +kernel
theorem dL_isSwept_58 : decode cL_isSwept 58 = .ok (.goto 4, 3) := by decide +kernel
theorem dL_isSwept_61 : decode cL_isSwept 61 = .ok (.iconst 0, 1) := by decide +kernel
theorem dL_isSwept_62 : decode cL_isSwept 62 = .ok (.istore 7, 2) := by decide +kernel
theorem dL_isSwept_64 : decode cL_isSwept 64 = .ok (.iinc 8 1, 3) := by decide +kernel
theorem dL_isSwept_67 : decode cL_isSwept 67 = .ok (.goto (-33), 3) := by decide +kernel
theorem dL_isSwept_70 : decode cL_isSwept 70 = .ok (.aload_n 1, 1) := by decide +kernel
theorem dL_isSwept_71 : decode cL_isSwept 71 = .ok (.iload_n 3, 1) := by decide +kernel
theorem dL_isSwept_72 : decode cL_isSwept 72 = .ok (.invokestatic 10, 3) := by decide +kernel
theorem dL_isSwept_75 : decode cL_isSwept 75 = .ok (.ifCond .lt 178, 3) := by decide +kernel
theorem dL_isSwept_78 : decode cL_isSwept 78 = .ok (.iload 7, 2) := by decide +kernel
theorem dL_isSwept_80 : decode cL_isSwept 80 = .ok (.ifCond .ne 173, 3) := by decide +kernel
theorem dL_isSwept_83 : decode cL_isSwept 83 = .ok (.lload 5, 2) := by decide +kernel
theorem dL_isSwept_85 : decode cL_isSwept 85 = .ok (.aload_n 1, 1) := by decide +kernel
theorem dL_isSwept_86 : decode cL_isSwept 86 = .ok (.iconst 3, 1) := by decide +kernel
theorem dL_isSwept_87 : decode cL_isSwept 87 = .ok (.iload_n 3, 1) := by decide +kernel
theorem dL_isSwept_88 : decode cL_isSwept 88 = .ok (.imul, 1) := by decide +kernel
theorem dL_isSwept_89 : decode cL_isSwept 89 = .ok (.bipush 35, 2) := by decide +kernel
theorem dL_isSwept_91 : decode cL_isSwept 91 = .ok (.iadd, 1) := by decide +kernel
theorem dL_isSwept_92 : decode cL_isSwept 92 = .ok (.iaload, 1) := by decide +kernel
theorem dL_isSwept_93 : decode cL_isSwept 93 = .ok (.i2l, 1) := by decide +kernel
theorem dL_isSwept_94 : decode cL_isSwept 94 = .ok (.lsub, 1) := by decide +kernel
theorem dL_isSwept_95 : decode cL_isSwept 95 = .ok (.lstore 8, 2) := by decide +kernel
theorem dL_isSwept_97 : decode cL_isSwept 97 = .ok (.iload_n 2, 1) := by decide +kernel
theorem dL_isSwept_98 : decode cL_isSwept 98 = .ok (.ifCond .eq 111, 3) := by decide +kernel
theorem dL_isSwept_101 : decode cL_isSwept 101 = .ok (.iload 4, 2) := by decide +kernel
theorem dL_isSwept_103 : decode cL_isSwept 103 = .ok (.iconst 1, 1) := by decide +kernel
theorem dL_isSwept_104 : decode cL_isSwept 104 = .ok (.if_icmp .eq 9, 3) := by decide +kernel
theorem dL_isSwept_107 : decode cL_isSwept 107 = .ok (.iload 4, 2) := by decide +kernel
theorem dL_isSwept_109 : decode cL_isSwept 109 = .ok (.iconst 2, 1) := by decide +kernel
theorem dL_isSwept_110 : decode cL_isSwept 110 = .ok (.if_icmp .ne 13, 3) := by decide +kernel
theorem dL_isSwept_113 : decode cL_isSwept 113 = .ok (.lload 8, 2) := by decide +kernel
theorem dL_isSwept_115 : decode cL_isSwept 115 = .ok (.lconst 0, 1) := by decide +kernel
theorem dL_isSwept_116 : decode cL_isSwept 116 = .ok (.lcmp, 1) := by decide +kernel
theorem dL_isSwept_117 : decode cL_isSwept 117 = .ok (.ifCond .gt 92, 3) := by decide +kernel
theorem dL_isSwept_120 : decode cL_isSwept 120 = .ok (.goto 19, 3) := by decide +kernel
theorem dL_isSwept_123 : decode cL_isSwept 123 = .ok (.iload 4, 2) := by decide +kernel
theorem dL_isSwept_125 : decode cL_isSwept 125 = .ok (.ifCond .ne 14, 3) := by decide +kernel
theorem dL_isSwept_128 : decode cL_isSwept 128 = .ok (.lload 5, 2) := by decide +kernel
theorem dL_isSwept_130 : decode cL_isSwept 130 = .ok (.aload_n 0, 1) := by decide +kernel
theorem dL_isSwept_131 : decode cL_isSwept 131 = .ok (.iload_n 3, 1) := by decide +kernel
theorem dL_isSwept_132 : decode cL_isSwept 132 = .ok (.invokevirtual 22, 3) := by decide +kernel
theorem dL_isSwept_135 : decode cL_isSwept 135 = .ok (.lcmp, 1) := by decide +kernel
theorem dL_isSwept_136 : decode cL_isSwept 136 = .ok (.ifCond .ne 73, 3) := by decide +kernel
theorem dL_isSwept_139 : decode cL_isSwept 139 = .ok (.iload 4, 2) := by decide +kernel
theorem dL_isSwept_141 : decode cL_isSwept 141 = .ok (.iconst 2, 1) := by decide +kernel
theorem dL_isSwept_142 : decode cL_isSwept 142 = .ok (.if_icmp .eq 8, 3) := by decide +kernel
theorem dL_isSwept_145 : decode cL_isSwept 145 = .ok (.iload 4, 2) := by decide +kernel
theorem dL_isSwept_147 : decode cL_isSwept 147 = .ok (.ifCond .ne 17, 3) := by decide +kernel
theorem dL_isSwept_150 : decode cL_isSwept 150 = .ok (.lload 5, 2) := by decide +kernel
theorem dL_isSwept_152 : decode cL_isSwept 152 = .ok (.aload_n 0, 1) := by decide +kernel
theorem dL_isSwept_153 : decode cL_isSwept 153 = .ok (.iload_n 3, 1) := by decide +kernel
theorem dL_isSwept_154 : decode cL_isSwept 154 = .ok (.invokevirtual 22, 3) := by decide +kernel
theorem dL_isSwept_157 : decode cL_isSwept 157 = .ok (.lcmp, 1) := by decide +kernel
theorem dL_isSwept_158 : decode cL_isSwept 158 = .ok (.ifCond .gt 51, 3) := by decide +kernel
theorem dL_isSwept_161 : decode cL_isSwept 161 = .ok (.goto 20, 3) := by decide +kernel
theorem dL_isSwept_164 : decode cL_isSwept 164 = .ok (.iload 4, 2) := by decide +kernel
theorem dL_isSwept_166 : decode cL_isSwept 166 = .ok (.iconst 1, 1) := by decide +kernel
theorem dL_isSwept_167 : decode cL_isSwept 167 = .ok (.if_icmp .eq 14, 3) := by decide +kernel
theorem dL_isSwept_170 : decode cL_isSwept 170 = .ok (.lload 5, 2) := by decide +kernel
theorem dL_isSwept_172 : decode cL_isSwept 172 = .ok (.aload_n 0, 1) := by decide +kernel
theorem dL_isSwept_173 : decode cL_isSwept 173 = .ok (.iload_n 3, 1) := by decide +kernel
theorem dL_isSwept_174 : decode cL_isSwept 174 = .ok (.invokevirtual 22, 3) := by decide +kernel
theorem dL_isSwept_177 : decode cL_isSwept 177 = .ok (.lcmp, 1) := by decide +kernel
theorem dL_isSwept_178 : decode cL_isSwept 178 = .ok (.ifCond .lt 31, 3) := by decide +kernel
theorem dL_isSwept_181 : decode cL_isSwept 181 = .ok (.iload 4, 2) := by decide +kernel
theorem dL_isSwept_183 : decode cL_isSwept 183 = .ok (.iconst 3, 1) := by decide +kernel
theorem dL_isSwept_184 : decode cL_isSwept 184 = .ok (.if_icmp .ne 21, 3) := by decide +kernel
theorem dL_isSwept_187 : decode cL_isSwept 187 = .ok (.lload 8, 2) := by decide +kernel
theorem dL_isSwept_189 : decode cL_isSwept 189 = .ok (.lconst 0, 1) := by decide +kernel
theorem dL_isSwept_190 : decode cL_isSwept 190 = .ok (.lcmp, 1) := by decide +kernel
theorem dL_isSwept_191 : decode cL_isSwept 191 = .ok (.ifCond .le 14, 3) := by decide +kernel
theorem dL_isSwept_194 : decode cL_isSwept 194 = .ok (.lload 5, 2) := by decide +kernel
theorem dL_isSwept_196 : decode cL_isSwept 196 = .ok (.aload_n 0, 1) := by decide +kernel
theorem dL_isSwept_197 : decode cL_isSwept 197 = .ok (.iload_n 3, 1) := by decide +kernel
theorem dL_isSwept_198 : decode cL_isSwept 198 = .ok (.invokevirtual 22, 3) := by decide +kernel
theorem dL_isSwept_201 : decode cL_isSwept 201 = .ok (.lcmp, 1) := by decide +kernel
theorem dL_isSwept_202 : decode cL_isSwept 202 = .ok (.ifCond .ne 7, 3) := by decide +kernel
theorem dL_isSwept_205 : decode cL_isSwept 205 = .ok (.iconst 1, 1) := by decide +kernel
theorem dL_isSwept_206 : decode cL_isSwept 206 = .ok (.goto 4, 3) := by decide +kernel
theorem dL_isSwept_209 : decode cL_isSwept 209 = .ok (.iconst 0, 1) := by decide +kernel
theorem dL_isSwept_210 : decode cL_isSwept 210 = .ok (.istore_n 2, 1) := by decide +kernel
theorem dL_isSwept_211 : decode cL_isSwept 211 = .ok (.iload_n 2, 1) := by decide +kernel
theorem dL_isSwept_212 : decode cL_isSwept 212 = .ok (.ifCond .eq 39, 3) := by decide +kernel
theorem dL_isSwept_215 : decode cL_isSwept 215 = .ok (.iload 4, 2) := by decide +kernel
theorem dL_isSwept_217 : decode cL_isSwept 217 = .ok (.iconst 1, 1) := by decide +kernel
theorem dL_isSwept_218 : decode cL_isSwept 218 = .ok (.if_icmp .eq 9, 3) := by decide +kernel
theorem dL_isSwept_221 : decode cL_isSwept 221 = .ok (.iload 4, 2) := by decide +kernel
theorem dL_isSwept_223 : decode cL_isSwept 223 = .ok (.iconst 3, 1) := by decide +kernel
theorem dL_isSwept_224 : decode cL_isSwept 224 = .ok (.if_icmp .ne 23, 3) := by decide +kernel
theorem dL_isSwept_227 : decode cL_isSwept 227 = .ok (.lload 8, 2) := by decide +kernel
theorem dL_isSwept_229 : decode cL_isSwept 229 = .ok (.lconst 0, 1) := by decide +kernel
theorem dL_isSwept_230 : decode cL_isSwept 230 = .ok (.lcmp, 1) := by decide +kernel
theorem dL_isSwept_231 : decode cL_isSwept 231 = .ok (.ifCond .ge 16, 3) := by decide +kernel
theorem dL_isSwept_234 : decode cL_isSwept 234 = .ok (.aload_n 0, 1) := by decide +kernel
theorem dL_isSwept_235 : decode cL_isSwept 235 = .ok (.aload_n 1, 1) := by decide +kernel
theorem dL_isSwept_236 : decode cL_isSwept 236 = .ok (.aload_n 1, 1) := by decide +kernel
theorem dL_isSwept_237 : decode cL_isSwept 237 = .ok (.iload_n 3, 1) := by decide +kernel
theorem dL_isSwept_238 : decode cL_isSwept 238 = .ok (.invokestatic 10, 3) := by decide +kernel
theorem dL_isSwept_241 : decode cL_isSwept 241 = .ok (.invokestatic 57, 3) := by decide +kernel
theorem dL_isSwept_244 : decode cL_isSwept 244 = .ok (.ifCond .eq 7, 3) := by decide +kernel
theorem dL_isSwept_247 : decode cL_isSwept 247 = .ok (.iconst 1, 1) := by decide +kernel
theorem dL_isSwept_248 : decode cL_isSwept 248 = .ok (.goto 4, 3) := by decide +kernel
theorem dL_isSwept_251 : decode cL_isSwept 251 = .ok (.iconst 0, 1) := by decide +kernel
theorem dL_isSwept_252 : decode cL_isSwept 252 = .ok (.istore_n 2, 1) := by decide +kernel
theorem dL_isSwept_253 : decode cL_isSwept 253 = .ok (.iinc 3 1, 3) := by decide +kernel
theorem dL_isSwept_256 : decode cL_isSwept 256 = .ok (.goto (-252), 3) := by decide +kernel
theorem dL_isSwept_259 : decode cL_isSwept 259 = .ok (.iload_n 2, 1) := by decide +kernel
theorem dL_isSwept_260 : decode cL_isSwept 260 = .ok (.ireturn, 1) := by decide +kernel
def ch_wsL_parentIsShort : List (List Cond) := [wsL_parentIsShort_r1, wsL_parentIsShort_r2, wsL_parentIsShort_r3, wsL_parentIsShort_r4, wsX90, wsX30, wsJx4a65c0, wsX00]
theorem chm_wsL_parentIsShort : ∀ c ∈ ch_wsL_parentIsShort, ∀ w ∈ c, w ∈ wsL_parentIsShort := List.forall_mem_cons.mpr ⟨(fun w h => (List.mem_cons_of_mem _ (List.mem_append_left _ (List.mem_append_left _ (List.mem_append_left _ (List.mem_append_left _ (List.mem_append_left _ (List.mem_append_left _ h)))))))), List.forall_mem_cons.mpr ⟨(fun w h => (List.mem_cons_of_mem _ (List.mem_append_left _ (List.mem_append_left _ (List.mem_append_left _ (List.mem_append_left _ (List.mem_append_left _ (List.mem_append_right _ (List.mem_append_left _ h))))))))), List.forall_mem_cons.mpr ⟨(fun w h => (List.mem_cons_of_mem _ (List.mem_append_left _ (List.mem_append_left _ (List.mem_append_left _ (List.mem_append_left _ (List.mem_append_left _ (List.mem_append_right _ (List.mem_append_right _ (List.mem_append_left _ h)))))))))), List.forall_mem_cons.mpr ⟨(fun w h => (List.mem_cons_of_mem _ (List.mem_append_left _ (List.mem_append_left _ (List.mem_append_left _ (List.mem_append_left _ (List.mem_append_left _ (List.mem_append_right _ (List.mem_append_right _ (List.mem_append_right _ h)))))))))), List.forall_mem_cons.mpr ⟨(fun w h => (List.mem_cons_of_mem _ (List.mem_append_left _ (List.mem_append_left _ (List.mem_append_left _ (List.mem_append_left _ (List.mem_append_right _ h))))))), List.forall_mem_cons.mpr ⟨(fun w h => (List.mem_cons_of_mem _ (List.mem_append_left _ (List.mem_append_left _ (List.mem_append_left _ (List.mem_append_right _ h)))))), List.forall_mem_cons.mpr ⟨(fun w h => (List.mem_cons_of_mem _ (List.mem_append_left _ (List.mem_append_left _ (List.mem_append_right _ h))))), List.forall_mem_cons.mpr ⟨(fun w h => (List.mem_cons_of_mem _ (List.mem_append_left _ (List.mem_append_right _ h)))), fun _ h => absurd h List.not_mem_nil⟩⟩⟩⟩⟩⟩⟩⟩
set_option maxRecDepth 100000 in
set_option maxHeartbeats 4000000 in
theorem ggL_parentIsShort_X9_afterSweep : GoodIn wsL_parentIsShort wsX9_afterSweep := goodIn_ca (goodIn_k ch_wsL_parentIsShort chm_wsL_parentIsShort _ [(0, 4), (0, 5), (0, 6), (0, 7), (0, 3), (0, 8), (0, 9), (0, 10), (0, 11), (0, 12), (0, 13), (0, 14), (0, 15), (0, 16), (0, 17), (0, 18), (0, 19), (0, 20), (0, 21), (0, 22), (0, 23), (1, 0), (1, 1), (1, 2), (1, 3), (1, 4), (1, 5), (1, 6), (1, 7), (1, 8), (1, 9), (1, 10), (1, 11), (1, 12), (1, 13), (1, 14), (1, 15), (1, 16), (1, 17), (1, 18), (1, 19), (1, 20), (1, 21), (1, 22), (1, 23), (2, 0), (2, 1), (2, 2), (2, 3), (2, 4), (2, 5), (2, 6), (2, 7), (2, 8), (2, 9), (2, 10), (2, 11), (2, 12), (2, 13), (2, 14), (2, 15), (2, 16), (2, 17), (2, 18), (2, 19), (2, 20), (2, 21), (2, 22), (2, 23), (3, 0), (3, 1), (3, 2), (3, 3), (3, 4), (4, 0), (5, 0), (5, 1), (5, 2), (5, 3), (5, 4), (5, 5), (5, 6), (5, 7), (6, 0), (6, 1), (6, 2), (7, 0), (7, 1), (7, 2), (7, 3), (7, 4), (7, 5), (7, 6), (7, 7), (7, 8), (7, 9), (7, 10), (7, 11)] (by rfl) (by decide +kernel)) (goodIn_sub (fun _ h => List.mem_cons_of_mem _ (List.mem_append_right _ h)) (by decide +kernel))
set_option maxRecDepth 20000 in
theorem gL_parentIsShort_X9_afterSweep : GoodIn wsL_parentIsShort (wsV RL 32 RX9 yX9_afterSweep wsX9_afterSweep) := goodIn_app (goodIn_of _ (by decide +kernel)) ggL_parentIsShort_X9_afterSweep
theorem dL_parentIsShort_0 : decode cL_parentIsShort 0 = .ok (.aload_n 0, 1) := by decide +kernel
theorem dL_parentIsShort_1 : decode cL_parentIsShort 1 = .ok (.iload_n 2, 1) := by decide +kernel
theorem dL_parentIsShort_2 : decode cL_parentIsShort 2 = .ok (.invokevirtual 32, 3) := by decide +kernel
theorem dL_parentIsShort_5 : decode cL_parentIsShort 5 = .ok (.aload_n 1, 1) := by decide +kernel
theorem dL_parentIsShort_6 : decode cL_parentIsShort 6 = .ok (.iconst 3, 1) := by decide +kernel
theorem dL_parentIsShort_7 : decode cL_parentIsShort 7 = .ok (.iload_n 2, 1) := by decide +kernel
theorem dL_parentIsShort_8 : decode cL_parentIsShort 8 = .ok (.imul, 1) := by decide +kernel
theorem dL_parentIsShort_9 : decode cL_parentIsShort 9 = .ok (.bipush 36, 2) := by decide +kernel
theorem dL_parentIsShort_11 : decode cL_parentIsShort 11 = .ok (.iadd, 1) := by decide +kernel
theorem dL_parentIsShort_12 : decode cL_parentIsShort 12 = .ok (.iaload, 1) := by decide +kernel
theorem dL_parentIsShort_13 : decode cL_parentIsShort 13 = .ok (.i2l, 1) := by decide +kernel
theorem dL_parentIsShort_14 : decode cL_parentIsShort 14 = .ok (.lcmp, 1) := by decide +kernel
theorem dL_parentIsShort_15 : decode cL_parentIsShort 15 = .ok (.ifCond .gt 7, 3) := by decide +kernel
theorem dL_parentIsShort_18 : decode cL_parentIsShort 18 = .ok (.iconst 1, 1) := by decide +kernel
theorem dL_parentIsShort_19 : decode cL_parentIsShort 19 = .ok (.goto 4, 3) := by decide +kernel
theorem dL_parentIsShort_22 : decode cL_parentIsShort 22 = .ok (.iconst 0, 1) := by decide +kernel
theorem dL_parentIsShort_23 : decode cL_parentIsShort 23 = .ok (.ireturn, 1) := by decide +kernel
def ch_wsL_isSettled : List (List Cond) := [wsL_isSettled_r1, wsL_isSettled_r2, wsL_isSettled_r3, wsL_isSettled_r4, wsX00, wsX90, wsX30, wsJx4a65c0, wsX10, wsX50]
theorem chm_wsL_isSettled : ∀ c ∈ ch_wsL_isSettled, ∀ w ∈ c, w ∈ wsL_isSettled := List.forall_mem_cons.mpr ⟨(fun w h => (List.mem_cons_of_mem _ (List.mem_append_left _ (List.mem_append_left _ (List.mem_append_left _ (List.mem_append_left _ (List.mem_append_left _ (List.mem_append_left _ (List.mem_append_left _ (List.mem_append_left _ (List.mem_append_left _ h))))))))))), List.forall_mem_cons.mpr ⟨(fun w h => (List.mem_cons_of_mem _ (List.mem_append_left _ (List.mem_append_left _ (List.mem_append_left _ (List.mem_append_left _ (List.mem_append_left _ (List.mem_append_left _ (List.mem_append_left _ (List.mem_append_left _ (List.mem_append_right _ (List.mem_append_left _ h)))))))))))), List.forall_mem_cons.mpr ⟨(fun w h => (List.mem_cons_of_mem _ (List.mem_append_left _ (List.mem_append_left _ (List.mem_append_left _ (List.mem_append_left _ (List.mem_append_left _ (List.mem_append_left _ (List.mem_append_left _ (List.mem_append_left _ (List.mem_append_right _ (List.mem_append_right _ (List.mem_append_left _ h))))))))))))), List.forall_mem_cons.mpr ⟨(fun w h => (List.mem_cons_of_mem _ (List.mem_append_left _ (List.mem_append_left _ (List.mem_append_left _ (List.mem_append_left _ (List.mem_append_left _ (List.mem_append_left _ (List.mem_append_left _ (List.mem_append_left _ (List.mem_append_right _ (List.mem_append_right _ (List.mem_append_right _ h))))))))))))), List.forall_mem_cons.mpr ⟨(fun w h => (List.mem_cons_of_mem _ (List.mem_append_left _ (List.mem_append_left _ (List.mem_append_left _ (List.mem_append_left _ (List.mem_append_left _ (List.mem_append_left _ (List.mem_append_left _ (List.mem_append_right _ h)))))))))), List.forall_mem_cons.mpr ⟨(fun w h => (List.mem_cons_of_mem _ (List.mem_append_left _ (List.mem_append_left _ (List.mem_append_left _ (List.mem_append_left _ (List.mem_append_left _ (List.mem_append_left _ (List.mem_append_right _ h))))))))), List.forall_mem_cons.mpr ⟨(fun w h => (List.mem_cons_of_mem _ (List.mem_append_left _ (List.mem_append_left _ (List.mem_append_left _ (List.mem_append_left _ (List.mem_append_left _ (List.mem_append_right _ h)))))))), List.forall_mem_cons.mpr ⟨(fun w h => (List.mem_cons_of_mem _ (List.mem_append_left _ (List.mem_append_left _ (List.mem_append_left _ (List.mem_append_left _ (List.mem_append_right _ h))))))), List.forall_mem_cons.mpr ⟨(fun w h => (List.mem_cons_of_mem _ (List.mem_append_left _ (List.mem_append_left _ (List.mem_append_left _ (List.mem_append_right _ h)))))), List.forall_mem_cons.mpr ⟨(fun w h => (List.mem_cons_of_mem _ (List.mem_append_left _ (List.mem_append_left _ (List.mem_append_right _ h))))), fun _ h => absurd h List.not_mem_nil⟩⟩⟩⟩⟩⟩⟩⟩⟩⟩
set_option maxRecDepth 100000 in
set_option maxHeartbeats 4000000 in
theorem ggL_isSettled_X9_balance : GoodIn wsL_isSettled wsX9_balance := goodIn_ca (goodIn_k ch_wsL_isSettled chm_wsL_isSettled _ [(0, 4), (0, 5), (0, 6), (0, 7), (0, 8), (0, 3), (0, 9), (0, 10), (0, 11), (0, 12), (0, 13), (0, 14), (0, 15), (0, 16), (0, 17), (0, 18), (0, 19), (0, 20), (0, 21), (0, 22), (0, 23), (1, 0), (1, 1), (1, 2), (1, 3), (1, 4), (1, 5), (1, 6), (1, 7), (1, 8), (1, 9), (1, 10), (1, 11), (1, 12), (1, 13), (4, 0), (4, 1), (4, 2), (4, 3), (4, 4), (4, 5), (4, 6), (4, 7), (4, 8), (4, 9), (4, 10), (4, 11), (5, 0), (6, 0), (6, 1), (6, 2), (6, 3), (6, 4), (6, 5), (6, 6), (6, 7), (7, 0), (7, 1), (7, 2)] (by rfl) (by decide +kernel)) (goodIn_sub (fun _ h => List.mem_cons_of_mem _ (List.mem_append_left _ (List.mem_append_right _ h))) (by decide +kernel))
set_option maxRecDepth 20000 in
theorem gL_isSettled_X9_balance : GoodIn wsL_isSettled (wsV RL 22 RX9 yX9_balance wsX9_balance) := goodIn_app (goodIn_of _ (by decide +kernel)) ggL_isSettled_X9_balance
set_option maxRecDepth 100000 in
set_option maxHeartbeats 4000000 in
theorem ggL_isSettled_X9_exposure : GoodIn wsL_isSettled wsX9_exposure := goodIn_ca (goodIn_k ch_wsL_isSettled chm_wsL_isSettled _ [(1, 17), (0, 12), (1, 18), (1, 19), (1, 20), (1, 21), (0, 3), (1, 22), (1, 23), (2, 0), (2, 1), (2, 2), (0, 15), (0, 16), (0, 17), (0, 18), (0, 19), (0, 20), (0, 21), (0, 22), (0, 23), (1, 0), (1, 1), (1, 2), (1, 3), (1, 4), (1, 5), (1, 6), (1, 7), (1, 8), (1, 9), (1, 10), (1, 11), (1, 12), (1, 13), (2, 3), (2, 4), (2, 5), (2, 6), (2, 7), (2, 8), (2, 9), (2, 10), (2, 11), (2, 12), (2, 13), (2, 14), (2, 15), (2, 16), (2, 17), (2, 18), (2, 19), (2, 20), (5, 0), (8, 0), (8, 1), (8, 2), (6, 0), (6, 1), (6, 2), (6, 3), (6, 4), (6, 5), (6, 6), (6, 7), (7, 0), (7, 1), (7, 2), (4, 0), (4, 1), (4, 2), (4, 3), (4, 4), (4, 5), (4, 6), (4, 7), (4, 8), (4, 9), (4, 10), (4, 11)] (by rfl) (by decide +kernel)) (goodIn_sub (fun _ h => List.mem_cons_of_mem _ (List.mem_append_right _ h)) (by decide +kernel))
set_option maxRecDepth 20000 in
theorem gL_isSettled_X9_exposure : GoodIn wsL_isSettled (wsV RL 48 RX9 yX9_exposure wsX9_exposure) := goodIn_app (goodIn_of _ (by decide +kernel)) ggL_isSettled_X9_exposure
set_option maxRecDepth 100000 in
set_option maxHeartbeats 4000000 in
theorem ggL_isSettled_L_top : GoodIn wsL_isSettled wsL_top := goodIn_k ch_wsL_isSettled chm_wsL_isSettled _ [(3, 0), (3, 1), (3, 2), (2, 23), (3, 3)] (by rfl) (by decide +kernel)
set_option maxRecDepth 20000 in
theorem gL_isSettled_L_top : GoodIn wsL_isSettled (va_wsS RL 29 yL_top wsL_top) := goodIn_app (goodIn_of _ (by decide +kernel)) ggL_isSettled_L_top
set_option maxRecDepth 100000 in
set_option maxHeartbeats 4000000 in
theorem ggL_isSettled_X9_drawn : GoodIn wsL_isSettled wsX9_drawn := goodIn_ca (goodIn_k ch_wsL_isSettled chm_wsL_isSettled _ [(3, 7), (3, 8), (3, 9), (3, 10), (3, 11), (0, 3), (3, 12), (0, 10), (0, 11), (0, 12), (3, 13), (3, 14), (0, 15), (0, 16), (0, 17), (0, 18), (0, 19), (0, 20), (0, 21), (0, 22), (0, 23), (1, 0), (1, 1), (1, 2), (1, 3), (1, 4), (1, 5), (1, 6), (1, 7), (1, 8), (1, 9), (1, 10), (1, 11), (1, 12), (1, 13), (9, 0), (9, 1), (9, 2), (9, 3), (9, 4), (9, 5), (9, 6), (9, 7), (9, 8), (5, 0), (6, 0), (6, 1), (6, 2), (6, 3), (6, 4), (6, 5), (6, 6), (6, 7), (7, 0), (7, 1), (7, 2)] (by rfl) (by decide +kernel)) (goodIn_sub (fun _ h => List.mem_cons_of_mem _ (List.mem_append_left _ (List.mem_append_right _ h))) (by decide +kernel))
set_option maxRecDepth 20000 in
theorem gL_isSettled_X9_drawn : GoodIn wsL_isSettled (wsV RL 51 RX9 yX9_drawn wsX9_drawn) := goodIn_app (goodIn_of _ (by decide +kernel)) ggL_isSettled_X9_drawn
theorem dL_isSettled_0 : decode cL_isSettled 0 = .ok (.iconst 1, 1) := by decide +kernel
theorem dL_isSettled_1 : decode cL_isSettled 1 = .ok (.istore_n 3, 1) := by decide +kernel
theorem dL_isSettled_2 : decode cL_isSettled 2 = .ok (.iconst 0, 1) := by decide +kernel
theorem dL_isSettled_3 : decode cL_isSettled 3 = .ok (.istore 4, 2) := by decide +kernel
theorem dL_isSettled_5 : decode cL_isSettled 5 = .ok (.iload 4, 2) := by decide +kernel
theorem dL_isSettled_7 : decode cL_isSettled 7 = .ok (.aload_n 1, 1) := by decide +kernel
theorem dL_isSettled_8 : decode cL_isSettled 8 = .ok (.iconst 0, 1) := by decide +kernel
theorem dL_isSettled_9 : decode cL_isSettled 9 = .ok (.iaload, 1) := by decide +kernel
theorem dL_isSettled_10 : decode cL_isSettled 10 = .ok (.if_icmp .ge 231, 3) := by decide +kernel
theorem dL_isSettled_13 : decode cL_isSettled 13 = .ok (.aload_n 1, 1) := by decide +kernel
theorem dL_isSettled_14 : decode cL_isSettled 14 = .ok (.iconst 2, 1) := by decide +kernel
theorem dL_isSettled_15 : decode cL_isSettled 15 = .ok (.iload 4, 2) := by decide +kernel
theorem dL_isSettled_17 : decode cL_isSettled 17 = .ok (.imul, 1) := by decide +kernel
theorem dL_isSettled_18 : decode cL_isSettled 18 = .ok (.iconst 2, 1) := by decide +kernel
theorem dL_isSettled_19 : decode cL_isSettled 19 = .ok (.iadd, 1) := by decide +kernel
theorem dL_isSettled_20 : decode cL_isSettled 20 = .ok (.iaload, 1) := by decide +kernel
theorem dL_isSettled_21 : decode cL_isSettled 21 = .ok (.istore 5, 2) := by decide +kernel
theorem dL_isSettled_23 : decode cL_isSettled 23 = .ok (.aload_n 0, 1) := by decide +kernel
theorem dL_isSettled_24 : decode cL_isSettled 24 = .ok (.iload 4, 2) := by decide +kernel
theorem dL_isSettled_26 : decode cL_isSettled 26 = .ok (.invokevirtual 22, 3) := by decide +kernel
theorem dL_isSettled_29 : decode cL_isSettled 29 = .ok (.lconst 0, 1) := by decide +kernel
theorem dL_isSettled_30 : decode cL_isSettled 30 = .ok (.lcmp, 1) := by decide +kernel
theorem dL_isSettled_31 : decode cL_isSettled 31 = .ok (.ifCond .le 29, 3) := by decide +kernel
theorem dL_isSettled_34 : decode cL_isSettled 34 = .ok (.aload_n 2, 1) := by decide +kernel
theorem dL_isSettled_35 : decode cL_isSettled 35 = .ok (.iload 5, 2) := by decide +kernel
theorem dL_isSettled_37 : decode cL_isSettled 37 = .ok (.iaload, 1) := by decide +kernel
theorem dL_isSettled_38 : decode cL_isSettled 38 = .ok (.ifCond .lt 22, 3) := by decide +kernel
theorem dL_isSettled_41 : decode cL_isSettled 41 = .ok (.aload_n 0, 1) := by decide +kernel
theorem dL_isSettled_42 : decode cL_isSettled 42 = .ok (.iload 5, 2) := by decide +kernel
theorem dL_isSettled_44 : decode cL_isSettled 44 = .ok (.invokevirtual 48, 3) := by decide +kernel
theorem dL_isSettled_47 : decode cL_isSettled 47 = .ok (.aload_n 2, 1) := by decide +kernel
theorem dL_isSettled_48 : decode cL_isSettled 48 = .ok (.iload 5, 2) := by decide +kernel
theorem dL_isSettled_50 : decode cL_isSettled 50 = .ok (.iaload, 1) := by decide +kernel
theorem dL_isSettled_51 : decode cL_isSettled 51 = .ok (.i2l, 1) := by decide +kernel
theorem dL_isSettled_52 : decode cL_isSettled 52 = .ok (.lcmp, 1) := by decide +kernel
theorem dL_isSettled_53 : decode cL_isSettled 53 = .ok (.ifCond .le 7, 3) := by decide +kernel
theorem dL_isSettled_56 : decode cL_isSettled 56 = .ok (.iconst 1, 1) := by decide +kernel
theorem dL_isSettled_57 : decode cL_isSettled 57 = .ok (.goto 4, 3) := by decide +kernel
theorem dL_isSettled_60 : decode cL_isSettled 60 = .ok (.iconst 0, 1) := by decide +kernel
theorem dL_isSettled_61 : decode cL_isSettled 61 = .ok (.istore 6, 2) := by decide +kernel
theorem dL_isSettled_63 : decode cL_isSettled 63 = .ok (.iconst 0, 1) := by decide +kernel
theorem dL_isSettled_64 : decode cL_isSettled 64 = .ok (.istore 7, 2) := by decide +kernel
theorem dL_isSettled_66 : decode cL_isSettled 66 = .ok (.iload 7, 2) := by decide +kernel
theorem dL_isSettled_68 : decode cL_isSettled 68 = .ok (.aload_n 1, 1) := by decide +kernel
theorem dL_isSettled_69 : decode cL_isSettled 69 = .ok (.iconst 0, 1) := by decide +kernel
theorem dL_isSettled_70 : decode cL_isSettled 70 = .ok (.iaload, 1) := by decide +kernel
theorem dL_isSettled_71 : decode cL_isSettled 71 = .ok (.if_icmp .ge 94, 3) := by decide +kernel
theorem dL_isSettled_74 : decode cL_isSettled 74 = .ok (.aload_n 1, 1) := by decide +kernel
theorem dL_isSettled_75 : decode cL_isSettled 75 = .ok (.iconst 2, 1) := by decide +kernel
theorem dL_isSettled_76 : decode cL_isSettled 76 = .ok (.iload 7, 2) := by decide +kernel
theorem dL_isSettled_78 : decode cL_isSettled 78 = .ok (.imul, 1) := by decide +kernel
theorem dL_isSettled_79 : decode cL_isSettled 79 = .ok (.iconst 2, 1) := by decide +kernel
theorem dL_isSettled_80 : decode cL_isSettled 80 = .ok (.iadd, 1) := by decide +kernel
theorem dL_isSettled_81 : decode cL_isSettled 81 = .ok (.iaload, 1) := by decide +kernel
theorem dL_isSettled_82 : decode cL_isSettled 82 = .ok (.istore 8, 2) := by decide +kernel
theorem dL_isSettled_84 : decode cL_isSettled 84 = .ok (.aload_n 1, 1) := by decide +kernel
theorem dL_isSettled_85 : decode cL_isSettled 85 = .ok (.iload 7, 2) := by decide +kernel
theorem dL_isSettled_87 : decode cL_isSettled 87 = .ok (.invokestatic 29, 3) := by decide +kernel
theorem dL_isSettled_90 : decode cL_isSettled 90 = .ok (.aload_n 1, 1) := by decide +kernel
theorem dL_isSettled_91 : decode cL_isSettled 91 = .ok (.iload 4, 2) := by decide +kernel
theorem dL_isSettled_93 : decode cL_isSettled 93 = .ok (.invokestatic 29, 3) := by decide +kernel
theorem dL_isSettled_96 : decode cL_isSettled 96 = .ok (.if_icmp .ne 40, 3) := by decide +kernel
theorem dL_isSettled_99 : decode cL_isSettled 99 = .ok (.aload_n 0, 1) := by decide +kernel
theorem dL_isSettled_100 : decode cL_isSettled 100 = .ok (.iload 7, 2) := by decide +kernel
theorem dL_isSettled_102 : decode cL_isSettled 102 = .ok (.invokevirtual 22, 3) := by decide +kernel
theorem dL_isSettled_105 : decode cL_isSettled 105 = .ok (.lconst 0, 1) := by decide +kernel
theorem dL_isSettled_106 : decode cL_isSettled 106 = .ok (.lcmp, 1) := by decide +kernel
theorem dL_isSettled_107 : decode cL_isSettled 107 = .ok (.ifCond .lt 29, 3) := by decide +kernel
theorem dL_isSettled_110 : decode cL_isSettled 110 = .ok (.aload_n 2, 1) := by decide +kernel
theorem dL_isSettled_111 : decode cL_isSettled 111 = .ok (.iload 8, 2) := by decide +kernel
theorem dL_isSettled_113 : decode cL_isSettled 113 = .ok (.iaload, 1) := by decide +kernel
theorem dL_isSettled_114 : decode cL_isSettled 114 = .ok (.ifCond .lt 18, 3) := by decide +kernel
theorem dL_isSettled_117 : decode cL_isSettled 117 = .ok (.aload_n 0, 1) := by decide +kernel
theorem dL_isSettled_118 : decode cL_isSettled 118 = .ok (.iload 8, 2) := by decide +kernel
theorem dL_isSettled_120 : decode cL_isSettled 120 = .ok (.invokevirtual 48, 3) := by decide +kernel
theorem dL_isSettled_123 : decode cL_isSettled 123 = .ok (.aload_n 2, 1) := by decide +kernel
theorem dL_isSettled_124 : decode cL_isSettled 124 = .ok (.iload 8, 2) := by decide +kernel
theorem dL_isSettled_126 : decode cL_isSettled 126 = .ok (.iaload, 1) := by decide +kernel
theorem dL_isSettled_127 : decode cL_isSettled 127 = .ok (.i2l, 1) := by decide +kernel
theorem dL_isSettled_128 : decode cL_isSettled 128 = .ok (.lcmp, 1) := by decide +kernel
theorem dL_isSettled_129 : decode cL_isSettled 129 = .ok (.ifCond .ge 7, 3) := by decide +kernel
theorem dL_isSettled_132 : decode cL_isSettled 132 = .ok (.iconst 1, 1) := by decide +kernel
theorem dL_isSettled_133 : decode cL_isSettled 133 = .ok (.goto 4, 3) := by decide +kernel
theorem dL_isSettled_136 : decode cL_isSettled 136 = .ok (.iconst 0, 1) := by decide +kernel
theorem dL_isSettled_137 : decode cL_isSettled 137 = .ok (.istore 9, 2) := by decide +kernel
theorem dL_isSettled_139 : decode cL_isSettled 139 = .ok (.iload_n 3, 1) := by decide +kernel
theorem dL_isSettled_140 : decode cL_isSettled 140 = .ok (.ifCond .eq 17, 3) := by decide +kernel
theorem dL_isSettled_143 : decode cL_isSettled 143 = .ok (.iload 6, 2) := by decide +kernel
theorem dL_isSettled_145 : decode cL_isSettled 145 = .ok (.ifCond .eq 8, 3) := by decide +kernel
theorem dL_isSettled_148 : decode cL_isSettled 148 = .ok (.iload 9, 2) := by decide +kernel
theorem dL_isSettled_150 : decode cL_isSettled 150 = .ok (.ifCond .ne 7, 3) := by decide +kernel
theorem dL_isSettled_153 : decode cL_isSettled 153 = .ok (.iconst 1, 1) := by decide +kernel
theorem dL_isSettled_154 : decode cL_isSettled 154 = .ok (.goto 4, 3) := by decide +kernel
theorem dL_isSettled_157 : decode cL_isSettled 157 = .ok (.iconst 0, 1) := by decide +kernel
theorem dL_isSettled_158 : decode cL_isSettled 158 = .ok (.istore_n 3, 1) := by decide +kernel
theorem dL_isSettled_159 : decode cL_isSettled 159 = .ok (.iinc 7 1, 3) := by decide +kernel
theorem dL_isSettled_162 : decode cL_isSettled 162 = .ok (.goto (-96), 3) := by decide +kernel
theorem dL_isSettled_165 : decode cL_isSettled 165 = .ok (.iconst 0, 1) := by decide +kernel
theorem dL_isSettled_166 : decode cL_isSettled 166 = .ok (.istore 7, 2) := by decide +kernel
theorem dL_isSettled_168 : decode cL_isSettled 168 = .ok (.iload 7, 2) := by decide +kernel
theorem dL_isSettled_170 : decode cL_isSettled 170 = .ok (.aload_n 1, 1) := by decide +kernel
theorem dL_isSettled_171 : decode cL_isSettled 171 = .ok (.iconst 1, 1) := by decide +kernel
theorem dL_isSettled_172 : decode cL_isSettled 172 = .ok (.iaload, 1) := by decide +kernel
theorem dL_isSettled_173 : decode cL_isSettled 173 = .ok (.if_icmp .ge 62, 3) := by decide +kernel
theorem dL_isSettled_176 : decode cL_isSettled 176 = .ok (.iload_n 3, 1) := by decide +kernel
theorem dL_isSettled_177 : decode cL_isSettled 177 = .ok (.ifCond .eq 50, 3) := by decide +kernel
theorem dL_isSettled_180 : decode cL_isSettled 180 = .ok (.aload_n 1, 1) := by decide +kernel
theorem dL_isSettled_181 : decode cL_isSettled 181 = .ok (.iconst 2, 1) := by decide +kernel
theorem dL_isSettled_182 : decode cL_isSettled 182 = .ok (.iload 7, 2) := by decide +kernel
theorem dL_isSettled_184 : decode cL_isSettled 184 = .ok (.imul, 1) := by decide +kernel
theorem dL_isSettled_185 : decode cL_isSettled 185 = .ok (.bipush 22, 2) := by decide +kernel
theorem dL_isSettled_187 : decode cL_isSettled 187 = .ok (.iadd, 1) := by decide +kernel
theorem dL_isSettled_188 : decode cL_isSettled 188 = .ok (.iaload, 1) := by decide +kernel
theorem dL_isSettled_189 : decode cL_isSettled 189 = .ok (.iload 4, 2) := by decide +kernel
theorem dL_isSettled_191 : decode cL_isSettled 191 = .ok (.if_icmp .ne 32, 3) := by decide +kernel
theorem dL_isSettled_194 : decode cL_isSettled 194 = .ok (.aload_n 0, 1) := by decide +kernel
theorem dL_isSettled_195 : decode cL_isSettled 195 = .ok (.iload 4, 2) := by decide +kernel
theorem dL_isSettled_197 : decode cL_isSettled 197 = .ok (.invokevirtual 22, 3) := by decide +kernel
theorem dL_isSettled_200 : decode cL_isSettled 200 = .ok (.lconst 0, 1) := by decide +kernel
theorem dL_isSettled_201 : decode cL_isSettled 201 = .ok (.lcmp, 1) := by decide +kernel
theorem dL_isSettled_202 : decode cL_isSettled 202 = .ok (.ifCond .ge 21, 3) := by decide +kernel
theorem dL_isSettled_205 : decode cL_isSettled 205 = .ok (.aload_n 0, 1) := by decide +kernel
theorem dL_isSettled_206 : decode cL_isSettled 206 = .ok (.iload 7, 2) := by decide +kernel
theorem dL_isSettled_208 : decode cL_isSettled 208 = .ok (.invokevirtual 51, 3) := by decide +kernel
theorem dL_isSettled_211 : decode cL_isSettled 211 = .ok (.aload_n 1, 1) := by decide +kernel
theorem dL_isSettled_212 : decode cL_isSettled 212 = .ok (.iconst 2, 1) := by decide +kernel
theorem dL_isSettled_213 : decode cL_isSettled 213 = .ok (.iload 7, 2) := by decide +kernel
theorem dL_isSettled_215 : decode cL_isSettled 215 = .ok (.imul, 1) := by decide +kernel
theorem dL_isSettled_216 : decode cL_isSettled 216 = .ok (.bipush 23, 2) := by decide +kernel
theorem dL_isSettled_218 : decode cL_isSettled 218 = .ok (.iadd, 1) := by decide +kernel
theorem dL_isSettled_219 : decode cL_isSettled 219 = .ok (.iaload, 1) := by decide +kernel
theorem dL_isSettled_220 : decode cL_isSettled 220 = .ok (.if_icmp .ne 7, 3) := by decide +kernel
theorem dL_isSettled_223 : decode cL_isSettled 223 = .ok (.iconst 1, 1) := by decide +kernel
theorem dL_isSettled_224 : decode cL_isSettled 224 = .ok (.goto 4, 3) := by decide +kernel
theorem dL_isSettled_227 : decode cL_isSettled 227 = .ok (.iconst 0, 1) := by decide +kernel
theorem dL_isSettled_228 : decode cL_isSettled 228 = .ok (.istore_n 3, 1) := by decide +kernel
theorem dL_isSettled_229 : decode cL_isSettled 229 = .ok (.iinc 7 1, 3) := by decide +kernel
theorem dL_isSettled_232 : decode cL_isSettled 232 = .ok (.goto (-64), 3) := by decide +kernel
theorem dL_isSettled_235 : decode cL_isSettled 235 = .ok (.iinc 4 1, 3) := by decide +kernel
theorem dL_isSettled_238 : decode cL_isSettled 238 = .ok (.goto (-233), 3) := by decide +kernel
theorem dL_isSettled_241 : decode cL_isSettled 241 = .ok (.iload_n 3, 1) := by decide +kernel
theorem dL_isSettled_242 : decode cL_isSettled 242 = .ok (.ireturn, 1) := by decide +kernel
def ch_wsL_passes : List (List Cond) := [wsL_passes_r1, wsL_passes_r2, wsL_passes_r3, wsL_passes_r4, wsL_passes_r5, wsL_passes_r6, wsL_passes_r7, wsL_passes_r8, wsL_passes_r9, wsL_passes_r10, wsL_passes_r11, wsL_passes_r12, wsL_passes_r13, wsL_passes_r14, wsL_passes_r15, wsL_passes_r16, wsL_passes_r17, wsL_passes_r18, wsX90, wsX30, wsX20, wsX00, wsJx4a65c0, wsX60, wsX70, wsX50, wsX40, wsX10]
theorem chm_wsL_passes : ∀ c ∈ ch_wsL_passes, ∀ w ∈ c, w ∈ wsL_passes := List.forall_mem_cons.mpr ⟨(fun w h => (List.mem_cons_of_mem _ (List.mem_append_left _ (List.mem_append_left _ (List.mem_append_left _ (List.mem_append_left _ (List.mem_append_left _ (List.mem_append_left _ (List.mem_append_left _ (List.mem_append_left _ (List.mem_append_left _ (List.mem_append_left _ (List.mem_append_left _ (List.mem_append_left _ (List.mem_append_left _ (List.mem_append_left _ h)))))))))))))))), List.forall_mem_cons.mpr ⟨(fun w h => (List.mem_cons_of_mem _ (List.mem_append_left _ (List.mem_append_left _ (List.mem_append_left _ (List.mem_append_left _ (List.mem_append_left _ (List.mem_append_left _ (List.mem_append_left _ (List.mem_append_left _ (List.mem_append_left _ (List.mem_append_left _ (List.mem_append_left _ (List.mem_append_left _ (List.mem_append_left _ (List.mem_append_right _ (List.mem_append_left _ h))))))))))))))))), List.forall_mem_cons.mpr ⟨(fun w h => (List.mem_cons_of_mem _ (List.mem_append_left _ (List.mem_append_left _ (List.mem_append_left _ (List.mem_append_left _ (List.mem_append_left _ (List.mem_append_left _ (List.mem_append_left _ (List.mem_append_left _ (List.mem_append_left _ (List.mem_append_left _ (List.mem_append_left _ (List.mem_append_left _ (List.mem_append_left _ (List.mem_append_right _ (List.mem_append_right _ (List.mem_append_left _ h)))))))))))))))))), List.forall_mem_cons.mpr ⟨(fun w h => (List.mem_cons_of_mem _ (List.mem_append_left _ (List.mem_append_left _ (List.mem_append_left _ (List.mem_append_left _ (List.mem_append_left _ (List.mem_append_left _ (List.mem_append_left _ (List.mem_append_left _ (List.mem_append_left _ (List.mem_append_left _ (List.mem_append_left _ (List.mem_append_left _ (List.mem_append_left _ (List.mem_append_right _ (List.mem_append_right _ (List.mem_append_right _ (List.mem_append_left _ h))))))))))))))))))), List.forall_mem_cons.mpr ⟨(fun w h => (List.mem_cons_of_mem _ (List.mem_append_left _ (List.mem_append_left _ (List.mem_append_left _ (List.mem_append_left _ (List.mem_append_left _ (List.mem_append_left _ (List.mem_append_left _ (List.mem_append_left _ (List.mem_append_left _ (List.mem_append_left _ (List.mem_append_left _ (List.mem_append_left _ (List.mem_append_left _ (List.mem_append_right _ (List.mem_append_right _ (List.mem_append_right _ (List.mem_append_right _ (List.mem_append_left _ h)))))))))))))))))))), List.forall_mem_cons.mpr ⟨(fun w h => (List.mem_cons_of_mem _ (List.mem_append_left _ (List.mem_append_left _ (List.mem_append_left _ (List.mem_append_left _ (List.mem_append_left _ (List.mem_append_left _ (List.mem_append_left _ (List.mem_append_left _ (List.mem_append_left _ (List.mem_append_left _ (List.mem_append_left _ (List.mem_append_left _ (List.mem_append_left _ (List.mem_append_right _ (List.mem_append_right _ (List.mem_append_right _ (List.mem_append_right _ (List.mem_append_right _ (List.mem_append_left _ h))))))))))))))))))))), List.forall_mem_cons.mpr ⟨(fun w h => (List.mem_cons_of_mem _ (List.mem_append_left _ (List.mem_append_left _ (List.mem_append_left _ (List.mem_append_left _ (List.mem_append_left _ (List.mem_append_left _ (List.mem_append_left _ (List.mem_append_left _ (List.mem_append_left _ (List.mem_append_left _ (List.mem_append_left _ (List.mem_append_left _ (List.mem_append_left _ (List.mem_append_right _ (List.mem_append_right _ (List.mem_append_right _ (List.mem_append_right _ (List.mem_append_right _ (List.mem_append_right _ (List.mem_append_left _ h)))))))))))))))))))))), List.forall_mem_cons.mpr ⟨(fun w h => (List.mem_cons_of_mem _ (List.mem_append_left _ (List.mem_append_left _ (List.mem_append_left _ (List.mem_append_left _ (List.mem_append_left _ (List.mem_append_left _ (List.mem_append_left _ (List.mem_append_left _ (List.mem_append_left _ (List.mem_append_left _ (List.mem_append_left _ (List.mem_append_left _ (List.mem_append_left _ (List.mem_append_right _ (List.mem_append_right _ (List.mem_append_right _ (List.mem_append_right _ (List.mem_append_right _ (List.mem_append_right _ (List.mem_append_right _ (List.mem_append_left _ h))))))))))))))))))))))), List.forall_mem_cons.mpr ⟨(fun w h => (List.mem_cons_of_mem _ (List.mem_append_left _ (List.mem_append_left _ (List.mem_append_left _ (List.mem_append_left _ (List.mem_append_left _ (List.mem_append_left _ (List.mem_append_left _ (List.mem_append_left _ (List.mem_append_left _ (List.mem_append_left _ (List.mem_append_left _ (List.mem_append_left _ (List.mem_append_left _ (List.mem_append_right _ (List.mem_append_right _ (List.mem_append_right _ (List.mem_append_right _ (List.mem_append_right _ (List.mem_append_right _ (List.mem_append_right _ (List.mem_append_right _ (List.mem_append_left _ h)))))))))))))))))))))))), List.forall_mem_cons.mpr ⟨(fun w h => (List.mem_cons_of_mem _ (List.mem_append_left _ (List.mem_append_left _ (List.mem_append_left _ (List.mem_append_left _ (List.mem_append_left _ (List.mem_append_left _ (List.mem_append_left _ (List.mem_append_left _ (List.mem_append_left _ (List.mem_append_left _ (List.mem_append_left _ (List.mem_append_left _ (List.mem_append_left _ (List.mem_append_right _ (List.mem_append_right _ (List.mem_append_right _ (List.mem_append_right _ (List.mem_append_right _ (List.mem_append_right _ (List.mem_append_right _ (List.mem_append_right _ (List.mem_append_right _ (List.mem_append_left _ h))))))))))))))))))))))))), List.forall_mem_cons.mpr ⟨(fun w h => (List.mem_cons_of_mem _ (List.mem_append_left _ (List.mem_append_left _ (List.mem_append_left _ (List.mem_append_left _ (List.mem_append_left _ (List.mem_append_left _ (List.mem_append_left _ (List.mem_append_left _ (List.mem_append_left _ (List.mem_append_left _ (List.mem_append_left _ (List.mem_append_left _ (List.mem_append_left _ (List.mem_append_right _ (List.mem_append_right _ (List.mem_append_right _ (List.mem_append_right _ (List.mem_append_right _ (List.mem_append_right _ (List.mem_append_right _ (List.mem_append_right _ (List.mem_append_right _ (List.mem_append_right _ (List.mem_append_left _ h)))))))))))))))))))))))))), List.forall_mem_cons.mpr ⟨(fun w h => (List.mem_cons_of_mem _ (List.mem_append_left _ (List.mem_append_left _ (List.mem_append_left _ (List.mem_append_left _ (List.mem_append_left _ (List.mem_append_left _ (List.mem_append_left _ (List.mem_append_left _ (List.mem_append_left _ (List.mem_append_left _ (List.mem_append_left _ (List.mem_append_left _ (List.mem_append_left _ (List.mem_append_right _ (List.mem_append_right _ (List.mem_append_right _ (List.mem_append_right _ (List.mem_append_right _ (List.mem_append_right _ (List.mem_append_right _ (List.mem_append_right _ (List.mem_append_right _ (List.mem_append_right _ (List.mem_append_right _ (List.mem_append_left _ h))))))))))))))))))))))))))), List.forall_mem_cons.mpr ⟨(fun w h => (List.mem_cons_of_mem _ (List.mem_append_left _ (List.mem_append_left _ (List.mem_append_left _ (List.mem_append_left _ (List.mem_append_left _ (List.mem_append_left _ (List.mem_append_left _ (List.mem_append_left _ (List.mem_append_left _ (List.mem_append_left _ (List.mem_append_left _ (List.mem_append_left _ (List.mem_append_left _ (List.mem_append_right _ (List.mem_append_right _ (List.mem_append_right _ (List.mem_append_right _ (List.mem_append_right _ (List.mem_append_right _ (List.mem_append_right _ (List.mem_append_right _ (List.mem_append_right _ (List.mem_append_right _ (List.mem_append_right _ (List.mem_append_right _ (List.mem_append_left _ h)))))))))))))))))))))))))))), List.forall_mem_cons.mpr ⟨(fun w h => (List.mem_cons_of_mem _ (List.mem_append_left _ (List.mem_append_left _ (List.mem_append_left _ (List.mem_append_left _ (List.mem_append_left _ (List.mem_append_left _ (List.mem_append_left _ (List.mem_append_left _ (List.mem_append_left _ (List.mem_append_left _ (List.mem_append_left _ (List.mem_append_left _ (List.mem_append_left _ (List.mem_append_right _ (List.mem_append_right _ (List.mem_append_right _ (List.mem_append_right _ (List.mem_append_right _ (List.mem_append_right _ (List.mem_append_right _ (List.mem_append_right _ (List.mem_append_right _ (List.mem_append_right _ (List.mem_append_right _ (List.mem_append_right _ (List.mem_append_right _ (List.mem_append_left _ h))))))))))))))))))))))))))))), List.forall_mem_cons.mpr ⟨(fun w h => (List.mem_cons_of_mem _ (List.mem_append_left _ (List.mem_append_left _ (List.mem_append_left _ (List.mem_append_left _ (List.mem_append_left _ (List.mem_append_left _ (List.mem_append_left _ (List.mem_append_left _ (List.mem_append_left _ (List.mem_append_left _ (List.mem_append_left _ (List.mem_append_left _ (List.mem_append_left _ (List.mem_append_right _ (List.mem_append_right _ (List.mem_append_right _ (List.mem_append_right _ (List.mem_append_right _ (List.mem_append_right _ (List.mem_append_right _ (List.mem_append_right _ (List.mem_append_right _ (List.mem_append_right _ (List.mem_append_right _ (List.mem_append_right _ (List.mem_append_right _ (List.mem_append_right _ (List.mem_append_left _ h)))))))))))))))))))))))))))))), List.forall_mem_cons.mpr ⟨(fun w h => (List.mem_cons_of_mem _ (List.mem_append_left _ (List.mem_append_left _ (List.mem_append_left _ (List.mem_append_left _ (List.mem_append_left _ (List.mem_append_left _ (List.mem_append_left _ (List.mem_append_left _ (List.mem_append_left _ (List.mem_append_left _ (List.mem_append_left _ (List.mem_append_left _ (List.mem_append_left _ (List.mem_append_right _ (List.mem_append_right _ (List.mem_append_right _ (List.mem_append_right _ (List.mem_append_right _ (List.mem_append_right _ (List.mem_append_right _ (List.mem_append_right _ (List.mem_append_right _ (List.mem_append_right _ (List.mem_append_right _ (List.mem_append_right _ (List.mem_append_right _ (List.mem_append_right _ (List.mem_append_right _ (List.mem_append_left _ h))))))))))))))))))))))))))))))), List.forall_mem_cons.mpr ⟨(fun w h => (List.mem_cons_of_mem _ (List.mem_append_left _ (List.mem_append_left _ (List.mem_append_left _ (List.mem_append_left _ (List.mem_append_left _ (List.mem_append_left _ (List.mem_append_left _ (List.mem_append_left _ (List.mem_append_left _ (List.mem_append_left _ (List.mem_append_left _ (List.mem_append_left _ (List.mem_append_left _ (List.mem_append_right _ (List.mem_append_right _ (List.mem_append_right _ (List.mem_append_right _ (List.mem_append_right _ (List.mem_append_right _ (List.mem_append_right _ (List.mem_append_right _ (List.mem_append_right _ (List.mem_append_right _ (List.mem_append_right _ (List.mem_append_right _ (List.mem_append_right _ (List.mem_append_right _ (List.mem_append_right _ (List.mem_append_right _ (List.mem_append_left _ h)))))))))))))))))))))))))))))))), List.forall_mem_cons.mpr ⟨(fun w h => (List.mem_cons_of_mem _ (List.mem_append_left _ (List.mem_append_left _ (List.mem_append_left _ (List.mem_append_left _ (List.mem_append_left _ (List.mem_append_left _ (List.mem_append_left _ (List.mem_append_left _ (List.mem_append_left _ (List.mem_append_left _ (List.mem_append_left _ (List.mem_append_left _ (List.mem_append_left _ (List.mem_append_right _ (List.mem_append_right _ (List.mem_append_right _ (List.mem_append_right _ (List.mem_append_right _ (List.mem_append_right _ (List.mem_append_right _ (List.mem_append_right _ (List.mem_append_right _ (List.mem_append_right _ (List.mem_append_right _ (List.mem_append_right _ (List.mem_append_right _ (List.mem_append_right _ (List.mem_append_right _ (List.mem_append_right _ (List.mem_append_right _ h)))))))))))))))))))))))))))))))), List.forall_mem_cons.mpr ⟨(fun w h => (List.mem_cons_of_mem _ (List.mem_append_left _ (List.mem_append_left _ (List.mem_append_left _ (List.mem_append_left _ (List.mem_append_left _ (List.mem_append_left _ (List.mem_append_left _ (List.mem_append_left _ (List.mem_append_left _ (List.mem_append_left _ (List.mem_append_left _ (List.mem_append_left _ (List.mem_append_right _ h))))))))))))))), List.forall_mem_cons.mpr ⟨(fun w h => (List.mem_cons_of_mem _ (List.mem_append_left _ (List.mem_append_left _ (List.mem_append_left _ (List.mem_append_left _ (List.mem_append_left _ (List.mem_append_left _ (List.mem_append_left _ (List.mem_append_left _ (List.mem_append_left _ (List.mem_append_left _ (List.mem_append_left _ (List.mem_append_right _ h)))))))))))))), List.forall_mem_cons.mpr ⟨(fun w h => (List.mem_cons_of_mem _ (List.mem_append_left _ (List.mem_append_left _ (List.mem_append_left _ (List.mem_append_left _ (List.mem_append_left _ (List.mem_append_left _ (List.mem_append_left _ (List.mem_append_left _ (List.mem_append_left _ (List.mem_append_left _ (List.mem_append_right _ h))))))))))))), List.forall_mem_cons.mpr ⟨(fun w h => (List.mem_cons_of_mem _ (List.mem_append_left _ (List.mem_append_left _ (List.mem_append_left _ (List.mem_append_left _ (List.mem_append_left _ (List.mem_append_left _ (List.mem_append_left _ (List.mem_append_left _ (List.mem_append_left _ (List.mem_append_right _ h)))))))))))), List.forall_mem_cons.mpr ⟨(fun w h => (List.mem_cons_of_mem _ (List.mem_append_left _ (List.mem_append_left _ (List.mem_append_left _ (List.mem_append_left _ (List.mem_append_left _ (List.mem_append_left _ (List.mem_append_left _ (List.mem_append_left _ (List.mem_append_right _ h))))))))))), List.forall_mem_cons.mpr ⟨(fun w h => (List.mem_cons_of_mem _ (List.mem_append_left _ (List.mem_append_left _ (List.mem_append_left _ (List.mem_append_left _ (List.mem_append_left _ (List.mem_append_left _ (List.mem_append_left _ (List.mem_append_right _ h)))))))))), List.forall_mem_cons.mpr ⟨(fun w h => (List.mem_cons_of_mem _ (List.mem_append_left _ (List.mem_append_left _ (List.mem_append_left _ (List.mem_append_left _ (List.mem_append_left _ (List.mem_append_left _ (List.mem_append_right _ h))))))))), List.forall_mem_cons.mpr ⟨(fun w h => (List.mem_cons_of_mem _ (List.mem_append_left _ (List.mem_append_left _ (List.mem_append_left _ (List.mem_append_left _ (List.mem_append_left _ (List.mem_append_right _ h)))))))), List.forall_mem_cons.mpr ⟨(fun w h => (List.mem_cons_of_mem _ (List.mem_append_left _ (List.mem_append_left _ (List.mem_append_left _ (List.mem_append_left _ (List.mem_append_right _ h))))))), List.forall_mem_cons.mpr ⟨(fun w h => (List.mem_cons_of_mem _ (List.mem_append_left _ (List.mem_append_left _ (List.mem_append_left _ (List.mem_append_right _ h)))))), fun _ h => absurd h List.not_mem_nil⟩⟩⟩⟩⟩⟩⟩⟩⟩⟩⟩⟩⟩⟩⟩⟩⟩⟩⟩⟩⟩⟩⟩⟩⟩⟩⟩⟩
set_option maxRecDepth 100000 in
set_option maxHeartbeats 4000000 in
theorem ggL_passes_X9_today : GoodIn wsL_passes wsX9_today := goodIn_k ch_wsL_passes chm_wsL_passes _ [(0, 5), (0, 6), (0, 7), (18, 0), (19, 0), (19, 1), (19, 2), (19, 3), (19, 4), (19, 5), (19, 6), (19, 7)] (by rfl) (by decide +kernel)
set_option maxRecDepth 20000 in
theorem gL_passes_X9_today : GoodIn wsL_passes (wsV RL 61 RX9 yX9_today wsX9_today) := goodIn_app (goodIn_of _ (by decide +kernel)) ggL_passes_X9_today
set_option maxRecDepth 100000 in
set_option maxHeartbeats 4000000 in
theorem ggL_passes_X9_settlementDay : GoodIn wsL_passes wsX9_settlementDay := goodIn_ca (goodIn_k ch_wsL_passes chm_wsL_passes _ [(0, 11), (0, 6), (0, 12), (0, 13), (0, 14), (0, 4), (0, 15), (0, 16), (0, 17), (0, 18), (0, 19), (0, 20), (0, 21), (0, 22), (0, 23), (1, 0), (1, 1), (1, 2), (1, 3), (18, 0), (19, 0), (19, 1), (19, 2), (19, 3), (19, 4), (19, 5), (19, 6), (19, 7), (20, 0)] (by rfl) (by decide +kernel)) (goodIn_sub (fun _ h => List.mem_cons_of_mem _ (List.mem_append_left _ (List.mem_append_left _ (List.mem_append_right _ h)))) (by decide +kernel))
set_option maxRecDepth 20000 in
theorem gL_passes_X9_settlementDay : GoodIn wsL_passes (wsV RL 64 RX9 yX9_settlementDay wsX9_settlementDay) := goodIn_app (goodIn_of _ (by decide +kernel)) ggL_passes_X9_settlementDay
set_option maxRecDepth 100000 in
set_option maxHeartbeats 4000000 in
theorem ggL_passes_L_top : GoodIn wsL_passes wsL_top := goodIn_k ch_wsL_passes chm_wsL_passes _ [(1, 7), (1, 8), (1, 9), (1, 6), (1, 10)] (by rfl) (by decide +kernel)
set_option maxRecDepth 20000 in
theorem gL_passes_L_top : GoodIn wsL_passes (va_wsS RL 29 yL_top wsL_top) := goodIn_app (goodIn_of _ (by decide +kernel)) ggL_passes_L_top
set_option maxRecDepth 100000 in
set_option maxHeartbeats 4000000 in
theorem ggL_passes_X9_forecast : GoodIn wsL_passes wsX9_forecast := goodIn_ca (goodIn_ca (goodIn_k ch_wsL_passes chm_wsL_passes _ [(1, 14), (0, 6), (1, 15), (1, 16), (1, 17), (1, 18), (0, 4), (1, 19), (1, 20), (1, 21), (1, 22), (1, 23), (2, 0), (2, 1), (2, 2), (2, 3), (2, 4), (2, 5), (2, 6), (2, 7), (2, 8), (2, 9), (2, 10), (2, 11), (2, 12), (2, 13), (2, 14), (2, 15), (2, 16), (2, 17), (2, 18), (2, 19), (2, 20), (2, 21), (2, 22), (0, 13), (0, 14), (0, 15), (0, 16), (0, 17), (2, 23), (3, 0), (3, 1), (3, 2), (3, 3), (3, 4), (3, 5), (3, 6), (3, 7), (3, 8), (3, 9), (3, 10), (3, 11), (3, 12), (3, 13), (3, 14), (3, 15), (3, 16), (3, 17), (3, 18), (3, 19), (3, 20), (3, 21), (3, 22), (3, 23), (4, 0), (4, 1), (4, 2), (4, 3), (4, 4), (4, 5), (4, 6), (4, 7), (4, 8), (4, 9), (4, 10), (4, 11), (4, 12), (4, 13), (4, 14), (4, 15), (4, 16), (4, 17), (4, 18), (4, 19), (4, 20), (4, 21), (4, 22), (4, 23), (5, 0), (5, 1), (5, 2), (5, 3), (5, 4), (5, 5), (5, 6), (5, 7), (5, 8), (5, 9), (5, 10), (5, 11), (5, 12), (5, 13), (5, 14), (5, 15), (5, 16), (5, 17), (5, 18), (5, 19), (5, 20), (5, 21), (5, 22), (5, 23), (6, 0), (1, 0), (1, 1), (0, 21), (1, 2), (1, 3), (6, 1), (6, 2), (6, 3), (6, 4), (6, 5), (6, 6), (6, 7), (6, 8), (6, 9), (6, 10), (6, 11), (6, 12), (6, 13), (6, 14), (6, 15), (6, 16), (6, 17), (6, 18), (6, 19), (6, 20), (6, 21), (6, 22), (6, 23), (7, 0), (7, 1), (7, 2), (7, 3), (7, 4), (7, 5), (7, 6), (7, 7), (7, 8), (7, 9), (7, 10), (7, 11), (7, 12), (7, 13), (7, 14), (7, 15), (7, 16), (7, 17), (7, 18), (7, 19), (7, 20), (7, 21), (7, 22), (7, 23), (8, 0), (8, 1), (8, 2), (8, 3), (8, 4), (8, 5), (8, 6), (8, 7), (8, 8), (8, 9), (8, 10), (8, 11), (8, 12), (8, 13), (8, 14), (8, 15), (8, 16), (8, 17), (8, 18), (8, 19), (8, 20), (8, 21), (8, 22), (8, 23), (9, 0), (9, 1), (9, 2), (9, 3), (9, 4), (9, 5), (9, 6), (9, 7), (9, 8), (9, 9), (9, 10), (9, 11), (9, 12), (9, 13), (9, 14), (9, 15), (9, 16), (9, 17), (9, 18), (9, 19), (9, 20), (9, 21), (9, 22), (9, 23), (10, 0), (10, 1), (10, 2), (10, 3), (10, 4), (10, 5), (10, 6), (10, 7), (10, 8), (10, 9), (10, 10), (10, 11), (10, 12), (10, 13), (10, 14), (10, 15), (10, 16), (10, 17), (10, 18), (10, 19), (10, 20), (10, 21), (10, 22), (10, 23), (11, 0), (11, 1), (11, 2), (11, 3), (11, 4), (11, 5), (11, 6), (11, 7), (11, 8), (11, 9), (11, 10), (11, 11), (11, 12), (11, 13), (11, 14), (11, 15), (11, 16), (11, 17), (11, 18), (11, 19), (11, 20), (11, 21), (11, 22), (11, 23), (12, 0), (12, 1), (12, 2), (12, 3), (12, 4), (12, 5), (12, 6), (12, 7), (12, 8), (12, 9), (12, 10), (12, 11), (12, 12), (12, 13), (12, 14), (12, 15), (12, 16), (12, 17), (12, 18), (12, 19), (12, 20), (12, 21), (12, 22), (12, 23), (13, 0), (13, 1), (13, 2), (13, 3), (13, 4), (13, 5), (13, 6), (13, 7), (13, 8), (13, 9), (13, 10), (13, 11), (13, 12), (13, 13), (13, 14), (13, 15), (13, 16), (13, 17), (13, 18), (13, 19), (13, 20), (13, 21), (13, 22), (13, 23), (14, 0), (14, 1), (14, 2), (14, 3), (14, 4), (14, 5), (14, 6), (14, 7), (14, 8), (14, 9), (18, 0), (21, 0), (21, 1), (21, 2), (21, 3), (21, 4), (21, 5), (21, 6), (21, 7), (21, 8), (21, 9), (21, 10), (21, 11), (19, 0), (19, 1), (19, 2), (19, 3), (19, 4), (19, 5), (19, 6), (19, 7), (22, 0), (22, 1), (22, 2), (23, 0), (23, 1), (23, 2), (23, 3), (23, 4), (24, 0), (24, 1), (24, 2), (24, 3), (24, 4), (24, 5), (24, 6), (24, 7), (24, 8), (24, 9), (25, 0), (25, 1), (25, 2), (25, 3), (25, 4), (25, 5), (25, 6), (25, 7), (25, 8), (26, 0), (26, 1), (26, 2), (26, 3), (26, 4), (26, 5), (26, 6), (20, 0), (27, 0), (27, 1), (27, 2)] (by rfl) (by decide +kernel)) (goodIn_sub (fun _ h => List.mem_cons_of_mem _ (List.mem_append_left _ (List.mem_append_right _ h))) (by decide +kernel))) (goodIn_sub (fun _ h => List.mem_cons_of_mem _ (List.mem_append_left _ (List.mem_append_left _ (List.mem_append_right _ h)))) (by decide +kernel))
set_option maxRecDepth 20000 in
theorem gL_passes_X9_forecast : GoodIn wsL_passes (wsV RL 67 RX9 yX9_forecast wsX9_forecast) := goodIn_app (goodIn_of _ (by decide +kernel)) ggL_passes_X9_forecast
set_option maxRecDepth 100000 in
set_option maxHeartbeats 4000000 in
theorem ggL_passes_X9_balance : GoodIn wsL_passes wsX9_balance := goodIn_ca (goodIn_k ch_wsL_passes chm_wsL_passes _ [(14, 13), (1, 15), (1, 16), (1, 17), (1, 18), (0, 4), (1, 19), (1, 20), (1, 21), (0, 6), (1, 22), (1, 23), (2, 0), (2, 1), (2, 2), (2, 3), (2, 4), (2, 5), (2, 6), (2, 7), (2, 8), (2, 9), (2, 10), (2, 11), (2, 12), (2, 13), (2, 14), (2, 15), (2, 16), (2, 17), (2, 18), (2, 19), (2, 20), (2, 21), (2, 22), (21, 0), (21, 1), (21, 2), (21, 3), (21, 4), (21, 5), (21, 6), (21, 7), (21, 8), (21, 9), (21, 10), (21, 11), (18, 0), (19, 0), (19, 1), (19, 2), (19, 3), (19, 4), (19, 5), (19, 6), (19, 7), (22, 0), (22, 1), (22, 2)] (by rfl) (by decide +kernel)) (goodIn_sub (fun _ h => List.mem_cons_of_mem _ (List.mem_append_left _ (List.mem_append_right _ h))) (by decide +kernel))
set_option maxRecDepth 20000 in
theorem gL_passes_X9_balance : GoodIn wsL_passes (wsV RL 22 RX9 yX9_balance wsX9_balance) := goodIn_app (goodIn_of _ (by decide +kernel)) ggL_passes_X9_balance
set_option maxRecDepth 100000 in
set_option maxHeartbeats 4000000 in
theorem ggL_passes_X9_scheduled : GoodIn wsL_passes wsX9_scheduled := goodIn_ca (goodIn_ca (goodIn_k ch_wsL_passes chm_wsL_passes _ [(14, 17), (0, 6), (0, 7), (1, 16), (1, 17), (1, 18), (0, 4), (1, 19), (1, 20), (1, 21), (1, 22), (1, 23), (2, 0), (2, 1), (2, 2), (2, 3), (2, 4), (2, 5), (2, 6), (2, 7), (2, 8), (2, 9), (2, 10), (2, 11), (2, 12), (2, 13), (2, 14), (2, 15), (2, 16), (2, 17), (2, 18), (2, 19), (2, 20), (2, 21), (2, 22), (0, 13), (0, 14), (0, 15), (0, 16), (0, 17), (14, 18), (14, 19), (14, 20), (3, 2), (14, 21), (3, 12), (3, 13), (14, 22), (5, 23), (3, 14), (3, 15), (14, 23), (15, 0), (15, 1), (5, 13), (15, 2), (5, 17), (5, 15), (6, 12), (6, 11), (15, 3), (0, 19), (0, 20), (0, 21), (0, 22), (0, 23), (1, 0), (1, 1), (1, 2), (1, 3), (18, 0), (19, 0), (19, 1), (19, 2), (19, 3), (19, 4), (19, 5), (19, 6), (19, 7), (22, 0), (22, 1), (22, 2), (26, 0), (26, 1), (26, 2), (26, 3), (26, 4), (26, 5), (26, 6), (20, 0)] (by rfl) (by decide +kernel)) (goodIn_sub (fun _ h => List.mem_cons_of_mem _ (List.mem_append_left _ (List.mem_append_right _ h))) (by decide +kernel))) (goodIn_sub (fun _ h => List.mem_cons_of_mem _ (List.mem_append_left _ (List.mem_append_left _ (List.mem_append_right _ h)))) (by decide +kernel))
set_option maxRecDepth 20000 in
theorem gL_passes_X9_scheduled : GoodIn wsL_passes (wsV RL 71 RX9 yX9_scheduled wsX9_scheduled) := goodIn_app (goodIn_of _ (by decide +kernel)) ggL_passes_X9_scheduled
set_option maxRecDepth 100000 in
set_option maxHeartbeats 4000000 in
theorem ggL_passes_X9_poolInterest : GoodIn wsL_passes wsX9_poolInterest := goodIn_ca (goodIn_ca (goodIn_k ch_wsL_passes chm_wsL_passes _ [(15, 7), (15, 8), (15, 9), (15, 10), (15, 11), (1, 16), (1, 17), (1, 18), (0, 4), (1, 19), (1, 20), (1, 21), (0, 6), (1, 22), (1, 23), (2, 0), (2, 1), (2, 2), (2, 3), (2, 4), (2, 5), (2, 6), (2, 7), (2, 8), (2, 9), (2, 10), (2, 11), (2, 12), (2, 13), (2, 14), (2, 15), (2, 16), (2, 17), (2, 18), (2, 19), (2, 20), (2, 21), (2, 22), (15, 12), (15, 13), (15, 14), (15, 15), (15, 16), (15, 17), (21, 0), (21, 1), (21, 2), (21, 3), (21, 4), (21, 5), (21, 6), (21, 7), (21, 8), (21, 9), (21, 10), (21, 11), (23, 0), (23, 1), (23, 2), (23, 3), (23, 4), (24, 0), (24, 1), (24, 2), (24, 3), (24, 4), (24, 5), (24, 6), (24, 7), (24, 8), (24, 9), (18, 0), (19, 0), (19, 1), (19, 2), (19, 3), (19, 4), (19, 5), (19, 6), (19, 7), (22, 0), (22, 1), (22, 2)] (by rfl) (by decide +kernel)) (goodIn_sub (fun _ h => List.mem_cons_of_mem _ (List.mem_append_left _ (List.mem_append_right _ h))) (by decide +kernel))) (goodIn_sub (fun _ h => List.mem_cons_of_mem _ (List.mem_append_right _ h)) (by decide +kernel))
set_option maxRecDepth 20000 in
theorem gL_passes_X9_poolInterest : GoodIn wsL_passes (wsV RL 45 RX9 yX9_poolInterest wsX9_poolInterest) := goodIn_app (goodIn_of _ (by decide +kernel)) ggL_passes_X9_poolInterest
set_option maxRecDepth 100000 in
set_option maxHeartbeats 4000000 in
theorem ggL_passes_X9_costOf : GoodIn wsL_passes wsX9_costOf := goodIn_ca (goodIn_k ch_wsL_passes chm_wsL_passes _ [(15, 21), (15, 22), (15, 23), (16, 0), (16, 1), (0, 4), (16, 2), (1, 20), (1, 21), (0, 6), (16, 3), (16, 4), (2, 0), (2, 1), (2, 2), (2, 3), (2, 4), (2, 5), (2, 6), (2, 7), (2, 8), (2, 9), (2, 10), (2, 11), (2, 12), (2, 13), (2, 14), (2, 15), (2, 16), (2, 17), (2, 18), (2, 19), (2, 20), (2, 21), (2, 22), (25, 0), (25, 1), (25, 2), (25, 3), (25, 4), (25, 5), (25, 6), (25, 7), (25, 8), (18, 0), (19, 0), (19, 1), (19, 2), (19, 3), (19, 4), (19, 5), (19, 6), (19, 7), (22, 0), (22, 1), (22, 2)] (by rfl) (by decide +kernel)) (goodIn_sub (fun _ h => List.mem_cons_of_mem _ (List.mem_append_left _ (List.mem_append_right _ h))) (by decide +kernel))
set_option maxRecDepth 20000 in
theorem gL_passes_X9_costOf : GoodIn wsL_passes (wsV RL 54 RX9 yX9_costOf wsX9_costOf) := goodIn_app (goodIn_of _ (by decide +kernel)) ggL_passes_X9_costOf
set_option maxRecDepth 100000 in
set_option maxHeartbeats 4000000 in
theorem ggL_passes_X9_drawn : GoodIn wsL_passes wsX9_drawn := goodIn_ca (goodIn_k ch_wsL_passes chm_wsL_passes _ [(16, 8), (16, 9), (15, 23), (16, 0), (16, 1), (0, 4), (16, 2), (1, 20), (1, 21), (0, 6), (16, 3), (16, 4), (2, 0), (2, 1), (2, 2), (2, 3), (2, 4), (2, 5), (2, 6), (2, 7), (2, 8), (2, 9), (2, 10), (2, 11), (2, 12), (2, 13), (2, 14), (2, 15), (2, 16), (2, 17), (2, 18), (2, 19), (2, 20), (2, 21), (2, 22), (25, 0), (25, 1), (25, 2), (25, 3), (25, 4), (25, 5), (25, 6), (25, 7), (25, 8), (18, 0), (19, 0), (19, 1), (19, 2), (19, 3), (19, 4), (19, 5), (19, 6), (19, 7), (22, 0), (22, 1), (22, 2)] (by rfl) (by decide +kernel)) (goodIn_sub (fun _ h => List.mem_cons_of_mem _ (List.mem_append_left _ (List.mem_append_right _ h))) (by decide +kernel))
set_option maxRecDepth 20000 in
theorem gL_passes_X9_drawn : GoodIn wsL_passes (wsV RL 51 RX9 yX9_drawn wsX9_drawn) := goodIn_app (goodIn_of _ (by decide +kernel)) ggL_passes_X9_drawn
set_option maxRecDepth 100000 in
set_option maxHeartbeats 4000000 in
theorem ggL_passes_X9_passDays : GoodIn wsL_passes wsX9_passDays := goodIn_ca (goodIn_ca (goodIn_k ch_wsL_passes chm_wsL_passes _ [(16, 13), (15, 15), (15, 16), (0, 6), (0, 7), (0, 13), (0, 14), (0, 4), (0, 15), (0, 16), (0, 17), (5, 19), (5, 20), (5, 21), (3, 2), (5, 22), (5, 23), (3, 4), (6, 0), (1, 0), (1, 1), (0, 21), (1, 2), (1, 3), (6, 1), (6, 2), (6, 3), (6, 4), (3, 12), (3, 13), (3, 14), (2, 1), (2, 2), (2, 3), (2, 4), (2, 5), (3, 15), (2, 7), (2, 8), (2, 9), (2, 10), (2, 11), (2, 12), (2, 13), (2, 14), (2, 15), (2, 16), (2, 17), (2, 18), (2, 19), (2, 20), (2, 21), (2, 22), (6, 5), (6, 6), (6, 7), (5, 13), (6, 8), (5, 17), (5, 15), (6, 9), (6, 10), (6, 11), (6, 12), (6, 13), (6, 14), (6, 15), (6, 16), (3, 8), (3, 7), (6, 17), (6, 18), (6, 19), (6, 20), (6, 21), (6, 22), (6, 23), (7, 0), (7, 1), (7, 2), (7, 3), (7, 4), (7, 5), (7, 6), (7, 7), (7, 8), (7, 9), (7, 10), (7, 11), (7, 12), (3, 19), (7, 13), (7, 14), (7, 15), (7, 16), (7, 17), (7, 18), (7, 19), (7, 20), (7, 21), (7, 22), (7, 23), (8, 0), (8, 1), (8, 2), (8, 3), (8, 4), (8, 5), (8, 6), (8, 7), (3, 9), (8, 8), (8, 9), (8, 10), (4, 4), (8, 11), (8, 12), (8, 13), (8, 14), (8, 15), (8, 16), (8, 17), (8, 18), (8, 19), (8, 20), (8, 21), (8, 22), (8, 23), (9, 0), (9, 1), (9, 2), (9, 3), (9, 4), (9, 5), (9, 6), (9, 7), (9, 8), (9, 9), (9, 10), (9, 11), (9, 12), (3, 6), (9, 13), (9, 14), (9, 15), (9, 16), (9, 17), (9, 18), (9, 19), (9, 20), (9, 21), (9, 22), (9, 23), (10, 0), (10, 1), (10, 2), (10, 3), (10, 4), (10, 5), (10, 6), (10, 7), (10, 8), (10, 9), (10, 10), (10, 11), (10, 12), (10, 13), (10, 14), (10, 15), (10, 16), (10, 17), (10, 18), (10, 19), (10, 20), (10, 21), (10, 22), (10, 23), (11, 0), (3, 10), (3, 11), (11, 1), (11, 2), (11, 3), (11, 4), (11, 5), (11, 6), (4, 6), (4, 7), (11, 7), (11, 8), (11, 9), (4, 11), (11, 10), (11, 11), (4, 13), (11, 12), (4, 17), (11, 13), (11, 14), (11, 15), (11, 16), (11, 17), (11, 18), (11, 19), (11, 20), (5, 2), (11, 21), (5, 8), (5, 4), (11, 22), (11, 23), (12, 0), (12, 1), (12, 2), (12, 3), (12, 4), (12, 5), (12, 6), (12, 7), (12, 8), (12, 9), (12, 10), (12, 11), (4, 15), (12, 12), (12, 13), (12, 14), (12, 15), (12, 16), (12, 17), (12, 18), (12, 19), (12, 20), (12, 21), (12, 22), (12, 23), (13, 0), (13, 1), (13, 2), (3, 21), (3, 23), (13, 3), (13, 4), (13, 5), (13, 6), (13, 7), (5, 6), (13, 8), (13, 9), (18, 0), (19, 0), (19, 1), (19, 2), (19, 3), (19, 4), (19, 5), (19, 6), (19, 7), (20, 0), (22, 0), (22, 1), (22, 2), (26, 0), (26, 1), (26, 2), (26, 3), (26, 4), (26, 5), (26, 6), (21, 0), (21, 1), (21, 2), (21, 3), (21, 4), (21, 5), (21, 6), (21, 7), (21, 8), (21, 9), (21, 10), (21, 11), (23, 0), (23, 1), (23, 2), (23, 3), (23, 4), (25, 0), (25, 1), (25, 2), (25, 3), (25, 4), (25, 5), (25, 6), (25, 7), (25, 8), (27, 0), (27, 1), (27, 2), (24, 0), (24, 1), (24, 2), (24, 3), (24, 4), (24, 5), (24, 6), (24, 7), (24, 8), (24, 9)] (by rfl) (by decide +kernel)) (goodIn_sub (fun _ h => List.mem_cons_of_mem _ (List.mem_append_right _ h)) (by decide +kernel))) (goodIn_sub (fun _ h => List.mem_cons_of_mem _ (List.mem_append_left _ (List.mem_append_left _ (List.mem_append_right _ h)))) (by decide +kernel))
set_option maxRecDepth 20000 in
theorem gL_passes_X9_passDays : GoodIn wsL_passes (wsV RL 75 RX9 yX9_passDays wsX9_passDays) := goodIn_app (goodIn_of _ (by decide +kernel)) ggL_passes_X9_passDays
set_option maxRecDepth 100000 in
set_option maxHeartbeats 4000000 in
theorem ggL_passes_L_isSettled : GoodIn wsL_passes wsL_isSettled := goodIn_ca (goodIn_ca (goodIn_k ch_wsL_passes chm_wsL_passes _ [(16, 16), (14, 10), (14, 11), (14, 12), (0, 4), (14, 13), (1, 15), (1, 16), (1, 17), (1, 18), (1, 19), (1, 20), (1, 21), (0, 6), (1, 22), (1, 23), (2, 0), (2, 1), (2, 2), (2, 3), (2, 4), (2, 5), (2, 6), (2, 7), (2, 8), (2, 9), (2, 10), (2, 11), (2, 12), (2, 13), (2, 14), (2, 15), (2, 16), (2, 17), (2, 18), (2, 19), (2, 20), (2, 21), (2, 22), (16, 17), (16, 18), (16, 19), (16, 20), (16, 21), (16, 22), (16, 23), (17, 0), (17, 1), (0, 16), (0, 17), (17, 2), (17, 3), (17, 4), (9, 7), (9, 8), (3, 2), (9, 9), (9, 10), (9, 11), (9, 12), (3, 6), (3, 7), (9, 13), (9, 14), (9, 15), (7, 4), (7, 5), (7, 6), (3, 14), (3, 15), (1, 4), (1, 5), (1, 6), (1, 7), (1, 8), (1, 9), (1, 10), (16, 5), (16, 6), (16, 7), (16, 8), (16, 9), (15, 23), (16, 0), (16, 1), (16, 2), (16, 3), (16, 4), (21, 0), (21, 1), (21, 2), (21, 3), (21, 4), (21, 5), (21, 6), (21, 7), (21, 8), (21, 9), (21, 10), (21, 11), (18, 0), (19, 0), (19, 1), (19, 2), (19, 3), (19, 4), (19, 5), (19, 6), (19, 7), (22, 0), (22, 1), (22, 2), (27, 0), (27, 1), (27, 2), (25, 0), (25, 1), (25, 2), (25, 3), (25, 4), (25, 5), (25, 6), (25, 7), (25, 8)] (by rfl) (by decide +kernel)) (goodIn_sub (fun _ h => List.mem_cons_of_mem _ (List.mem_append_left _ (List.mem_append_right _ h))) (by decide +kernel))) (goodIn_sub (fun _ h => List.mem_cons_of_mem _ (List.mem_append_left _ (List.mem_append_left _ (List.mem_append_right _ h)))) (by decide +kernel))
set_option maxRecDepth 20000 in
theorem gL_passes_L_isSettled : GoodIn wsL_passes (va_wsS RL 78 yL_isSettled wsL_isSettled) := goodIn_app (goodIn_of _ (by decide +kernel)) ggL_passes_L_isSettled
theorem dL_passes_0 : decode cL_passes 0 = .ok (.aload_n 0, 1) := by decide +kernel
theorem dL_passes_1 : decode cL_passes 1 = .ok (.invokevirtual 61, 3) := by decide +kernel
theorem dL_passes_4 : decode cL_passes 4 = .ok (.istore_n 3, 1) := by decide +kernel
theorem dL_passes_5 : decode cL_passes 5 = .ok (.iload_n 3, 1) := by decide +kernel
theorem dL_passes_6 : decode cL_passes 6 = .ok (.sipush 400, 3) := by decide +kernel
theorem dL_passes_9 : decode cL_passes 9 = .ok (.if_icmp .lt 5, 3) := by decide +kernel
theorem dL_passes_12 : decode cL_passes 12 = .ok (.iconst 1, 1) := by decide +kernel
theorem dL_passes_13 : decode cL_passes 13 = .ok (.ireturn, 1) := by decide +kernel
theorem dL_passes_14 : decode cL_passes 14 = .ok (.aload_n 0, 1) := by decide +kernel
theorem dL_passes_15 : decode cL_passes 15 = .ok (.iload_n 3, 1) := by decide +kernel
theorem dL_passes_16 : decode cL_passes 16 = .ok (.invokevirtual 64, 3) := by decide +kernel
theorem dL_passes_19 : decode cL_passes 19 = .ok (.iload_n 3, 1) := by decide +kernel
theorem dL_passes_20 : decode cL_passes 20 = .ok (.if_icmp .ne 7, 3) := by decide +kernel
theorem dL_passes_23 : decode cL_passes 23 = .ok (.iconst 1, 1) := by decide +kernel
theorem dL_passes_24 : decode cL_passes 24 = .ok (.goto 4, 3) := by decide +kernel
theorem dL_passes_27 : decode cL_passes 27 = .ok (.iconst 0, 1) := by decide +kernel
theorem dL_passes_28 : decode cL_passes 28 = .ok (.istore 4, 2) := by decide +kernel
theorem dL_passes_30 : decode cL_passes 30 = .ok (.bipush 10, 2) := by decide +kernel
theorem dL_passes_32 : decode cL_passes 32 = .ok (.newarray .long, 2) := by decide +kernel
theorem dL_passes_34 : decode cL_passes 34 = .ok (.astore 5, 2) := by decide +kernel
theorem dL_passes_36 : decode cL_passes 36 = .ok (.bipush 10, 2) := by decide +kernel
theorem dL_passes_38 : decode cL_passes 38 = .ok (.newarray .long, 2) := by decide +kernel
theorem dL_passes_40 : decode cL_passes 40 = .ok (.astore 6, 2) := by decide +kernel
theorem dL_passes_42 : decode cL_passes 42 = .ok (.iconst 0, 1) := by decide +kernel
theorem dL_passes_43 : decode cL_passes 43 = .ok (.istore 7, 2) := by decide +kernel
theorem dL_passes_45 : decode cL_passes 45 = .ok (.iload 7, 2) := by decide +kernel
theorem dL_passes_47 : decode cL_passes 47 = .ok (.aload_n 1, 1) := by decide +kernel
theorem dL_passes_48 : decode cL_passes 48 = .ok (.iconst 0, 1) := by decide +kernel
theorem dL_passes_49 : decode cL_passes 49 = .ok (.iaload, 1) := by decide +kernel
theorem dL_passes_50 : decode cL_passes 50 = .ok (.if_icmp .ge 70, 3) := by decide +kernel
theorem dL_passes_53 : decode cL_passes 53 = .ok (.aload_n 1, 1) := by decide +kernel
theorem dL_passes_54 : decode cL_passes 54 = .ok (.iload 7, 2) := by decide +kernel
theorem dL_passes_56 : decode cL_passes 56 = .ok (.invokestatic 29, 3) := by decide +kernel
theorem dL_passes_59 : decode cL_passes 59 = .ok (.istore 8, 2) := by decide +kernel
theorem dL_passes_61 : decode cL_passes 61 = .ok (.aload 6, 2) := by decide +kernel
theorem dL_passes_63 : decode cL_passes 63 = .ok (.iload 7, 2) := by decide +kernel
theorem dL_passes_65 : decode cL_passes 65 = .ok (.aload_n 0, 1) := by decide +kernel
theorem dL_passes_66 : decode cL_passes 66 = .ok (.iload 7, 2) := by decide +kernel
theorem dL_passes_68 : decode cL_passes 68 = .ok (.iconst 1, 1) := by decide +kernel
theorem dL_passes_69 : decode cL_passes 69 = .ok (.invokevirtual 67, 3) := by decide +kernel
theorem dL_passes_72 : decode cL_passes 72 = .ok (.lastore, 1) := by decide +kernel
theorem dL_passes_73 : decode cL_passes 73 = .ok (.aload 5, 2) := by decide +kernel
theorem dL_passes_75 : decode cL_passes 75 = .ok (.iload 8, 2) := by decide +kernel
theorem dL_passes_77 : decode cL_passes 77 = .ok (.dup2, 1) := by decide +kernel
theorem dL_passes_78 : decode cL_passes 78 = .ok (.laload, 1) := by decide +kernel
theorem dL_passes_79 : decode cL_passes 79 = .ok (.aload_n 0, 1) := by decide +kernel
theorem dL_passes_80 : decode cL_passes 80 = .ok (.iload 7, 2) := by decide +kernel
theorem dL_passes_82 : decode cL_passes 82 = .ok (.invokevirtual 22, 3) := by decide +kernel
theorem dL_passes_85 : decode cL_passes 85 = .ok (.aload_n 0, 1) := by decide +kernel
theorem dL_passes_86 : decode cL_passes 86 = .ok (.iload 7, 2) := by decide +kernel
theorem dL_passes_88 : decode cL_passes 88 = .ok (.iload_n 3, 1) := by decide +kernel
theorem dL_passes_89 : decode cL_passes 89 = .ok (.iload_n 3, 1) := by decide +kernel
theorem dL_passes_90 : decode cL_passes 90 = .ok (.invokevirtual 71, 3) := by decide +kernel
theorem dL_passes_93 : decode cL_passes 93 = .ok (.ladd, 1) := by decide +kernel
theorem dL_passes_94 : decode cL_passes 94 = .ok (.iload 7, 2) := by decide +kernel
theorem dL_passes_96 : decode cL_passes 96 = .ok (.iload 8, 2) := by decide +kernel
theorem dL_passes_98 : decode cL_passes 98 = .ok (.if_icmp .ne 12, 3) := by decide +kernel
theorem dL_passes_101 : decode cL_passes 101 = .ok (.aload_n 0, 1) := by decide +kernel
theorem dL_passes_102 : decode cL_passes 102 = .ok (.iload 7, 2) := by decide +kernel
theorem dL_passes_104 : decode cL_passes 104 = .ok (.invokevirtual 45, 3) := by decide +kernel
theorem dL_passes_107 : decode cL_passes 107 = .ok (.goto 4, 3) := by decide +kernel
theorem dL_passes_110 : decode cL_passes 110 = .ok (.lconst 0, 1) := by decide +kernel
theorem dL_passes_111 : decode cL_passes 111 = .ok (.lsub, 1) := by decide +kernel
theorem dL_passes_112 : decode cL_passes 112 = .ok (.ladd, 1) := by decide +kernel
theorem dL_passes_113 : decode cL_passes 113 = .ok (.lastore, 1) := by decide +kernel
theorem dL_passes_114 : decode cL_passes 114 = .ok (.iinc 7 1, 3) := by decide +kernel
theorem dL_passes_117 : decode cL_passes 117 = .ok (.goto (-72), 3) := by decide +kernel
theorem dL_passes_120 : decode cL_passes 120 = .ok (.iconst 0, 1) := by decide +kernel
theorem dL_passes_121 : decode cL_passes 121 = .ok (.istore 7, 2) := by decide +kernel
theorem dL_passes_123 : decode cL_passes 123 = .ok (.iload 7, 2) := by decide +kernel
theorem dL_passes_125 : decode cL_passes 125 = .ok (.aload_n 1, 1) := by decide +kernel
theorem dL_passes_126 : decode cL_passes 126 = .ok (.iconst 1, 1) := by decide +kernel
theorem dL_passes_127 : decode cL_passes 127 = .ok (.iaload, 1) := by decide +kernel
theorem dL_passes_128 : decode cL_passes 128 = .ok (.if_icmp .ge 38, 3) := by decide +kernel
theorem dL_passes_131 : decode cL_passes 131 = .ok (.aload 5, 2) := by decide +kernel
theorem dL_passes_133 : decode cL_passes 133 = .ok (.aload_n 1, 1) := by decide +kernel
theorem dL_passes_134 : decode cL_passes 134 = .ok (.iconst 2, 1) := by decide +kernel
theorem dL_passes_135 : decode cL_passes 135 = .ok (.iload 7, 2) := by decide +kernel
theorem dL_passes_137 : decode cL_passes 137 = .ok (.imul, 1) := by decide +kernel
theorem dL_passes_138 : decode cL_passes 138 = .ok (.bipush 22, 2) := by decide +kernel
theorem dL_passes_140 : decode cL_passes 140 = .ok (.iadd, 1) := by decide +kernel
theorem dL_passes_141 : decode cL_passes 141 = .ok (.iaload, 1) := by decide +kernel
theorem dL_passes_142 : decode cL_passes 142 = .ok (.dup2, 1) := by decide +kernel
theorem dL_passes_143 : decode cL_passes 143 = .ok (.laload, 1) := by decide +kernel
theorem dL_passes_144 : decode cL_passes 144 = .ok (.aload_n 0, 1) := by decide +kernel
theorem dL_passes_145 : decode cL_passes 145 = .ok (.iload 7, 2) := by decide +kernel
theorem dL_passes_147 : decode cL_passes 147 = .ok (.invokevirtual 54, 3) := by decide +kernel
theorem dL_passes_150 : decode cL_passes 150 = .ok (.aload_n 0, 1) := by decide +kernel
theorem dL_passes_151 : decode cL_passes 151 = .ok (.iload 7, 2) := by decide +kernel
theorem dL_passes_153 : decode cL_passes 153 = .ok (.invokevirtual 51, 3) := by decide +kernel
theorem dL_passes_156 : decode cL_passes 156 = .ok (.i2l, 1) := by decide +kernel
theorem dL_passes_157 : decode cL_passes 157 = .ok (.lsub, 1) := by decide +kernel
theorem dL_passes_158 : decode cL_passes 158 = .ok (.ladd, 1) := by decide +kernel
theorem dL_passes_159 : decode cL_passes 159 = .ok (.lastore, 1) := by decide +kernel
theorem dL_passes_160 : decode cL_passes 160 = .ok (.iinc 7 1, 3) := by decide +kernel
theorem dL_passes_163 : decode cL_passes 163 = .ok (.goto (-40), 3) := by decide +kernel
theorem dL_passes_166 : decode cL_passes 166 = .ok (.aload_n 0, 1) := by decide +kernel
theorem dL_passes_167 : decode cL_passes 167 = .ok (.iconst 1, 1) := by decide +kernel
theorem dL_passes_168 : decode cL_passes 168 = .ok (.invokevirtual 75, 3) := by decide +kernel
theorem dL_passes_171 : decode cL_passes 171 = .ok (.iload_n 3, 1) := by decide +kernel
theorem dL_passes_172 : decode cL_passes 172 = .ok (.iconst 1, 1) := by decide +kernel
theorem dL_passes_173 : decode cL_passes 173 = .ok (.iadd, 1) := by decide +kernel
theorem dL_passes_174 : decode cL_passes 174 = .ok (.if_icmp .ne 7, 3) := by decide +kernel
theorem dL_passes_177 : decode cL_passes 177 = .ok (.iconst 1, 1) := by decide +kernel
theorem dL_passes_178 : decode cL_passes 178 = .ok (.goto 4, 3) := by decide +kernel
theorem dL_passes_181 : decode cL_passes 181 = .ok (.iconst 0, 1) := by decide +kernel
theorem dL_passes_182 : decode cL_passes 182 = .ok (.istore 7, 2) := by decide +kernel
theorem dL_passes_184 : decode cL_passes 184 = .ok (.iconst 0, 1) := by decide +kernel
theorem dL_passes_185 : decode cL_passes 185 = .ok (.istore 8, 2) := by decide +kernel
theorem dL_passes_187 : decode cL_passes 187 = .ok (.iload 8, 2) := by decide +kernel
theorem dL_passes_189 : decode cL_passes 189 = .ok (.aload_n 1, 1) := by decide +kernel
theorem dL_passes_190 : decode cL_passes 190 = .ok (.iconst 0, 1) := by decide +kernel
theorem dL_passes_191 : decode cL_passes 191 = .ok (.iaload, 1) := by decide +kernel
theorem dL_passes_192 : decode cL_passes 192 = .ok (.if_icmp .ge 76, 3) := by decide +kernel
theorem dL_passes_195 : decode cL_passes 195 = .ok (.aload_n 1, 1) := by decide +kernel
theorem dL_passes_196 : decode cL_passes 196 = .ok (.iload 8, 2) := by decide +kernel
theorem dL_passes_198 : decode cL_passes 198 = .ok (.invokestatic 29, 3) := by decide +kernel
theorem dL_passes_201 : decode cL_passes 201 = .ok (.istore 9, 2) := by decide +kernel
theorem dL_passes_203 : decode cL_passes 203 = .ok (.aload 5, 2) := by decide +kernel
theorem dL_passes_205 : decode cL_passes 205 = .ok (.iload 9, 2) := by decide +kernel
theorem dL_passes_207 : decode cL_passes 207 = .ok (.dup2, 1) := by decide +kernel
theorem dL_passes_208 : decode cL_passes 208 = .ok (.laload, 1) := by decide +kernel
theorem dL_passes_209 : decode cL_passes 209 = .ok (.aload_n 0, 1) := by decide +kernel
theorem dL_passes_210 : decode cL_passes 210 = .ok (.iload 8, 2) := by decide +kernel
theorem dL_passes_212 : decode cL_passes 212 = .ok (.invokevirtual 22, 3) := by decide +kernel
theorem dL_passes_215 : decode cL_passes 215 = .ok (.iload 8, 2) := by decide +kernel
theorem dL_passes_217 : decode cL_passes 217 = .ok (.iload 9, 2) := by decide +kernel
theorem dL_passes_219 : decode cL_passes 219 = .ok (.if_icmp .ne 12, 3) := by decide +kernel
theorem dL_passes_222 : decode cL_passes 222 = .ok (.aload_n 0, 1) := by decide +kernel
theorem dL_passes_223 : decode cL_passes 223 = .ok (.iload 8, 2) := by decide +kernel
theorem dL_passes_225 : decode cL_passes 225 = .ok (.invokevirtual 45, 3) := by decide +kernel
theorem dL_passes_228 : decode cL_passes 228 = .ok (.goto 4, 3) := by decide +kernel
theorem dL_passes_231 : decode cL_passes 231 = .ok (.lconst 0, 1) := by decide +kernel
theorem dL_passes_232 : decode cL_passes 232 = .ok (.lsub, 1) := by decide +kernel
theorem dL_passes_233 : decode cL_passes 233 = .ok (.lsub, 1) := by decide +kernel
theorem dL_passes_234 : decode cL_passes 234 = .ok (.lastore, 1) := by decide +kernel
theorem dL_passes_235 : decode cL_passes 235 = .ok (.iload 7, 2) := by decide +kernel
theorem dL_passes_237 : decode cL_passes 237 = .ok (.ifCond .eq 22, 3) := by decide +kernel
theorem dL_passes_240 : decode cL_passes 240 = .ok (.aload_n 0, 1) := by decide +kernel
theorem dL_passes_241 : decode cL_passes 241 = .ok (.iload 8, 2) := by decide +kernel
theorem dL_passes_243 : decode cL_passes 243 = .ok (.invokevirtual 22, 3) := by decide +kernel
theorem dL_passes_246 : decode cL_passes 246 = .ok (.aload 6, 2) := by decide +kernel
theorem dL_passes_248 : decode cL_passes 248 = .ok (.iload 8, 2) := by decide +kernel
theorem dL_passes_250 : decode cL_passes 250 = .ok (.laload, 1) := by decide +kernel
theorem dL_passes_251 : decode cL_passes 251 = .ok (.lcmp, 1) := by decide +kernel
theorem dL_passes_252 : decode cL_passes 252 = .ok (.ifCond .ne 7, 3) := by decide +kernel
theorem dL_passes_255 : decode cL_passes 255 = .ok (.iconst 1, 1) := by decide +kernel
theorem dL_passes_256 : decode cL_passes 256 = .ok (.goto 4, 3) := by decide +kernel
theorem dL_passes_259 : decode cL_passes 259 = .ok (.iconst 0, 1) := by decide +kernel
theorem dL_passes_260 : decode cL_passes 260 = .ok (.istore 7, 2) := by decide +kernel
theorem dL_passes_262 : decode cL_passes 262 = .ok (.iinc 8 1, 3) := by decide +kernel
theorem dL_passes_265 : decode cL_passes 265 = .ok (.goto (-78), 3) := by decide +kernel
theorem dL_passes_268 : decode cL_passes 268 = .ok (.iconst 0, 1) := by decide +kernel
theorem dL_passes_269 : decode cL_passes 269 = .ok (.istore 8, 2) := by decide +kernel
theorem dL_passes_271 : decode cL_passes 271 = .ok (.iload 8, 2) := by decide +kernel
theorem dL_passes_273 : decode cL_passes 273 = .ok (.aload_n 1, 1) := by decide +kernel
theorem dL_passes_274 : decode cL_passes 274 = .ok (.iconst 1, 1) := by decide +kernel
theorem dL_passes_275 : decode cL_passes 275 = .ok (.iaload, 1) := by decide +kernel
theorem dL_passes_276 : decode cL_passes 276 = .ok (.if_icmp .ge 38, 3) := by decide +kernel
theorem dL_passes_279 : decode cL_passes 279 = .ok (.aload 5, 2) := by decide +kernel
theorem dL_passes_281 : decode cL_passes 281 = .ok (.aload_n 1, 1) := by decide +kernel
theorem dL_passes_282 : decode cL_passes 282 = .ok (.iconst 2, 1) := by decide +kernel
theorem dL_passes_283 : decode cL_passes 283 = .ok (.iload 8, 2) := by decide +kernel
theorem dL_passes_285 : decode cL_passes 285 = .ok (.imul, 1) := by decide +kernel
theorem dL_passes_286 : decode cL_passes 286 = .ok (.bipush 22, 2) := by decide +kernel
theorem dL_passes_288 : decode cL_passes 288 = .ok (.iadd, 1) := by decide +kernel
theorem dL_passes_289 : decode cL_passes 289 = .ok (.iaload, 1) := by decide +kernel
theorem dL_passes_290 : decode cL_passes 290 = .ok (.dup2, 1) := by decide +kernel
theorem dL_passes_291 : decode cL_passes 291 = .ok (.laload, 1) := by decide +kernel
theorem dL_passes_292 : decode cL_passes 292 = .ok (.aload_n 0, 1) := by decide +kernel
theorem dL_passes_293 : decode cL_passes 293 = .ok (.iload 8, 2) := by decide +kernel
theorem dL_passes_295 : decode cL_passes 295 = .ok (.invokevirtual 54, 3) := by decide +kernel
theorem dL_passes_298 : decode cL_passes 298 = .ok (.aload_n 0, 1) := by decide +kernel
theorem dL_passes_299 : decode cL_passes 299 = .ok (.iload 8, 2) := by decide +kernel
theorem dL_passes_301 : decode cL_passes 301 = .ok (.invokevirtual 51, 3) := by decide +kernel
theorem dL_passes_304 : decode cL_passes 304 = .ok (.i2l, 1) := by decide +kernel
theorem dL_passes_305 : decode cL_passes 305 = .ok (.lsub, 1) := by decide +kernel
theorem dL_passes_306 : decode cL_passes 306 = .ok (.lsub, 1) := by decide +kernel
theorem dL_passes_307 : decode cL_passes 307 = .ok (.lastore, 1) := by decide +kernel
theorem dL_passes_308 : decode cL_passes 308 = .ok (.iinc 8 1, 3) := by decide +kernel
theorem dL_passes_311 : decode cL_passes 311 = .ok (.goto (-40), 3) := by decide +kernel
theorem dL_passes_314 : decode cL_passes 314 = .ok (.iconst 0, 1) := by decide +kernel
theorem dL_passes_315 : decode cL_passes 315 = .ok (.istore 8, 2) := by decide +kernel
theorem dL_passes_317 : decode cL_passes 317 = .ok (.iload 8, 2) := by decide +kernel
theorem dL_passes_319 : decode cL_passes 319 = .ok (.aload_n 1, 1) := by decide +kernel
theorem dL_passes_320 : decode cL_passes 320 = .ok (.iconst 0, 1) := by decide +kernel
theorem dL_passes_321 : decode cL_passes 321 = .ok (.iaload, 1) := by decide +kernel
theorem dL_passes_322 : decode cL_passes 322 = .ok (.if_icmp .ge 31, 3) := by decide +kernel
theorem dL_passes_325 : decode cL_passes 325 = .ok (.iload 7, 2) := by decide +kernel
theorem dL_passes_327 : decode cL_passes 327 = .ok (.ifCond .eq 17, 3) := by decide +kernel
theorem dL_passes_330 : decode cL_passes 330 = .ok (.aload 5, 2) := by decide +kernel
theorem dL_passes_332 : decode cL_passes 332 = .ok (.iload 8, 2) := by decide +kernel
theorem dL_passes_334 : decode cL_passes 334 = .ok (.laload, 1) := by decide +kernel
theorem dL_passes_335 : decode cL_passes 335 = .ok (.lconst 0, 1) := by decide +kernel
theorem dL_passes_336 : decode cL_passes 336 = .ok (.lcmp, 1) := by decide +kernel
theorem dL_passes_337 : decode cL_passes 337 = .ok (.ifCond .ne 7, 3) := by decide +kernel
theorem dL_passes_340 : decode cL_passes 340 = .ok (.iconst 1, 1) := by decide +kernel
theorem dL_passes_341 : decode cL_passes 341 = .ok (.goto 4, 3) := by decide +kernel
theorem dL_passes_344 : decode cL_passes 344 = .ok (.iconst 0, 1) := by decide +kernel
theorem dL_passes_345 : decode cL_passes 345 = .ok (.istore 7, 2) := by decide +kernel
theorem dL_passes_347 : decode cL_passes 347 = .ok (.iinc 8 1, 3) := by decide +kernel
theorem dL_passes_350 : decode cL_passes 350 = .ok (.goto (-33), 3) := by decide +kernel
theorem dL_passes_353 : decode cL_passes 353 = .ok (.iload 7, 2) := by decide +kernel
theorem dL_passes_355 : decode cL_passes 355 = .ok (.ifCond .eq 30, 3) := by decide +kernel
theorem dL_passes_358 : decode cL_passes 358 = .ok (.iload_n 3, 1) := by decide +kernel
theorem dL_passes_359 : decode cL_passes 359 = .ok (.iconst 1, 1) := by decide +kernel
theorem dL_passes_360 : decode cL_passes 360 = .ok (.iadd, 1) := by decide +kernel
theorem dL_passes_361 : decode cL_passes 361 = .ok (.bipush 20, 2) := by decide +kernel
theorem dL_passes_363 : decode cL_passes 363 = .ok (.irem, 1) := by decide +kernel
theorem dL_passes_364 : decode cL_passes 364 = .ok (.ifCond .eq 17, 3) := by decide +kernel
theorem dL_passes_367 : decode cL_passes 367 = .ok (.iload 4, 2) := by decide +kernel
theorem dL_passes_369 : decode cL_passes 369 = .ok (.ifCond .eq 12, 3) := by decide +kernel
theorem dL_passes_372 : decode cL_passes 372 = .ok (.aload_n 0, 1) := by decide +kernel
theorem dL_passes_373 : decode cL_passes 373 = .ok (.aload_n 1, 1) := by decide +kernel
theorem dL_passes_374 : decode cL_passes 374 = .ok (.aload_n 2, 1) := by decide +kernel
theorem dL_passes_375 : decode cL_passes 375 = .ok (.invokestatic 78, 3) := by decide +kernel
theorem dL_passes_378 : decode cL_passes 378 = .ok (.ifCond .eq 7, 3) := by decide +kernel
theorem dL_passes_381 : decode cL_passes 381 = .ok (.iconst 1, 1) := by decide +kernel
theorem dL_passes_382 : decode cL_passes 382 = .ok (.goto 4, 3) := by decide +kernel
theorem dL_passes_385 : decode cL_passes 385 = .ok (.iconst 0, 1) := by decide +kernel
theorem dL_passes_386 : decode cL_passes 386 = .ok (.ireturn, 1) := by decide +kernel
def ch_wsL_foretells : List (List Cond) := [wsL_foretells_r1, wsL_foretells_r2, wsL_foretells_r3, wsL_foretells_r4, wsL_foretells_r5, wsL_foretells_r6, wsL_foretells_r7, wsL_foretells_r8, wsL_foretells_r9, wsL_foretells_r10, wsL_foretells_r11, wsL_foretells_r12, wsL_foretells_r13, wsL_foretells_r14, wsL_foretells_r15, wsX90, wsX30, wsX00, wsJx4a65c0, wsX60, wsX70, wsX50, wsX40, wsX20, wsX10]
theorem chm_wsL_foretells : ∀ c ∈ ch_wsL_foretells, ∀ w ∈ c, w ∈ wsL_foretells := List.forall_mem_cons.mpr ⟨(fun w h => (List.mem_cons_of_mem _ (List.mem_append_left _ (List.mem_append_left _ (List.mem_append_left _ (List.mem_append_left _ (List.mem_append_left _ (List.mem_append_left _ (List.mem_append_left _ (List.mem_append_left _ (List.mem_append_left _ (List.mem_append_left _ (List.mem_append_left _ (List.mem_append_left _ (List.mem_append_left _ (List.mem_append_left _ h)))))))))))))))), List.forall_mem_cons.mpr ⟨(fun w h => (List.mem_cons_of_mem _ (List.mem_append_left _ (List.mem_append_left _ (List.mem_append_left _ (List.mem_append_left _ (List.mem_append_left _ (List.mem_append_left _ (List.mem_append_left _ (List.mem_append_left _ (List.mem_append_left _ (List.mem_append_left _ (List.mem_append_left _ (List.mem_append_left _ (List.mem_append_left _ (List.mem_append_right _ (List.mem_append_left _ h))))))))))))))))), List.forall_mem_cons.mpr ⟨(fun w h => (List.mem_cons_of_mem _ (List.mem_append_left _ (List.mem_append_left _ (List.mem_append_left _ (List.mem_append_left _ (List.mem_append_left _ (List.mem_append_left _ (List.mem_append_left _ (List.mem_append_left _ (List.mem_append_left _ (List.mem_append_left _ (List.mem_append_left _ (List.mem_append_left _ (List.mem_append_left _ (List.mem_append_right _ (List.mem_append_right _ (List.mem_append_left _ h)))))))))))))))))), List.forall_mem_cons.mpr ⟨(fun w h => (List.mem_cons_of_mem _ (List.mem_append_left _ (List.mem_append_left _ (List.mem_append_left _ (List.mem_append_left _ (List.mem_append_left _ (List.mem_append_left _ (List.mem_append_left _ (List.mem_append_left _ (List.mem_append_left _ (List.mem_append_left _ (List.mem_append_left _ (List.mem_append_left _ (List.mem_append_left _ (List.mem_append_right _ (List.mem_append_right _ (List.mem_append_right _ (List.mem_append_left _ h))))))))))))))))))), List.forall_mem_cons.mpr ⟨(fun w h => (List.mem_cons_of_mem _ (List.mem_append_left _ (List.mem_append_left _ (List.mem_append_left _ (List.mem_append_left _ (List.mem_append_left _ (List.mem_append_left _ (List.mem_append_left _ (List.mem_append_left _ (List.mem_append_left _ (List.mem_append_left _ (List.mem_append_left _ (List.mem_append_left _ (List.mem_append_left _ (List.mem_append_right _ (List.mem_append_right _ (List.mem_append_right _ (List.mem_append_right _ (List.mem_append_left _ h)))))))))))))))))))), List.forall_mem_cons.mpr ⟨(fun w h => (List.mem_cons_of_mem _ (List.mem_append_left _ (List.mem_append_left _ (List.mem_append_left _ (List.mem_append_left _ (List.mem_append_left _ (List.mem_append_left _ (List.mem_append_left _ (List.mem_append_left _ (List.mem_append_left _ (List.mem_append_left _ (List.mem_append_left _ (List.mem_append_left _ (List.mem_append_left _ (List.mem_append_right _ (List.mem_append_right _ (List.mem_append_right _ (List.mem_append_right _ (List.mem_append_right _ (List.mem_append_left _ h))))))))))))))))))))), List.forall_mem_cons.mpr ⟨(fun w h => (List.mem_cons_of_mem _ (List.mem_append_left _ (List.mem_append_left _ (List.mem_append_left _ (List.mem_append_left _ (List.mem_append_left _ (List.mem_append_left _ (List.mem_append_left _ (List.mem_append_left _ (List.mem_append_left _ (List.mem_append_left _ (List.mem_append_left _ (List.mem_append_left _ (List.mem_append_left _ (List.mem_append_right _ (List.mem_append_right _ (List.mem_append_right _ (List.mem_append_right _ (List.mem_append_right _ (List.mem_append_right _ (List.mem_append_left _ h)))))))))))))))))))))), List.forall_mem_cons.mpr ⟨(fun w h => (List.mem_cons_of_mem _ (List.mem_append_left _ (List.mem_append_left _ (List.mem_append_left _ (List.mem_append_left _ (List.mem_append_left _ (List.mem_append_left _ (List.mem_append_left _ (List.mem_append_left _ (List.mem_append_left _ (List.mem_append_left _ (List.mem_append_left _ (List.mem_append_left _ (List.mem_append_left _ (List.mem_append_right _ (List.mem_append_right _ (List.mem_append_right _ (List.mem_append_right _ (List.mem_append_right _ (List.mem_append_right _ (List.mem_append_right _ (List.mem_append_left _ h))))))))))))))))))))))), List.forall_mem_cons.mpr ⟨(fun w h => (List.mem_cons_of_mem _ (List.mem_append_left _ (List.mem_append_left _ (List.mem_append_left _ (List.mem_append_left _ (List.mem_append_left _ (List.mem_append_left _ (List.mem_append_left _ (List.mem_append_left _ (List.mem_append_left _ (List.mem_append_left _ (List.mem_append_left _ (List.mem_append_left _ (List.mem_append_left _ (List.mem_append_right _ (List.mem_append_right _ (List.mem_append_right _ (List.mem_append_right _ (List.mem_append_right _ (List.mem_append_right _ (List.mem_append_right _ (List.mem_append_right _ (List.mem_append_left _ h)))))))))))))))))))))))), List.forall_mem_cons.mpr ⟨(fun w h => (List.mem_cons_of_mem _ (List.mem_append_left _ (List.mem_append_left _ (List.mem_append_left _ (List.mem_append_left _ (List.mem_append_left _ (List.mem_append_left _ (List.mem_append_left _ (List.mem_append_left _ (List.mem_append_left _ (List.mem_append_left _ (List.mem_append_left _ (List.mem_append_left _ (List.mem_append_left _ (List.mem_append_right _ (List.mem_append_right _ (List.mem_append_right _ (List.mem_append_right _ (List.mem_append_right _ (List.mem_append_right _ (List.mem_append_right _ (List.mem_append_right _ (List.mem_append_right _ (List.mem_append_left _ h))))))))))))))))))))))))), List.forall_mem_cons.mpr ⟨(fun w h => (List.mem_cons_of_mem _ (List.mem_append_left _ (List.mem_append_left _ (List.mem_append_left _ (List.mem_append_left _ (List.mem_append_left _ (List.mem_append_left _ (List.mem_append_left _ (List.mem_append_left _ (List.mem_append_left _ (List.mem_append_left _ (List.mem_append_left _ (List.mem_append_left _ (List.mem_append_left _ (List.mem_append_right _ (List.mem_append_right _ (List.mem_append_right _ (List.mem_append_right _ (List.mem_append_right _ (List.mem_append_right _ (List.mem_append_right _ (List.mem_append_right _ (List.mem_append_right _ (List.mem_append_right _ (List.mem_append_left _ h)))))))))))))))))))))))))), List.forall_mem_cons.mpr ⟨(fun w h => (List.mem_cons_of_mem _ (List.mem_append_left _ (List.mem_append_left _ (List.mem_append_left _ (List.mem_append_left _ (List.mem_append_left _ (List.mem_append_left _ (List.mem_append_left _ (List.mem_append_left _ (List.mem_append_left _ (List.mem_append_left _ (List.mem_append_left _ (List.mem_append_left _ (List.mem_append_left _ (List.mem_append_right _ (List.mem_append_right _ (List.mem_append_right _ (List.mem_append_right _ (List.mem_append_right _ (List.mem_append_right _ (List.mem_append_right _ (List.mem_append_right _ (List.mem_append_right _ (List.mem_append_right _ (List.mem_append_right _ (List.mem_append_left _ h))))))))))))))))))))))))))), List.forall_mem_cons.mpr ⟨(fun w h => (List.mem_cons_of_mem _ (List.mem_append_left _ (List.mem_append_left _ (List.mem_append_left _ (List.mem_append_left _ (List.mem_append_left _ (List.mem_append_left _ (List.mem_append_left _ (List.mem_append_left _ (List.mem_append_left _ (List.mem_append_left _ (List.mem_append_left _ (List.mem_append_left _ (List.mem_append_left _ (List.mem_append_right _ (List.mem_append_right _ (List.mem_append_right _ (List.mem_append_right _ (List.mem_append_right _ (List.mem_append_right _ (List.mem_append_right _ (List.mem_append_right _ (List.mem_append_right _ (List.mem_append_right _ (List.mem_append_right _ (List.mem_append_right _ (List.mem_append_left _ h)))))))))))))))))))))))))))), List.forall_mem_cons.mpr ⟨(fun w h => (List.mem_cons_of_mem _ (List.mem_append_left _ (List.mem_append_left _ (List.mem_append_left _ (List.mem_append_left _ (List.mem_append_left _ (List.mem_append_left _ (List.mem_append_left _ (List.mem_append_left _ (List.mem_append_left _ (List.mem_append_left _ (List.mem_append_left _ (List.mem_append_left _ (List.mem_append_left _ (List.mem_append_right _ (List.mem_append_right _ (List.mem_append_right _ (List.mem_append_right _ (List.mem_append_right _ (List.mem_append_right _ (List.mem_append_right _ (List.mem_append_right _ (List.mem_append_right _ (List.mem_append_right _ (List.mem_append_right _ (List.mem_append_right _ (List.mem_append_right _ (List.mem_append_left _ h))))))))))))))))))))))))))))), List.forall_mem_cons.mpr ⟨(fun w h => (List.mem_cons_of_mem _ (List.mem_append_left _ (List.mem_append_left _ (List.mem_append_left _ (List.mem_append_left _ (List.mem_append_left _ (List.mem_append_left _ (List.mem_append_left _ (List.mem_append_left _ (List.mem_append_left _ (List.mem_append_left _ (List.mem_append_left _ (List.mem_append_left _ (List.mem_append_left _ (List.mem_append_right _ (List.mem_append_right _ (List.mem_append_right _ (List.mem_append_right _ (List.mem_append_right _ (List.mem_append_right _ (List.mem_append_right _ (List.mem_append_right _ (List.mem_append_right _ (List.mem_append_right _ (List.mem_append_right _ (List.mem_append_right _ (List.mem_append_right _ (List.mem_append_right _ h))))))))))))))))))))))))))))), List.forall_mem_cons.mpr ⟨(fun w h => (List.mem_cons_of_mem _ (List.mem_append_left _ (List.mem_append_left _ (List.mem_append_left _ (List.mem_append_left _ (List.mem_append_left _ (List.mem_append_left _ (List.mem_append_left _ (List.mem_append_left _ (List.mem_append_left _ (List.mem_append_left _ (List.mem_append_left _ (List.mem_append_left _ (List.mem_append_right _ h))))))))))))))), List.forall_mem_cons.mpr ⟨(fun w h => (List.mem_cons_of_mem _ (List.mem_append_left _ (List.mem_append_left _ (List.mem_append_left _ (List.mem_append_left _ (List.mem_append_left _ (List.mem_append_left _ (List.mem_append_left _ (List.mem_append_left _ (List.mem_append_left _ (List.mem_append_left _ (List.mem_append_left _ (List.mem_append_right _ h)))))))))))))), List.forall_mem_cons.mpr ⟨(fun w h => (List.mem_cons_of_mem _ (List.mem_append_left _ (List.mem_append_left _ (List.mem_append_left _ (List.mem_append_left _ (List.mem_append_left _ (List.mem_append_left _ (List.mem_append_left _ (List.mem_append_left _ (List.mem_append_left _ (List.mem_append_left _ (List.mem_append_right _ h))))))))))))), List.forall_mem_cons.mpr ⟨(fun w h => (List.mem_cons_of_mem _ (List.mem_append_left _ (List.mem_append_left _ (List.mem_append_left _ (List.mem_append_left _ (List.mem_append_left _ (List.mem_append_left _ (List.mem_append_left _ (List.mem_append_left _ (List.mem_append_left _ (List.mem_append_right _ h)))))))))))), List.forall_mem_cons.mpr ⟨(fun w h => (List.mem_cons_of_mem _ (List.mem_append_left _ (List.mem_append_left _ (List.mem_append_left _ (List.mem_append_left _ (List.mem_append_left _ (List.mem_append_left _ (List.mem_append_left _ (List.mem_append_left _ (List.mem_append_right _ h))))))))))), List.forall_mem_cons.mpr ⟨(fun w h => (List.mem_cons_of_mem _ (List.mem_append_left _ (List.mem_append_left _ (List.mem_append_left _ (List.mem_append_left _ (List.mem_append_left _ (List.mem_append_left _ (List.mem_append_left _ (List.mem_append_right _ h)))))))))), List.forall_mem_cons.mpr ⟨(fun w h => (List.mem_cons_of_mem _ (List.mem_append_left _ (List.mem_append_left _ (List.mem_append_left _ (List.mem_append_left _ (List.mem_append_left _ (List.mem_append_left _ (List.mem_append_right _ h))))))))), List.forall_mem_cons.mpr ⟨(fun w h => (List.mem_cons_of_mem _ (List.mem_append_left _ (List.mem_append_left _ (List.mem_append_left _ (List.mem_append_left _ (List.mem_append_left _ (List.mem_append_right _ h)))))))), List.forall_mem_cons.mpr ⟨(fun w h => (List.mem_cons_of_mem _ (List.mem_append_left _ (List.mem_append_left _ (List.mem_append_left _ (List.mem_append_left _ (List.mem_append_right _ h))))))), List.forall_mem_cons.mpr ⟨(fun w h => (List.mem_cons_of_mem _ (List.mem_append_left _ (List.mem_append_left _ (List.mem_append_left _ (List.mem_append_right _ h)))))), fun _ h => absurd h List.not_mem_nil⟩⟩⟩⟩⟩⟩⟩⟩⟩⟩⟩⟩⟩⟩⟩⟩⟩⟩⟩⟩⟩⟩⟩⟩⟩
set_option maxRecDepth 100000 in
set_option maxHeartbeats 4000000 in
theorem ggL_foretells_X9_today : GoodIn wsL_foretells wsX9_today := goodIn_k ch_wsL_foretells chm_wsL_foretells _ [(0, 5), (0, 6), (0, 7), (15, 0), (16, 0), (16, 1), (16, 2), (16, 3), (16, 4), (16, 5), (16, 6), (16, 7)] (by rfl) (by decide +kernel)
set_option maxRecDepth 20000 in
theorem gL_foretells_X9_today : GoodIn wsL_foretells (wsV RL 61 RX9 yX9_today wsX9_today) := goodIn_app (goodIn_of _ (by decide +kernel)) ggL_foretells_X9_today
set_option maxRecDepth 100000 in
set_option maxHeartbeats 4000000 in
theorem ggL_foretells_X9_daysToShort : GoodIn wsL_foretells wsX9_daysToShort := goodIn_ca (goodIn_ca (goodIn_ca (goodIn_k ch_wsL_foretells chm_wsL_foretells _ [(0, 11), (0, 6), (0, 12), (0, 13), (0, 14), (0, 15), (0, 4), (0, 16), (0, 17), (0, 18), (0, 19), (0, 20), (0, 21), (0, 22), (0, 23), (1, 0), (1, 1), (1, 2), (1, 3), (1, 4), (1, 5), (1, 6), (1, 7), (1, 8), (1, 9), (1, 10), (1, 11), (1, 12), (1, 13), (1, 14), (1, 15), (1, 16), (1, 17), (1, 18), (1, 19), (1, 20), (1, 21), (1, 22), (1, 23), (2, 0), (2, 1), (2, 2), (2, 3), (2, 4), (2, 5), (2, 6), (2, 7), (2, 8), (2, 9), (2, 10), (2, 11), (2, 12), (2, 13), (2, 14), (2, 15), (2, 16), (2, 17), (2, 18), (2, 19), (2, 20), (2, 21), (2, 22), (2, 23), (3, 0), (3, 1), (3, 2), (3, 3), (3, 4), (3, 5), (3, 6), (3, 7), (3, 8), (3, 9), (3, 10), (3, 11), (3, 12), (3, 13), (3, 14), (3, 15), (3, 16), (3, 17), (3, 18), (3, 19), (3, 20), (3, 21), (3, 22), (3, 23), (4, 0), (4, 1), (4, 2), (4, 3), (4, 4), (4, 5), (4, 6), (4, 7), (4, 8), (4, 9), (4, 10), (4, 11), (4, 12), (4, 13), (4, 14), (4, 15), (4, 16), (4, 17), (4, 18), (4, 19), (4, 20), (4, 21), (4, 22), (4, 23), (5, 0), (5, 1), (5, 2), (5, 3), (5, 4), (5, 5), (5, 6), (5, 7), (5, 8), (5, 9), (5, 10), (5, 11), (5, 12), (5, 13), (5, 14), (5, 15), (5, 16), (5, 17), (5, 18), (5, 19), (5, 20), (5, 21), (5, 22), (5, 23), (6, 0), (6, 1), (6, 2), (6, 3), (6, 4), (6, 5), (6, 6), (6, 7), (6, 8), (6, 9), (6, 10), (6, 11), (6, 12), (6, 13), (6, 14), (6, 15), (6, 16), (6, 17), (6, 18), (6, 19), (6, 20), (6, 21), (6, 22), (6, 23), (7, 0), (7, 1), (7, 2), (7, 3), (7, 4), (7, 5), (7, 6), (7, 7), (7, 8), (7, 9), (7, 10), (7, 11), (7, 12), (7, 13), (7, 14), (7, 15), (7, 16), (7, 17), (7, 18), (7, 19), (7, 20), (7, 21), (7, 22), (7, 23), (8, 0), (8, 1), (8, 2), (8, 3), (8, 4), (8, 5), (8, 6), (8, 7), (8, 8), (8, 9), (8, 10), (8, 11), (8, 12), (8, 13), (8, 14), (8, 15), (8, 16), (8, 17), (8, 18), (8, 19), (8, 20), (8, 21), (8, 22), (8, 23), (9, 0), (9, 1), (9, 2), (9, 3), (9, 4), (9, 5), (9, 6), (9, 7), (9, 8), (9, 9), (9, 10), (9, 11), (9, 12), (9, 13), (9, 14), (9, 15), (9, 16), (9, 17), (9, 18), (9, 19), (9, 20), (9, 21), (9, 22), (9, 23), (10, 0), (10, 1), (10, 2), (10, 3), (10, 4), (10, 5), (10, 6), (10, 7), (10, 8), (10, 9), (10, 10), (10, 11), (10, 12), (10, 13), (10, 14), (10, 15), (10, 16), (10, 17), (10, 18), (10, 19), (10, 20), (10, 21), (10, 22), (10, 23), (11, 0), (11, 1), (11, 2), (11, 3), (11, 4), (11, 5), (11, 6), (11, 7), (11, 8), (11, 9), (11, 10), (11, 11), (11, 12), (11, 13), (11, 14), (11, 15), (11, 16), (11, 17), (11, 18), (11, 19), (11, 20), (11, 21), (11, 22), (11, 23), (12, 0), (12, 1), (12, 2), (12, 3), (12, 4), (12, 5), (12, 6), (12, 7), (12, 8), (12, 9), (12, 10), (12, 11), (12, 12), (12, 13), (12, 14), (12, 15), (12, 16), (12, 17), (12, 18), (12, 19), (12, 20), (12, 21), (12, 22), (12, 23), (13, 0), (13, 1), (13, 2), (13, 3), (13, 4), (13, 5), (13, 6), (13, 7), (13, 8), (13, 9), (13, 10), (13, 11), (13, 12), (13, 13), (13, 14), (13, 15), (13, 16), (13, 17), (13, 18), (13, 19), (13, 20), (13, 21), (13, 22), (15, 0), (17, 0), (17, 1), (17, 2), (17, 3), (17, 4), (17, 5), (17, 6), (17, 7), (17, 8), (17, 9), (17, 10), (17, 11), (16, 0), (16, 1), (16, 2), (16, 3), (16, 4), (16, 5), (16, 6), (16, 7), (18, 0), (18, 1), (18, 2), (19, 0), (19, 1), (19, 2), (19, 3), (19, 4), (20, 0), (20, 1), (20, 2), (20, 3), (20, 4), (20, 5), (20, 6), (20, 7), (20, 8), (20, 9), (21, 0), (21, 1), (21, 2), (21, 3), (21, 4), (21, 5), (21, 6), (21, 7), (21, 8), (22, 0), (22, 1), (22, 2), (22, 3), (22, 4), (22, 5), (22, 6), (23, 0), (24, 0), (24, 1), (24, 2)] (by rfl) (by decide +kernel)) (goodIn_sub (fun _ h => List.mem_cons_of_mem _ (List.mem_append_left _ (List.mem_append_left _ (List.mem_append_right _ h)))) (by decide +kernel))) (goodIn_sub (fun _ h => List.mem_cons_of_mem _ (List.mem_append_left _ (List.mem_append_right _ h))) (by decide +kernel))) (goodIn_sub (fun _ h => List.mem_cons_of_mem _ (List.mem_append_right _ h)) (by decide +kernel))
set_option maxRecDepth 20000 in
theorem gL_foretells_X9_daysToShort : GoodIn wsL_foretells (wsV RL 82 RX9 yX9_daysToShort wsX9_daysToShort) := goodIn_app (goodIn_of _ (by decide +kernel)) ggL_foretells_X9_daysToShort
set_option maxRecDepth 100000 in
set_option maxHeartbeats 4000000 in
theorem ggL_foretells_X9_forecast : GoodIn wsL_foretells wsX9_forecast := goodIn_ca (goodIn_ca (goodIn_k ch_wsL_foretells chm_wsL_foretells _ [(14, 2), (0, 6), (0, 12), (0, 13), (0, 14), (0, 15), (0, 4), (0, 16), (0, 17), (0, 18), (0, 19), (0, 20), (0, 21), (0, 22), (0, 23), (1, 0), (1, 1), (1, 2), (1, 3), (1, 4), (1, 5), (1, 6), (1, 7), (1, 8), (1, 9), (1, 10), (1, 11), (1, 12), (1, 13), (1, 14), (1, 15), (1, 16), (1, 17), (1, 18), (1, 19), (1, 20), (1, 21), (1, 22), (1, 23), (2, 0), (2, 7), (2, 8), (2, 9), (2, 10), (2, 11), (2, 12), (2, 13), (2, 14), (2, 15), (2, 16), (2, 17), (2, 18), (2, 19), (2, 20), (2, 21), (2, 22), (2, 23), (3, 0), (3, 1), (3, 2), (3, 3), (3, 4), (3, 5), (3, 6), (3, 7), (3, 8), (3, 9), (3, 10), (3, 11), (3, 12), (3, 13), (3, 14), (3, 15), (3, 16), (3, 17), (3, 18), (3, 19), (3, 20), (3, 21), (3, 22), (3, 23), (4, 0), (4, 1), (4, 2), (4, 3), (4, 4), (4, 5), (4, 6), (4, 7), (4, 8), (4, 9), (4, 10), (4, 11), (4, 12), (4, 13), (4, 14), (4, 15), (4, 16), (4, 17), (4, 18), (4, 19), (4, 20), (4, 21), (4, 22), (4, 23), (5, 0), (5, 1), (5, 2), (5, 3), (5, 4), (5, 5), (5, 6), (5, 7), (5, 8), (5, 9), (5, 10), (5, 11), (5, 12), (5, 13), (5, 14), (5, 15), (5, 16), (5, 17), (5, 18), (5, 19), (5, 20), (5, 21), (5, 22), (5, 23), (6, 0), (6, 1), (6, 2), (6, 3), (6, 4), (6, 5), (6, 6), (6, 7), (6, 8), (6, 9), (6, 10), (6, 11), (6, 12), (6, 13), (6, 14), (6, 15), (6, 16), (6, 17), (6, 18), (6, 19), (6, 20), (6, 21), (6, 22), (6, 23), (7, 0), (7, 1), (7, 2), (7, 3), (7, 4), (7, 5), (7, 6), (7, 7), (7, 8), (7, 9), (7, 10), (7, 11), (7, 12), (7, 13), (7, 14), (7, 15), (7, 16), (7, 17), (7, 18), (7, 19), (7, 20), (7, 21), (7, 22), (7, 23), (8, 0), (8, 1), (8, 2), (8, 3), (8, 4), (8, 5), (8, 6), (8, 7), (8, 8), (8, 9), (8, 10), (8, 11), (8, 12), (8, 13), (8, 14), (8, 15), (8, 16), (8, 17), (8, 18), (8, 19), (8, 20), (8, 21), (8, 22), (8, 23), (9, 0), (9, 1), (9, 2), (9, 3), (9, 4), (9, 5), (9, 6), (9, 7), (9, 8), (9, 9), (9, 10), (9, 11), (9, 12), (9, 13), (9, 14), (9, 15), (9, 16), (9, 17), (9, 18), (9, 19), (9, 20), (9, 21), (9, 22), (9, 23), (10, 0), (10, 1), (10, 2), (10, 3), (10, 4), (10, 5), (10, 6), (10, 7), (10, 8), (10, 9), (10, 10), (10, 11), (10, 12), (10, 13), (10, 14), (10, 15), (10, 16), (10, 17), (10, 18), (10, 19), (10, 20), (10, 21), (10, 22), (10, 23), (11, 0), (11, 1), (11, 2), (11, 3), (11, 4), (11, 5), (11, 6), (11, 7), (11, 8), (11, 9), (11, 10), (11, 11), (11, 12), (11, 13), (11, 14), (11, 15), (11, 16), (11, 17), (11, 18), (11, 19), (11, 20), (11, 21), (11, 22), (11, 23), (12, 0), (12, 1), (12, 2), (12, 3), (12, 4), (12, 5), (12, 6), (12, 7), (12, 8), (12, 9), (12, 10), (12, 11), (12, 12), (12, 13), (12, 14), (12, 15), (12, 16), (12, 17), (12, 18), (12, 19), (12, 20), (12, 21), (12, 22), (12, 23), (13, 0), (13, 1), (13, 2), (13, 3), (13, 4), (13, 5), (13, 6), (13, 7), (13, 8), (13, 9), (13, 10), (13, 11), (13, 12), (13, 13), (13, 14), (13, 15), (13, 16), (13, 17), (13, 18), (13, 19), (13, 20), (13, 21), (13, 22), (15, 0), (17, 0), (17, 1), (17, 2), (17, 3), (17, 4), (17, 5), (17, 6), (17, 7), (17, 8), (17, 9), (17, 10), (17, 11), (16, 0), (16, 1), (16, 2), (16, 3), (16, 4), (16, 5), (16, 6), (16, 7), (18, 0), (18, 1), (18, 2), (19, 0), (19, 1), (19, 2), (19, 3), (19, 4), (20, 0), (20, 1), (20, 2), (20, 3), (20, 4), (20, 5), (20, 6), (20, 7), (20, 8), (20, 9), (21, 0), (21, 1), (21, 2), (21, 3), (21, 4), (21, 5), (21, 6), (21, 7), (21, 8), (22, 0), (22, 1), (22, 2), (22, 3), (22, 4), (22, 5), (22, 6), (23, 0), (24, 0), (24, 1), (24, 2)] (by rfl) (by decide +kernel)) (goodIn_sub (fun _ h => List.mem_cons_of_mem _ (List.mem_append_left _ (List.mem_append_left _ (List.mem_append_right _ h)))) (by decide +kernel))) (goodIn_sub (fun _ h => List.mem_cons_of_mem _ (List.mem_append_left _ (List.mem_append_right _ h))) (by decide +kernel))
set_option maxRecDepth 20000 in
theorem gL_foretells_X9_forecast : GoodIn wsL_foretells (wsV RL 67 RX9 yX9_forecast wsX9_forecast) := goodIn_app (goodIn_of _ (by decide +kernel)) ggL_foretells_X9_forecast
set_option maxRecDepth 100000 in
set_option maxHeartbeats 4000000 in
theorem ggL_foretells_X9_passDays : GoodIn wsL_foretells wsX9_passDays := goodIn_ca (goodIn_ca (goodIn_k ch_wsL_foretells chm_wsL_foretells _ [(14, 6), (2, 4), (2, 5), (0, 6), (0, 7), (1, 20), (1, 21), (0, 4), (1, 22), (1, 23), (2, 0), (5, 3), (5, 4), (5, 5), (2, 10), (5, 6), (5, 7), (2, 12), (5, 8), (5, 9), (5, 10), (5, 11), (5, 12), (5, 13), (5, 14), (5, 15), (5, 16), (5, 17), (2, 20), (2, 21), (2, 22), (0, 22), (0, 23), (1, 0), (1, 1), (1, 2), (2, 23), (1, 4), (1, 5), (1, 6), (1, 7), (1, 8), (1, 9), (1, 10), (1, 11), (1, 12), (1, 13), (1, 14), (1, 15), (1, 16), (1, 17), (1, 18), (1, 19), (5, 18), (5, 19), (5, 20), (4, 21), (5, 21), (5, 1), (4, 23), (5, 22), (5, 23), (6, 0), (6, 1), (6, 2), (6, 3), (6, 4), (6, 5), (2, 16), (2, 15), (6, 6), (6, 7), (6, 8), (6, 9), (6, 10), (6, 11), (6, 12), (6, 13), (6, 14), (6, 15), (6, 16), (6, 17), (6, 18), (6, 19), (6, 20), (6, 21), (6, 22), (6, 23), (7, 0), (7, 1), (3, 3), (7, 2), (7, 3), (7, 4), (7, 5), (7, 6), (7, 7), (7, 8), (7, 9), (7, 10), (7, 11), (7, 12), (7, 13), (7, 14), (7, 15), (7, 16), (7, 17), (7, 18), (7, 19), (7, 20), (2, 17), (7, 21), (7, 22), (7, 23), (3, 12), (8, 0), (8, 1), (8, 2), (8, 3), (8, 4), (8, 5), (8, 6), (8, 7), (8, 8), (8, 9), (8, 10), (8, 11), (8, 12), (8, 13), (8, 14), (8, 15), (8, 16), (8, 17), (8, 18), (8, 19), (8, 20), (8, 21), (8, 22), (8, 23), (9, 0), (9, 1), (2, 14), (9, 2), (9, 3), (9, 4), (9, 5), (9, 6), (9, 7), (9, 8), (9, 9), (9, 10), (9, 11), (9, 12), (9, 13), (9, 14), (9, 15), (9, 16), (9, 17), (9, 18), (9, 19), (9, 20), (9, 21), (9, 22), (9, 23), (10, 0), (10, 1), (10, 2), (10, 3), (10, 4), (10, 5), (10, 6), (10, 7), (10, 8), (10, 9), (10, 10), (10, 11), (10, 12), (10, 13), (2, 18), (2, 19), (10, 14), (10, 15), (10, 16), (10, 17), (10, 18), (10, 19), (3, 14), (3, 15), (10, 20), (10, 21), (10, 22), (3, 19), (10, 23), (11, 0), (3, 21), (11, 1), (4, 1), (11, 2), (11, 3), (11, 4), (11, 5), (11, 6), (11, 7), (11, 8), (11, 9), (4, 10), (11, 10), (4, 16), (4, 12), (11, 11), (11, 12), (11, 13), (11, 14), (11, 15), (11, 16), (11, 17), (11, 18), (11, 19), (11, 20), (11, 21), (11, 22), (11, 23), (12, 0), (3, 23), (12, 1), (12, 2), (12, 3), (12, 4), (12, 5), (12, 6), (12, 7), (12, 8), (12, 9), (12, 10), (12, 11), (12, 12), (12, 13), (12, 14), (12, 15), (3, 5), (3, 7), (12, 16), (12, 17), (12, 18), (12, 19), (12, 20), (4, 14), (12, 21), (12, 22), (15, 0), (16, 0), (16, 1), (16, 2), (16, 3), (16, 4), (16, 5), (16, 6), (16, 7), (23, 0), (18, 0), (18, 1), (18, 2), (22, 0), (22, 1), (22, 2), (22, 3), (22, 4), (22, 5), (22, 6), (17, 0), (17, 1), (17, 2), (17, 3), (17, 4), (17, 5), (17, 6), (17, 7), (17, 8), (17, 9), (17, 10), (17, 11), (19, 0), (19, 1), (19, 2), (19, 3), (19, 4), (21, 0), (21, 1), (21, 2), (21, 3), (21, 4), (21, 5), (21, 6), (21, 7), (21, 8), (24, 0), (24, 1), (24, 2), (20, 0), (20, 1), (20, 2), (20, 3), (20, 4), (20, 5), (20, 6), (20, 7), (20, 8), (20, 9)] (by rfl) (by decide +kernel)) (goodIn_sub (fun _ h => List.mem_cons_of_mem _ (List.mem_append_right _ h)) (by decide +kernel))) (goodIn_sub (fun _ h => List.mem_cons_of_mem _ (List.mem_append_left _ (List.mem_append_right _ h))) (by decide +kernel))
set_option maxRecDepth 20000 in
theorem gL_foretells_X9_passDays : GoodIn wsL_foretells (wsV RL 75 RX9 yX9_passDays wsX9_passDays) := goodIn_app (goodIn_of _ (by decide +kernel)) ggL_foretells_X9_passDays
set_option maxRecDepth 100000 in
set_option maxHeartbeats 4000000 in
theorem ggL_foretells_X9_balance : GoodIn wsL_foretells wsX9_balance := goodIn_ca (goodIn_k ch_wsL_foretells chm_wsL_foretells _ [(14, 10), (0, 12), (0, 13), (0, 14), (0, 15), (0, 4), (0, 16), (0, 17), (0, 18), (0, 6), (0, 19), (0, 20), (0, 21), (0, 22), (0, 23), (1, 0), (1, 1), (1, 2), (1, 3), (1, 4), (1, 5), (1, 6), (1, 7), (1, 8), (1, 9), (1, 10), (1, 11), (1, 12), (1, 13), (1, 14), (1, 15), (1, 16), (1, 17), (1, 18), (1, 19), (17, 0), (17, 1), (17, 2), (17, 3), (17, 4), (17, 5), (17, 6), (17, 7), (17, 8), (17, 9), (17, 10), (17, 11), (15, 0), (16, 0), (16, 1), (16, 2), (16, 3), (16, 4), (16, 5), (16, 6), (16, 7), (18, 0), (18, 1), (18, 2)] (by rfl) (by decide +kernel)) (goodIn_sub (fun _ h => List.mem_cons_of_mem _ (List.mem_append_left _ (List.mem_append_left _ (List.mem_append_right _ h)))) (by decide +kernel))
set_option maxRecDepth 20000 in
theorem gL_foretells_X9_balance : GoodIn wsL_foretells (wsV RL 22 RX9 yX9_balance wsX9_balance) := goodIn_app (goodIn_of _ (by decide +kernel)) ggL_foretells_X9_balance
theorem dL_foretells_0 : decode cL_foretells 0 = .ok (.sipush 400, 3) := by decide +kernel
theorem dL_foretells_3 : decode cL_foretells 3 = .ok (.aload_n 0, 1) := by decide +kernel
theorem dL_foretells_4 : decode cL_foretells 4 = .ok (.invokevirtual 61, 3) := by decide +kernel
theorem dL_foretells_7 : decode cL_foretells 7 = .ok (.isub, 1) := by decide +kernel
theorem dL_foretells_8 : decode cL_foretells 8 = .ok (.iload_n 3, 1) := by decide +kernel
theorem dL_foretells_9 : decode cL_foretells 9 = .ok (.if_icmp .ge 14, 3) := by decide +kernel
theorem dL_foretells_12 : decode cL_foretells 12 = .ok (.sipush 400, 3) := by decide +kernel
theorem dL_foretells_15 : decode cL_foretells 15 = .ok (.aload_n 0, 1) := by decide +kernel
theorem dL_foretells_16 : decode cL_foretells 16 = .ok (.invokevirtual 61, 3) := by decide +kernel
theorem dL_foretells_19 : decode cL_foretells 19 = .ok (.isub, 1) := by decide +kernel
theorem dL_foretells_20 : decode cL_foretells 20 = .ok (.goto 4, 3) := by decide +kernel
theorem dL_foretells_23 : decode cL_foretells 23 = .ok (.iload_n 3, 1) := by decide +kernel
theorem dL_foretells_24 : decode cL_foretells 24 = .ok (.istore 4, 2) := by decide +kernel
theorem dL_foretells_26 : decode cL_foretells 26 = .ok (.aload_n 0, 1) := by decide +kernel
theorem dL_foretells_27 : decode cL_foretells 27 = .ok (.iload_n 2, 1) := by decide +kernel
theorem dL_foretells_28 : decode cL_foretells 28 = .ok (.iload_n 3, 1) := by decide +kernel
theorem dL_foretells_29 : decode cL_foretells 29 = .ok (.invokevirtual 82, 3) := by decide +kernel
theorem dL_foretells_32 : decode cL_foretells 32 = .ok (.istore 5, 2) := by decide +kernel
theorem dL_foretells_34 : decode cL_foretells 34 = .ok (.iload 5, 2) := by decide +kernel
theorem dL_foretells_36 : decode cL_foretells 36 = .ok (.iconst (-1), 1) := by decide +kernel
theorem dL_foretells_37 : decode cL_foretells 37 = .ok (.if_icmp .eq 46, 3) := by decide +kernel
theorem dL_foretells_40 : decode cL_foretells 40 = .ok (.iload 5, 2) := by decide +kernel
theorem dL_foretells_42 : decode cL_foretells 42 = .ok (.iconst 1, 1) := by decide +kernel
theorem dL_foretells_43 : decode cL_foretells 43 = .ok (.if_icmp .lt 44, 3) := by decide +kernel
theorem dL_foretells_46 : decode cL_foretells 46 = .ok (.iload 5, 2) := by decide +kernel
theorem dL_foretells_48 : decode cL_foretells 48 = .ok (.iload_n 3, 1) := by decide +kernel
theorem dL_foretells_49 : decode cL_foretells 49 = .ok (.if_icmp .gt 38, 3) := by decide +kernel
theorem dL_foretells_52 : decode cL_foretells 52 = .ok (.aload_n 0, 1) := by decide +kernel
theorem dL_foretells_53 : decode cL_foretells 53 = .ok (.iload_n 2, 1) := by decide +kernel
theorem dL_foretells_54 : decode cL_foretells 54 = .ok (.iload 5, 2) := by decide +kernel
theorem dL_foretells_56 : decode cL_foretells 56 = .ok (.invokevirtual 67, 3) := by decide +kernel
theorem dL_foretells_59 : decode cL_foretells 59 = .ok (.lconst 0, 1) := by decide +kernel
theorem dL_foretells_60 : decode cL_foretells 60 = .ok (.lcmp, 1) := by decide +kernel
theorem dL_foretells_61 : decode cL_foretells 61 = .ok (.ifCond .ge 26, 3) := by decide +kernel
theorem dL_foretells_64 : decode cL_foretells 64 = .ok (.iload 5, 2) := by decide +kernel
theorem dL_foretells_66 : decode cL_foretells 66 = .ok (.iconst 1, 1) := by decide +kernel
theorem dL_foretells_67 : decode cL_foretells 67 = .ok (.if_icmp .eq 16, 3) := by decide +kernel
theorem dL_foretells_70 : decode cL_foretells 70 = .ok (.aload_n 0, 1) := by decide +kernel
theorem dL_foretells_71 : decode cL_foretells 71 = .ok (.iload_n 2, 1) := by decide +kernel
theorem dL_foretells_72 : decode cL_foretells 72 = .ok (.iload 5, 2) := by decide +kernel
theorem dL_foretells_74 : decode cL_foretells 74 = .ok (.iconst 1, 1) := by decide +kernel
theorem dL_foretells_75 : decode cL_foretells 75 = .ok (.isub, 1) := by decide +kernel
theorem dL_foretells_76 : decode cL_foretells 76 = .ok (.invokevirtual 82, 3) := by decide +kernel
theorem dL_foretells_79 : decode cL_foretells 79 = .ok (.iconst (-1), 1) := by decide +kernel
theorem dL_foretells_80 : decode cL_foretells 80 = .ok (.if_icmp .ne 7, 3) := by decide +kernel
theorem dL_foretells_83 : decode cL_foretells 83 = .ok (.iconst 1, 1) := by decide +kernel
theorem dL_foretells_84 : decode cL_foretells 84 = .ok (.goto 4, 3) := by decide +kernel
theorem dL_foretells_87 : decode cL_foretells 87 = .ok (.iconst 0, 1) := by decide +kernel
theorem dL_foretells_88 : decode cL_foretells 88 = .ok (.istore 6, 2) := by decide +kernel
theorem dL_foretells_90 : decode cL_foretells 90 = .ok (.iload 6, 2) := by decide +kernel
theorem dL_foretells_92 : decode cL_foretells 92 = .ok (.ifCond .eq 39, 3) := by decide +kernel
theorem dL_foretells_95 : decode cL_foretells 95 = .ok (.iload 5, 2) := by decide +kernel
theorem dL_foretells_97 : decode cL_foretells 97 = .ok (.iconst (-1), 1) := by decide +kernel
theorem dL_foretells_98 : decode cL_foretells 98 = .ok (.if_icmp .ne 29, 3) := by decide +kernel
theorem dL_foretells_101 : decode cL_foretells 101 = .ok (.aload_n 0, 1) := by decide +kernel
theorem dL_foretells_102 : decode cL_foretells 102 = .ok (.iload_n 2, 1) := by decide +kernel
theorem dL_foretells_103 : decode cL_foretells 103 = .ok (.iload_n 3, 1) := by decide +kernel
theorem dL_foretells_104 : decode cL_foretells 104 = .ok (.invokevirtual 67, 3) := by decide +kernel
theorem dL_foretells_107 : decode cL_foretells 107 = .ok (.lconst 0, 1) := by decide +kernel
theorem dL_foretells_108 : decode cL_foretells 108 = .ok (.lcmp, 1) := by decide +kernel
theorem dL_foretells_109 : decode cL_foretells 109 = .ok (.ifCond .lt 22, 3) := by decide +kernel
theorem dL_foretells_112 : decode cL_foretells 112 = .ok (.aload_n 0, 1) := by decide +kernel
theorem dL_foretells_113 : decode cL_foretells 113 = .ok (.iload_n 2, 1) := by decide +kernel
theorem dL_foretells_114 : decode cL_foretells 114 = .ok (.iconst 1, 1) := by decide +kernel
theorem dL_foretells_115 : decode cL_foretells 115 = .ok (.iload_n 3, 1) := by decide +kernel
theorem dL_foretells_116 : decode cL_foretells 116 = .ok (.iconst 2, 1) := by decide +kernel
theorem dL_foretells_117 : decode cL_foretells 117 = .ok (.idiv, 1) := by decide +kernel
theorem dL_foretells_118 : decode cL_foretells 118 = .ok (.iadd, 1) := by decide +kernel
theorem dL_foretells_119 : decode cL_foretells 119 = .ok (.invokevirtual 67, 3) := by decide +kernel
theorem dL_foretells_122 : decode cL_foretells 122 = .ok (.lconst 0, 1) := by decide +kernel
theorem dL_foretells_123 : decode cL_foretells 123 = .ok (.lcmp, 1) := by decide +kernel
theorem dL_foretells_124 : decode cL_foretells 124 = .ok (.ifCond .lt 7, 3) := by decide +kernel
theorem dL_foretells_127 : decode cL_foretells 127 = .ok (.iconst 1, 1) := by decide +kernel
theorem dL_foretells_128 : decode cL_foretells 128 = .ok (.goto 4, 3) := by decide +kernel
theorem dL_foretells_131 : decode cL_foretells 131 = .ok (.iconst 0, 1) := by decide +kernel
theorem dL_foretells_132 : decode cL_foretells 132 = .ok (.istore 6, 2) := by decide +kernel
theorem dL_foretells_134 : decode cL_foretells 134 = .ok (.iload 4, 2) := by decide +kernel
theorem dL_foretells_136 : decode cL_foretells 136 = .ok (.iconst 1, 1) := by decide +kernel
theorem dL_foretells_137 : decode cL_foretells 137 = .ok (.if_icmp .ge 6, 3) := by decide +kernel
theorem dL_foretells_140 : decode cL_foretells 140 = .ok (.iload 6, 2) := by decide +kernel
theorem dL_foretells_142 : decode cL_foretells 142 = .ok (.ireturn, 1) := by decide +kernel
theorem dL_foretells_143 : decode cL_foretells 143 = .ok (.bipush 10, 2) := by decide +kernel
theorem dL_foretells_145 : decode cL_foretells 145 = .ok (.newarray .long, 2) := by decide +kernel
theorem dL_foretells_147 : decode cL_foretells 147 = .ok (.astore 7, 2) := by decide +kernel
theorem dL_foretells_149 : decode cL_foretells 149 = .ok (.iconst 0, 1) := by decide +kernel
theorem dL_foretells_150 : decode cL_foretells 150 = .ok (.istore 8, 2) := by decide +kernel
theorem dL_foretells_152 : decode cL_foretells 152 = .ok (.iload 8, 2) := by decide +kernel
theorem dL_foretells_154 : decode cL_foretells 154 = .ok (.aload_n 1, 1) := by decide +kernel
theorem dL_foretells_155 : decode cL_foretells 155 = .ok (.iconst 0, 1) := by decide +kernel
theorem dL_foretells_156 : decode cL_foretells 156 = .ok (.iaload, 1) := by decide +kernel
theorem dL_foretells_157 : decode cL_foretells 157 = .ok (.if_icmp .ge 22, 3) := by decide +kernel
theorem dL_foretells_160 : decode cL_foretells 160 = .ok (.aload 7, 2) := by decide +kernel
theorem dL_foretells_162 : decode cL_foretells 162 = .ok (.iload 8, 2) := by decide +kernel
theorem dL_foretells_164 : decode cL_foretells 164 = .ok (.aload_n 0, 1) := by decide +kernel
theorem dL_foretells_165 : decode cL_foretells 165 = .ok (.iload 8, 2) := by decide +kernel
theorem dL_foretells_167 : decode cL_foretells 167 = .ok (.iload 4, 2) := by decide +kernel
theorem dL_foretells_169 : decode cL_foretells 169 = .ok (.invokevirtual 67, 3) := by decide +kernel
theorem dL_foretells_172 : decode cL_foretells 172 = .ok (.lastore, 1) := by decide +kernel
theorem dL_foretells_173 : decode cL_foretells 173 = .ok (.iinc 8 1, 3) := by decide +kernel
theorem dL_foretells_176 : decode cL_foretells 176 = .ok (.goto (-24), 3) := by decide +kernel
theorem dL_foretells_179 : decode cL_foretells 179 = .ok (.iload 6, 2) := by decide +kernel
theorem dL_foretells_181 : decode cL_foretells 181 = .ok (.ifCond .eq 20, 3) := by decide +kernel
theorem dL_foretells_184 : decode cL_foretells 184 = .ok (.aload_n 0, 1) := by decide +kernel
theorem dL_foretells_185 : decode cL_foretells 185 = .ok (.iload 4, 2) := by decide +kernel
theorem dL_foretells_187 : decode cL_foretells 187 = .ok (.invokevirtual 75, 3) := by decide +kernel
theorem dL_foretells_190 : decode cL_foretells 190 = .ok (.aload_n 0, 1) := by decide +kernel
theorem dL_foretells_191 : decode cL_foretells 191 = .ok (.invokevirtual 61, 3) := by decide +kernel
theorem dL_foretells_194 : decode cL_foretells 194 = .ok (.if_icmp .ne 7, 3) := by decide +kernel
theorem dL_foretells_197 : decode cL_foretells 197 = .ok (.iconst 1, 1) := by decide +kernel
theorem dL_foretells_198 : decode cL_foretells 198 = .ok (.goto 4, 3) := by decide +kernel
theorem dL_foretells_201 : decode cL_foretells 201 = .ok (.iconst 0, 1) := by decide +kernel
theorem dL_foretells_202 : decode cL_foretells 202 = .ok (.istore 6, 2) := by decide +kernel
theorem dL_foretells_204 : decode cL_foretells 204 = .ok (.iconst 0, 1) := by decide +kernel
theorem dL_foretells_205 : decode cL_foretells 205 = .ok (.istore 8, 2) := by decide +kernel
theorem dL_foretells_207 : decode cL_foretells 207 = .ok (.iload 8, 2) := by decide +kernel
theorem dL_foretells_209 : decode cL_foretells 209 = .ok (.aload_n 1, 1) := by decide +kernel
theorem dL_foretells_210 : decode cL_foretells 210 = .ok (.iconst 0, 1) := by decide +kernel
theorem dL_foretells_211 : decode cL_foretells 211 = .ok (.iaload, 1) := by decide +kernel
theorem dL_foretells_212 : decode cL_foretells 212 = .ok (.if_icmp .ge 36, 3) := by decide +kernel
theorem dL_foretells_215 : decode cL_foretells 215 = .ok (.iload 6, 2) := by decide +kernel
theorem dL_foretells_217 : decode cL_foretells 217 = .ok (.ifCond .eq 22, 3) := by decide +kernel
theorem dL_foretells_220 : decode cL_foretells 220 = .ok (.aload_n 0, 1) := by decide +kernel
theorem dL_foretells_221 : decode cL_foretells 221 = .ok (.iload 8, 2) := by decide +kernel
theorem dL_foretells_223 : decode cL_foretells 223 = .ok (.invokevirtual 22, 3) := by decide +kernel
theorem dL_foretells_226 : decode cL_foretells 226 = .ok (.aload 7, 2) := by decide +kernel
theorem dL_foretells_228 : decode cL_foretells 228 = .ok (.iload 8, 2) := by decide +kernel
theorem dL_foretells_230 : decode cL_foretells 230 = .ok (.laload, 1) := by decide +kernel
theorem dL_foretells_231 : decode cL_foretells 231 = .ok (.lcmp, 1) := by decide +kernel
theorem dL_foretells_232 : decode cL_foretells 232 = .ok (.ifCond .ne 7, 3) := by decide +kernel
theorem dL_foretells_235 : decode cL_foretells 235 = .ok (.iconst 1, 1) := by decide +kernel
theorem dL_foretells_236 : decode cL_foretells 236 = .ok (.goto 4, 3) := by decide +kernel
theorem dL_foretells_239 : decode cL_foretells 239 = .ok (.iconst 0, 1) := by decide +kernel
theorem dL_foretells_240 : decode cL_foretells 240 = .ok (.istore 6, 2) := by decide +kernel
theorem dL_foretells_242 : decode cL_foretells 242 = .ok (.iinc 8 1, 3) := by decide +kernel
theorem dL_foretells_245 : decode cL_foretells 245 = .ok (.goto (-38), 3) := by decide +kernel
theorem dL_foretells_248 : decode cL_foretells 248 = .ok (.iload 6, 2) := by decide +kernel
theorem dL_foretells_250 : decode cL_foretells 250 = .ok (.ireturn, 1) := by decide +kernel
def ch_wsL_areDays : List (List Cond) := [wsL_areDays_r1, wsL_areDays_r2, wsL_areDays_r3, wsL_areDays_r4, wsX90, wsX30, wsX20, wsJx4a65c0, wsX40]
theorem chm_wsL_areDays : ∀ c ∈ ch_wsL_areDays, ∀ w ∈ c, w ∈ wsL_areDays := List.forall_mem_cons.mpr ⟨(fun w h => (List.mem_cons_of_mem _ (List.mem_append_left _ (List.mem_append_left _ (List.mem_append_left _ (List.mem_append_left _ (List.mem_append_left _ (List.mem_append_left _ (List.mem_append_left _ (List.mem_append_left _ h)))))))))), List.forall_mem_cons.mpr ⟨(fun w h => (List.mem_cons_of_mem _ (List.mem_append_left _ (List.mem_append_left _ (List.mem_append_left _ (List.mem_append_left _ (List.mem_append_left _ (List.mem_append_left _ (List.mem_append_left _ (List.mem_append_right _ (List.mem_append_left _ h))))))))))), List.forall_mem_cons.mpr ⟨(fun w h => (List.mem_cons_of_mem _ (List.mem_append_left _ (List.mem_append_left _ (List.mem_append_left _ (List.mem_append_left _ (List.mem_append_left _ (List.mem_append_left _ (List.mem_append_left _ (List.mem_append_right _ (List.mem_append_right _ (List.mem_append_left _ h)))))))))))), List.forall_mem_cons.mpr ⟨(fun w h => (List.mem_cons_of_mem _ (List.mem_append_left _ (List.mem_append_left _ (List.mem_append_left _ (List.mem_append_left _ (List.mem_append_left _ (List.mem_append_left _ (List.mem_append_left _ (List.mem_append_right _ (List.mem_append_right _ (List.mem_append_right _ h)))))))))))), List.forall_mem_cons.mpr ⟨(fun w h => (List.mem_cons_of_mem _ (List.mem_append_left _ (List.mem_append_left _ (List.mem_append_left _ (List.mem_append_left _ (List.mem_append_left _ (List.mem_append_left _ (List.mem_append_right _ h))))))))), List.forall_mem_cons.mpr ⟨(fun w h => (List.mem_cons_of_mem _ (List.mem_append_left _ (List.mem_append_left _ (List.mem_append_left _ (List.mem_append_left _ (List.mem_append_left _ (List.mem_append_right _ h)))))))), List.forall_mem_cons.mpr ⟨(fun w h => (List.mem_cons_of_mem _ (List.mem_append_left _ (List.mem_append_left _ (List.mem_append_left _ (List.mem_append_left _ (List.mem_append_right _ h))))))), List.forall_mem_cons.mpr ⟨(fun w h => (List.mem_cons_of_mem _ (List.mem_append_left _ (List.mem_append_left _ (List.mem_append_left _ (List.mem_append_right _ h)))))), List.forall_mem_cons.mpr ⟨(fun w h => (List.mem_cons_of_mem _ (List.mem_append_left _ (List.mem_append_left _ (List.mem_append_right _ h))))), fun _ h => absurd h List.not_mem_nil⟩⟩⟩⟩⟩⟩⟩⟩⟩
set_option maxRecDepth 100000 in
set_option maxHeartbeats 4000000 in
theorem ggL_areDays_X9_settlementDay : GoodIn wsL_areDays wsX9_settlementDay := goodIn_ca (goodIn_k ch_wsL_areDays chm_wsL_areDays _ [(0, 4), (0, 5), (0, 6), (0, 7), (0, 8), (0, 3), (0, 9), (0, 10), (0, 11), (0, 12), (0, 13), (0, 14), (0, 15), (0, 16), (0, 17), (0, 18), (0, 19), (0, 20), (0, 21), (4, 0), (5, 0), (5, 1), (5, 2), (5, 3), (5, 4), (5, 5), (5, 6), (5, 7), (6, 0)] (by rfl) (by decide +kernel)) (goodIn_sub (fun _ h => List.mem_cons_of_mem _ (List.mem_append_left _ (List.mem_append_right _ h))) (by decide +kernel))
set_option maxRecDepth 20000 in
theorem gL_areDays_X9_settlementDay : GoodIn wsL_areDays (wsV RL 64 RX9 yX9_settlementDay wsX9_settlementDay) := goodIn_app (goodIn_of _ (by decide +kernel)) ggL_areDays_X9_settlementDay
set_option maxRecDepth 100000 in
set_option maxHeartbeats 4000000 in
theorem ggL_areDays_X9_today : GoodIn wsL_areDays wsX9_today := goodIn_k ch_wsL_areDays chm_wsL_areDays _ [(1, 1), (0, 5), (1, 2), (4, 0), (5, 0), (5, 1), (5, 2), (5, 3), (5, 4), (5, 5), (5, 6), (5, 7)] (by rfl) (by decide +kernel)
set_option maxRecDepth 20000 in
theorem gL_areDays_X9_today : GoodIn wsL_areDays (wsV RL 61 RX9 yX9_today wsX9_today) := goodIn_app (goodIn_of _ (by decide +kernel)) ggL_areDays_X9_today
set_option maxRecDepth 100000 in
set_option maxHeartbeats 4000000 in
theorem ggL_areDays_X9_scheduled : GoodIn wsL_areDays wsX9_scheduled := goodIn_ca (goodIn_ca (goodIn_k ch_wsL_areDays chm_wsL_areDays _ [(1, 6), (0, 5), (1, 2), (1, 7), (1, 8), (1, 9), (0, 3), (1, 10), (1, 11), (1, 12), (1, 13), (1, 14), (1, 15), (1, 16), (1, 17), (1, 18), (1, 19), (1, 20), (1, 21), (1, 22), (1, 23), (2, 0), (2, 1), (2, 2), (2, 3), (2, 4), (2, 5), (2, 6), (2, 7), (2, 8), (2, 9), (2, 10), (2, 11), (2, 12), (2, 13), (0, 7), (0, 8), (0, 9), (0, 10), (0, 11), (2, 14), (2, 15), (2, 16), (2, 17), (2, 18), (2, 19), (2, 20), (2, 21), (2, 22), (2, 23), (3, 0), (3, 1), (3, 2), (3, 3), (3, 4), (3, 5), (3, 6), (3, 7), (3, 8), (3, 9), (3, 10), (0, 13), (0, 14), (0, 15), (0, 16), (0, 17), (0, 18), (0, 19), (0, 20), (0, 21), (4, 0), (5, 0), (5, 1), (5, 2), (5, 3), (5, 4), (5, 5), (5, 6), (5, 7), (7, 0), (7, 1), (7, 2), (8, 0), (8, 1), (8, 2), (8, 3), (8, 4), (8, 5), (8, 6), (6, 0)] (by rfl) (by decide +kernel)) (goodIn_sub (fun _ h => List.mem_cons_of_mem _ (List.mem_append_right _ h)) (by decide +kernel))) (goodIn_sub (fun _ h => List.mem_cons_of_mem _ (List.mem_append_left _ (List.mem_append_right _ h))) (by decide +kernel))
set_option maxRecDepth 20000 in
theorem gL_areDays_X9_scheduled : GoodIn wsL_areDays (wsV RL 71 RX9 yX9_scheduled wsX9_scheduled) := goodIn_app (goodIn_of _ (by decide +kernel)) ggL_areDays_X9_scheduled
theorem dL_areDays_0 : decode cL_areDays 0 = .ok (.iload_n 2, 1) := by decide +kernel
theorem dL_areDays_1 : decode cL_areDays 1 = .ok (.sipush 451, 3) := by decide +kernel
theorem dL_areDays_4 : decode cL_areDays 4 = .ok (.irem, 1) := by decide +kernel
theorem dL_areDays_5 : decode cL_areDays 5 = .ok (.istore 4, 2) := by decide +kernel
theorem dL_areDays_7 : decode cL_areDays 7 = .ok (.aload_n 0, 1) := by decide +kernel
theorem dL_areDays_8 : decode cL_areDays 8 = .ok (.iload 4, 2) := by decide +kernel
theorem dL_areDays_10 : decode cL_areDays 10 = .ok (.invokevirtual 64, 3) := by decide +kernel
theorem dL_areDays_13 : decode cL_areDays 13 = .ok (.istore 5, 2) := by decide +kernel
theorem dL_areDays_15 : decode cL_areDays 15 = .ok (.iload 5, 2) := by decide +kernel
theorem dL_areDays_17 : decode cL_areDays 17 = .ok (.iconst (-1), 1) := by decide +kernel
theorem dL_areDays_18 : decode cL_areDays 18 = .ok (.if_icmp .ne 22, 3) := by decide +kernel
theorem dL_areDays_21 : decode cL_areDays 21 = .ok (.aload_n 0, 1) := by decide +kernel
theorem dL_areDays_22 : decode cL_areDays 22 = .ok (.sipush 450, 3) := by decide +kernel
theorem dL_areDays_25 : decode cL_areDays 25 = .ok (.invokevirtual 64, 3) := by decide +kernel
theorem dL_areDays_28 : decode cL_areDays 28 = .ok (.iconst (-1), 1) := by decide +kernel
theorem dL_areDays_29 : decode cL_areDays 29 = .ok (.if_icmp .ne 7, 3) := by decide +kernel
theorem dL_areDays_32 : decode cL_areDays 32 = .ok (.iconst 1, 1) := by decide +kernel
theorem dL_areDays_33 : decode cL_areDays 33 = .ok (.goto 59, 3) := by decide +kernel
theorem dL_areDays_36 : decode cL_areDays 36 = .ok (.iconst 0, 1) := by decide +kernel
theorem dL_areDays_37 : decode cL_areDays 37 = .ok (.goto 55, 3) := by decide +kernel
theorem dL_areDays_40 : decode cL_areDays 40 = .ok (.iload 5, 2) := by decide +kernel
theorem dL_areDays_42 : decode cL_areDays 42 = .ok (.iload 4, 2) := by decide +kernel
theorem dL_areDays_44 : decode cL_areDays 44 = .ok (.if_icmp .lt 47, 3) := by decide +kernel
theorem dL_areDays_47 : decode cL_areDays 47 = .ok (.iload 5, 2) := by decide +kernel
theorem dL_areDays_49 : decode cL_areDays 49 = .ok (.bipush 7, 2) := by decide +kernel
theorem dL_areDays_51 : decode cL_areDays 51 = .ok (.irem, 1) := by decide +kernel
theorem dL_areDays_52 : decode cL_areDays 52 = .ok (.iconst 5, 1) := by decide +kernel
theorem dL_areDays_53 : decode cL_areDays 53 = .ok (.if_icmp .ge 38, 3) := by decide +kernel
theorem dL_areDays_56 : decode cL_areDays 56 = .ok (.aload_n 0, 1) := by decide +kernel
theorem dL_areDays_57 : decode cL_areDays 57 = .ok (.iload 5, 2) := by decide +kernel
theorem dL_areDays_59 : decode cL_areDays 59 = .ok (.invokevirtual 64, 3) := by decide +kernel
theorem dL_areDays_62 : decode cL_areDays 62 = .ok (.iload 5, 2) := by decide +kernel
theorem dL_areDays_64 : decode cL_areDays 64 = .ok (.if_icmp .ne 27, 3) := by decide +kernel
theorem dL_areDays_67 : decode cL_areDays 67 = .ok (.iload 5, 2) := by decide +kernel
theorem dL_areDays_69 : decode cL_areDays 69 = .ok (.iload 4, 2) := by decide +kernel
theorem dL_areDays_71 : decode cL_areDays 71 = .ok (.if_icmp .eq 16, 3) := by decide +kernel
theorem dL_areDays_74 : decode cL_areDays 74 = .ok (.aload_n 0, 1) := by decide +kernel
theorem dL_areDays_75 : decode cL_areDays 75 = .ok (.iload 5, 2) := by decide +kernel
theorem dL_areDays_77 : decode cL_areDays 77 = .ok (.iconst 1, 1) := by decide +kernel
theorem dL_areDays_78 : decode cL_areDays 78 = .ok (.isub, 1) := by decide +kernel
theorem dL_areDays_79 : decode cL_areDays 79 = .ok (.invokevirtual 64, 3) := by decide +kernel
theorem dL_areDays_82 : decode cL_areDays 82 = .ok (.iload 5, 2) := by decide +kernel
theorem dL_areDays_84 : decode cL_areDays 84 = .ok (.if_icmp .ne 7, 3) := by decide +kernel
theorem dL_areDays_87 : decode cL_areDays 87 = .ok (.iconst 1, 1) := by decide +kernel
theorem dL_areDays_88 : decode cL_areDays 88 = .ok (.goto 4, 3) := by decide +kernel
theorem dL_areDays_91 : decode cL_areDays 91 = .ok (.iconst 0, 1) := by decide +kernel
theorem dL_areDays_92 : decode cL_areDays 92 = .ok (.istore 6, 2) := by decide +kernel
theorem dL_areDays_94 : decode cL_areDays 94 = .ok (.aload_n 0, 1) := by decide +kernel
theorem dL_areDays_95 : decode cL_areDays 95 = .ok (.invokevirtual 61, 3) := by decide +kernel
theorem dL_areDays_98 : decode cL_areDays 98 = .ok (.iload_n 2, 1) := by decide +kernel
theorem dL_areDays_99 : decode cL_areDays 99 = .ok (.bipush 30, 2) := by decide +kernel
theorem dL_areDays_101 : decode cL_areDays 101 = .ok (.irem, 1) := by decide +kernel
theorem dL_areDays_102 : decode cL_areDays 102 = .ok (.iadd, 1) := by decide +kernel
theorem dL_areDays_103 : decode cL_areDays 103 = .ok (.istore 7, 2) := by decide +kernel
theorem dL_areDays_105 : decode cL_areDays 105 = .ok (.iload 7, 2) := by decide +kernel
theorem dL_areDays_107 : decode cL_areDays 107 = .ok (.iload_n 3, 1) := by decide +kernel
theorem dL_areDays_108 : decode cL_areDays 108 = .ok (.bipush 20, 2) := by decide +kernel
theorem dL_areDays_110 : decode cL_areDays 110 = .ok (.irem, 1) := by decide +kernel
theorem dL_areDays_111 : decode cL_areDays 111 = .ok (.iadd, 1) := by decide +kernel
