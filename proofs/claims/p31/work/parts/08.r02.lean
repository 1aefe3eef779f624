theorem dX8_heldBetweenPasses_1 : decode cX8_heldBetweenPasses 1 = .ok (.iconst 0, 1) := by decide +kernel
theorem dX8_heldBetweenPasses_2 : decode cX8_heldBetweenPasses 2 = .ok (.invokestatic 78, 3) := by decide +kernel
theorem dX8_heldBetweenPasses_5 : decode cX8_heldBetweenPasses 5 = .ok (.lstore_n 1, 1) := by decide +kernel
theorem dX8_heldBetweenPasses_6 : decode cX8_heldBetweenPasses 6 = .ok (.lload_n 1, 1) := by decide +kernel
theorem dX8_heldBetweenPasses_7 : decode cX8_heldBetweenPasses 7 = .ok (.aload_n 0, 1) := by decide +kernel
theorem dX8_heldBetweenPasses_8 : decode cX8_heldBetweenPasses 8 = .ok (.lload_n 1, 1) := by decide +kernel
theorem dX8_heldBetweenPasses_9 : decode cX8_heldBetweenPasses 9 = .ok (.invokevirtual 42, 3) := by decide +kernel
theorem dX8_heldBetweenPasses_12 : decode cX8_heldBetweenPasses 12 = .ok (.lconst 0, 1) := by decide +kernel
theorem dX8_heldBetweenPasses_13 : decode cX8_heldBetweenPasses 13 = .ok (.invokestatic 46, 3) := by decide +kernel
theorem dX8_heldBetweenPasses_16 : decode cX8_heldBetweenPasses 16 = .ok (.lsub, 1) := by decide +kernel
theorem dX8_heldBetweenPasses_17 : decode cX8_heldBetweenPasses 17 = .ok (.lreturn, 1) := by decide +kernel
def ch_wsX8_heldWithGifts : List (List Cond) := [wsX8_heldWithGifts_r1, wsX8_heldWithGifts_r2, wsX00, wsJx4a65c0]
theorem chm_wsX8_heldWithGifts : ∀ c ∈ ch_wsX8_heldWithGifts, ∀ w ∈ c, w ∈ wsX8_heldWithGifts := List.forall_mem_cons.mpr ⟨(fun w h => (List.mem_cons_of_mem _ (List.mem_append_left _ (List.mem_append_left _ (List.mem_append_left _ h))))), List.forall_mem_cons.mpr ⟨(fun w h => (List.mem_cons_of_mem _ (List.mem_append_left _ (List.mem_append_left _ (List.mem_append_right _ h))))), List.forall_mem_cons.mpr ⟨(fun w h => (List.mem_cons_of_mem _ (List.mem_append_left _ (List.mem_append_right _ h)))), List.forall_mem_cons.mpr ⟨(fun w h => (List.mem_cons_of_mem _ (List.mem_append_right _ h))), fun _ h => absurd h List.not_mem_nil⟩⟩⟩⟩
set_option maxRecDepth 100000 in
set_option maxHeartbeats 4000000 in
theorem ggX8_heldWithGifts_Jx4a65c_size_8abf5 : GoodIn wsX8_heldWithGifts wsJx4a65c_size_8abf5 := goodIn_k ch_wsX8_heldWithGifts chm_wsX8_heldWithGifts _ [(0, 11), (0, 12), (3, 0), (3, 1), (3, 2)] (by rfl) (by decide +kernel)
set_option maxRecDepth 20000 in
theorem gX8_heldWithGifts_Jx4a65c_size_8abf5 : GoodIn wsX8_heldWithGifts (wsV RX8 19 RJx4a65c yJx4a65c_size_8abf5 wsJx4a65c_size_8abf5) := goodIn_app (goodIn_of _ (by decide +kernel)) ggX8_heldWithGifts_Jx4a65c_size_8abf5
set_option maxRecDepth 100000 in
set_option maxHeartbeats 4000000 in
theorem ggX8_heldWithGifts_Jx4a65c_get_915e3 : GoodIn wsX8_heldWithGifts wsJx4a65c_get_915e3 := goodIn_k ch_wsX8_heldWithGifts chm_wsX8_heldWithGifts _ [(0, 16), (0, 12), (0, 17), (0, 18), (0, 19), (0, 20), (0, 21), (0, 22), (0, 23), (1, 0), (1, 1), (1, 2), (1, 3), (0, 10), (1, 4), (1, 5), (3, 0), (3, 1), (3, 2)] (by rfl) (by decide +kernel)
set_option maxRecDepth 20000 in
theorem gX8_heldWithGifts_Jx4a65c_get_915e3 : GoodIn wsX8_heldWithGifts (wsV RX8 25 RJx4a65c yJx4a65c_get_915e3 wsJx4a65c_get_915e3) := goodIn_app (goodIn_of _ (by decide +kernel)) ggX8_heldWithGifts_Jx4a65c_get_915e3
set_option maxRecDepth 20000 in
theorem ggX8_heldWithGifts_X8_heldWithGifts : GoodIn wsX8_heldWithGifts wsX8_heldWithGifts := goodIn_r _ [0, 1, 2, 3, 4, 5, 6, 7, 8, 9, 10, 11, 12, 13, 14, 15, 16, 17, 18, 19, 20, 21, 22, 23, 24, 25, 26, 27, 28, 29, 30, 31, 32, 33, 34, 35, 36, 37, 38, 39, 40, 41, 42, 43, 44, 45, 46, 47, 48, 49, 50, 51, 52, 53, 54, 55, 56, 57, 58, 59] (by decide +kernel) (by decide +kernel)
set_option maxRecDepth 20000 in
theorem gX8_heldWithGifts_X8_heldWithGifts : GoodIn wsX8_heldWithGifts (va_wsS RX8 78 yX8_heldWithGifts wsX8_heldWithGifts) := goodIn_app (goodIn_of _ (by decide +kernel)) ggX8_heldWithGifts_X8_heldWithGifts
set_option maxRecDepth 100000 in
set_option maxHeartbeats 4000000 in
theorem ggX8_heldWithGifts_X0_surplusOf : GoodIn wsX8_heldWithGifts wsX0_surplusOf := goodIn_k ch_wsX8_heldWithGifts chm_wsX8_heldWithGifts _ [(1, 13), (1, 14), (1, 15), (1, 16), (0, 4), (0, 5), (0, 6), (1, 17), (1, 18), (1, 19), (2, 0), (2, 1), (2, 2), (2, 3), (2, 4), (2, 5), (2, 6), (2, 7), (2, 8), (2, 9), (2, 10), (2, 11)] (by rfl) (by decide +kernel)
set_option maxRecDepth 20000 in
theorem gX8_heldWithGifts_X0_surplusOf : GoodIn wsX8_heldWithGifts (wsV RX8 42 RX0 yX0_surplusOf wsX0_surplusOf) := goodIn_app (goodIn_of _ (by decide +kernel)) ggX8_heldWithGifts_X0_surplusOf
theorem dX8_heldWithGifts_0 : decode cX8_heldWithGifts 0 = .ok (.iload_n 1, 1) := by decide +kernel
theorem dX8_heldWithGifts_1 : decode cX8_heldWithGifts 1 = .ok (.bipush 10, 2) := by decide +kernel
theorem dX8_heldWithGifts_3 : decode cX8_heldWithGifts 3 = .ok (.if_icmp .le 5, 3) := by decide +kernel
theorem dX8_heldWithGifts_6 : decode cX8_heldWithGifts 6 = .ok (.lconst 0, 1) := by decide +kernel
theorem dX8_heldWithGifts_7 : decode cX8_heldWithGifts 7 = .ok (.lreturn, 1) := by decide +kernel
theorem dX8_heldWithGifts_8 : decode cX8_heldWithGifts 8 = .ok (.aload_n 0, 1) := by decide +kernel
theorem dX8_heldWithGifts_9 : decode cX8_heldWithGifts 9 = .ok (.getfield 9, 3) := by decide +kernel
theorem dX8_heldWithGifts_12 : decode cX8_heldWithGifts 12 = .ok (.lstore_n 2, 1) := by decide +kernel
theorem dX8_heldWithGifts_13 : decode cX8_heldWithGifts 13 = .ok (.iconst 0, 1) := by decide +kernel
theorem dX8_heldWithGifts_14 : decode cX8_heldWithGifts 14 = .ok (.istore 4, 2) := by decide +kernel
theorem dX8_heldWithGifts_16 : decode cX8_heldWithGifts 16 = .ok (.iload 4, 2) := by decide +kernel
theorem dX8_heldWithGifts_18 : decode cX8_heldWithGifts 18 = .ok (.aload_n 0, 1) := by decide +kernel
theorem dX8_heldWithGifts_19 : decode cX8_heldWithGifts 19 = .ok (.getfield 15, 3) := by decide +kernel
theorem dX8_heldWithGifts_22 : decode cX8_heldWithGifts 22 = .ok (.invokevirtual 19, 3) := by decide +kernel
theorem dX8_heldWithGifts_25 : decode cX8_heldWithGifts 25 = .ok (.if_icmp .ge 43, 3) := by decide +kernel
theorem dX8_heldWithGifts_28 : decode cX8_heldWithGifts 28 = .ok (.aload_n 0, 1) := by decide +kernel
theorem dX8_heldWithGifts_29 : decode cX8_heldWithGifts 29 = .ok (.getfield 15, 3) := by decide +kernel
theorem dX8_heldWithGifts_32 : decode cX8_heldWithGifts 32 = .ok (.iload 4, 2) := by decide +kernel
theorem dX8_heldWithGifts_34 : decode cX8_heldWithGifts 34 = .ok (.invokevirtual 25, 3) := by decide +kernel
theorem dX8_heldWithGifts_37 : decode cX8_heldWithGifts 37 = .ok (.checkcast 10, 3) := by decide +kernel
theorem dX8_heldWithGifts_40 : decode cX8_heldWithGifts 40 = .ok (.astore 5, 2) := by decide +kernel
theorem dX8_heldWithGifts_42 : decode cX8_heldWithGifts 42 = .ok (.lload_n 2, 1) := by decide +kernel
theorem dX8_heldWithGifts_43 : decode cX8_heldWithGifts 43 = .ok (.aload 5, 2) := by decide +kernel
theorem dX8_heldWithGifts_45 : decode cX8_heldWithGifts 45 = .ok (.aload 5, 2) := by decide +kernel
theorem dX8_heldWithGifts_47 : decode cX8_heldWithGifts 47 = .ok (.iload_n 1, 1) := by decide +kernel
theorem dX8_heldWithGifts_48 : decode cX8_heldWithGifts 48 = .ok (.iconst 1, 1) := by decide +kernel
theorem dX8_heldWithGifts_49 : decode cX8_heldWithGifts 49 = .ok (.iadd, 1) := by decide +kernel
theorem dX8_heldWithGifts_50 : decode cX8_heldWithGifts 50 = .ok (.invokestatic 78, 3) := by decide +kernel
theorem dX8_heldWithGifts_53 : decode cX8_heldWithGifts 53 = .ok (.invokevirtual 42, 3) := by decide +kernel
theorem dX8_heldWithGifts_56 : decode cX8_heldWithGifts 56 = .ok (.lconst 0, 1) := by decide +kernel
theorem dX8_heldWithGifts_57 : decode cX8_heldWithGifts 57 = .ok (.invokestatic 46, 3) := by decide +kernel
theorem dX8_heldWithGifts_60 : decode cX8_heldWithGifts 60 = .ok (.ladd, 1) := by decide +kernel
theorem dX8_heldWithGifts_61 : decode cX8_heldWithGifts 61 = .ok (.lstore_n 2, 1) := by decide +kernel
theorem dX8_heldWithGifts_62 : decode cX8_heldWithGifts 62 = .ok (.iinc 4 1, 3) := by decide +kernel
theorem dX8_heldWithGifts_65 : decode cX8_heldWithGifts 65 = .ok (.goto (-49), 3) := by decide +kernel
theorem dX8_heldWithGifts_68 : decode cX8_heldWithGifts 68 = .ok (.lload_n 2, 1) := by decide +kernel
theorem dX8_heldWithGifts_69 : decode cX8_heldWithGifts 69 = .ok (.lreturn, 1) := by decide +kernel
def ch_wsX9_init : List (List Cond) := [wsX9_init_r1, wsX9_init_r2, wsX9_init_r3, wsX9_init_r4, wsX9_init_r5, wsX30, wsX90, wsJx4a65c0, wsX20, wsX10]
theorem chm_wsX9_init : ∀ c ∈ ch_wsX9_init, ∀ w ∈ c, w ∈ wsX9_init := List.forall_mem_cons.mpr ⟨(fun w h => (List.mem_cons_of_mem _ (List.mem_append_left _ (List.mem_append_left _ (List.mem_append_left _ (List.mem_append_left _ (List.mem_append_left _ (List.mem_append_left _ h)))))))), List.forall_mem_cons.mpr ⟨(fun w h => (List.mem_cons_of_mem _ (List.mem_append_left _ (List.mem_append_left _ (List.mem_append_left _ (List.mem_append_left _ (List.mem_append_left _ (List.mem_append_right _ (List.mem_append_left _ h))))))))), List.forall_mem_cons.mpr ⟨(fun w h => (List.mem_cons_of_mem _ (List.mem_append_left _ (List.mem_append_left _ (List.mem_append_left _ (List.mem_append_left _ (List.mem_append_left _ (List.mem_append_right _ (List.mem_append_right _ (List.mem_append_left _ h)))))))))), List.forall_mem_cons.mpr ⟨(fun w h => (List.mem_cons_of_mem _ (List.mem_append_left _ (List.mem_append_left _ (List.mem_append_left _ (List.mem_append_left _ (List.mem_append_left _ (List.mem_append_right _ (List.mem_append_right _ (List.mem_append_right _ (List.mem_append_left _ h))))))))))), List.forall_mem_cons.mpr ⟨(fun w h => (List.mem_cons_of_mem _ (List.mem_append_left _ (List.mem_append_left _ (List.mem_append_left _ (List.mem_append_left _ (List.mem_append_left _ (List.mem_append_right _ (List.mem_append_right _ (List.mem_append_right _ (List.mem_append_right _ h))))))))))), List.forall_mem_cons.mpr ⟨(fun w h => (List.mem_cons_of_mem _ (List.mem_append_left _ (List.mem_append_left _ (List.mem_append_left _ (List.mem_append_left _ (List.mem_append_right _ h))))))), List.forall_mem_cons.mpr ⟨(fun w h => (List.mem_cons_of_mem _ (List.mem_append_left _ (List.mem_append_left _ (List.mem_append_left _ (List.mem_append_right _ h)))))), List.forall_mem_cons.mpr ⟨(fun w h => (List.mem_cons_of_mem _ (List.mem_append_left _ (List.mem_append_left _ (List.mem_append_right _ h))))), List.forall_mem_cons.mpr ⟨(fun w h => (List.mem_cons_of_mem _ (List.mem_append_left _ (List.mem_append_right _ h)))), List.forall_mem_cons.mpr ⟨(fun w h => (List.mem_cons_of_mem _ (List.mem_append_right _ h))), fun _ h => absurd h List.not_mem_nil⟩⟩⟩⟩⟩⟩⟩⟩⟩⟩
set_option maxRecDepth 100000 in
set_option maxHeartbeats 4000000 in
theorem ggX9_init_X3_init : GoodIn wsX9_init wsX3_init := goodIn_k ch_wsX9_init chm_wsX9_init _ [(0, 9), (0, 10), (0, 1), (0, 2), (0, 11), (0, 12), (0, 13), (0, 14), (0, 15), (0, 16), (0, 17), (0, 18), (0, 19), (0, 20), (0, 21), (0, 22), (0, 23), (1, 0), (1, 1), (1, 2), (1, 3), (1, 4), (1, 5), (1, 6), (1, 7), (1, 8), (1, 9), (1, 10), (1, 11), (1, 12), (1, 13), (1, 14), (1, 15), (1, 16), (1, 17), (1, 18), (1, 19), (1, 20), (1, 21), (1, 22), (1, 23), (2, 0), (2, 1), (2, 2), (2, 3), (2, 4), (2, 5), (2, 6), (2, 7), (2, 8), (2, 9), (2, 10), (2, 11), (2, 12), (2, 13), (2, 14), (2, 15), (2, 16), (2, 17), (2, 18), (2, 19), (2, 20), (2, 21), (2, 22), (2, 23), (3, 0), (3, 1), (3, 2), (3, 3), (3, 4), (3, 5), (3, 6), (3, 7), (3, 8), (3, 9), (3, 10), (3, 11), (3, 12), (3, 13), (3, 14), (3, 15), (3, 16), (3, 17), (3, 18), (3, 19), (3, 20), (3, 21), (3, 22), (3, 23), (4, 0), (4, 1), (4, 2), (4, 3), (4, 4), (4, 5), (4, 6), (4, 7), (4, 8), (7, 0), (7, 1), (7, 2), (5, 0), (5, 1), (5, 2), (5, 3), (5, 4), (5, 5), (5, 6), (5, 7), (8, 0), (9, 0), (9, 1), (9, 2)] (by rfl) (by decide +kernel)
set_option maxRecDepth 20000 in
theorem gX9_init_X3_init : GoodIn wsX9_init (wsX3_init) := ggX9_init_X3_init
theorem dX9_init_0 : decode cX9_init 0 = .ok (.aload_n 0, 1) := by decide +kernel
theorem dX9_init_1 : decode cX9_init 1 = .ok (.invokespecial 1, 3) := by decide +kernel
theorem dX9_init_4 : decode cX9_init 4 = .ok (.aload_n 0, 1) := by decide +kernel
theorem dX9_init_5 : decode cX9_init 5 = .ok (.new 7, 3) := by decide +kernel
theorem dX9_init_8 : decode cX9_init 8 = .ok (.dup, 1) := by decide +kernel
theorem dX9_init_9 : decode cX9_init 9 = .ok (.invokespecial 9, 3) := by decide +kernel
theorem dX9_init_12 : decode cX9_init 12 = .ok (.putfield 10, 3) := by decide +kernel
theorem dX9_init_15 : decode cX9_init 15 = .ok (.return_, 1) := by decide +kernel
def ch_wsX9_addPool : List (List Cond) := [wsX9_addPool_r1, wsX9_addPool_r2, wsX9_addPool_r3, wsX9_addPool_r4, wsX9_addPool_r5, wsX9_addPool_r6, wsX9_addPool_r7, wsX90, wsX30, wsJx4a65c0, wsX60, wsX00, wsX70]
theorem chm_wsX9_addPool : ∀ c ∈ ch_wsX9_addPool, ∀ w ∈ c, w ∈ wsX9_addPool := List.forall_mem_cons.mpr ⟨(fun w h => (List.mem_cons_of_mem _ (List.mem_append_left _ (List.mem_append_left _ (List.mem_append_left _ (List.mem_append_left _ (List.mem_append_left _ (List.mem_append_left _ (List.mem_append_left _ (List.mem_append_left _ (List.mem_append_left _ h))))))))))), List.forall_mem_cons.mpr ⟨(fun w h => (List.mem_cons_of_mem _ (List.mem_append_left _ (List.mem_append_left _ (List.mem_append_left _ (List.mem_append_left _ (List.mem_append_left _ (List.mem_append_left _ (List.mem_append_left _ (List.mem_append_left _ (List.mem_append_right _ (List.mem_append_left _ h)))))))))))), List.forall_mem_cons.mpr ⟨(fun w h => (List.mem_cons_of_mem _ (List.mem_append_left _ (List.mem_append_left _ (List.mem_append_left _ (List.mem_append_left _ (List.mem_append_left _ (List.mem_append_left _ (List.mem_append_left _ (List.mem_append_left _ (List.mem_append_right _ (List.mem_append_right _ (List.mem_append_left _ h))))))))))))), List.forall_mem_cons.mpr ⟨(fun w h => (List.mem_cons_of_mem _ (List.mem_append_left _ (List.mem_append_left _ (List.mem_append_left _ (List.mem_append_left _ (List.mem_append_left _ (List.mem_append_left _ (List.mem_append_left _ (List.mem_append_left _ (List.mem_append_right _ (List.mem_append_right _ (List.mem_append_right _ (List.mem_append_left _ h)))))))))))))), List.forall_mem_cons.mpr ⟨(fun w h => (List.mem_cons_of_mem _ (List.mem_append_left _ (List.mem_append_left _ (List.mem_append_left _ (List.mem_append_left _ (List.mem_append_left _ (List.mem_append_left _ (List.mem_append_left _ (List.mem_append_left _ (List.mem_append_right _ (List.mem_append_right _ (List.mem_append_right _ (List.mem_append_right _ (List.mem_append_left _ h))))))))))))))), List.forall_mem_cons.mpr ⟨(fun w h => (List.mem_cons_of_mem _ (List.mem_append_left _ (List.mem_append_left _ (List.mem_append_left _ (List.mem_append_left _ (List.mem_append_left _ (List.mem_append_left _ (List.mem_append_left _ (List.mem_append_left _ (List.mem_append_right _ (List.mem_append_right _ (List.mem_append_right _ (List.mem_append_right _ (List.mem_append_right _ (List.mem_append_left _ h)))))))))))))))), List.forall_mem_cons.mpr ⟨(fun w h => (List.mem_cons_of_mem _ (List.mem_append_left _ (List.mem_append_left _ (List.mem_append_left _ (List.mem_append_left _ (List.mem_append_left _ (List.mem_append_left _ (List.mem_append_left _ (List.mem_append_left _ (List.mem_append_right _ (List.mem_append_right _ (List.mem_append_right _ (List.mem_append_right _ (List.mem_append_right _ (List.mem_append_right _ h)))))))))))))))), List.forall_mem_cons.mpr ⟨(fun w h => (List.mem_cons_of_mem _ (List.mem_append_left _ (List.mem_append_left _ (List.mem_append_left _ (List.mem_append_left _ (List.mem_append_left _ (List.mem_append_left _ (List.mem_append_left _ (List.mem_append_right _ h)))))))))), List.forall_mem_cons.mpr ⟨(fun w h => (List.mem_cons_of_mem _ (List.mem_append_left _ (List.mem_append_left _ (List.mem_append_left _ (List.mem_append_left _ (List.mem_append_left _ (List.mem_append_left _ (List.mem_append_right _ h))))))))), List.forall_mem_cons.mpr ⟨(fun w h => (List.mem_cons_of_mem _ (List.mem_append_left _ (List.mem_append_left _ (List.mem_append_left _ (List.mem_append_left _ (List.mem_append_left _ (List.mem_append_right _ h)))))))), List.forall_mem_cons.mpr ⟨(fun w h => (List.mem_cons_of_mem _ (List.mem_append_left _ (List.mem_append_left _ (List.mem_append_left _ (List.mem_append_left _ (List.mem_append_right _ h))))))), List.forall_mem_cons.mpr ⟨(fun w h => (List.mem_cons_of_mem _ (List.mem_append_left _ (List.mem_append_left _ (List.mem_append_left _ (List.mem_append_right _ h)))))), List.forall_mem_cons.mpr ⟨(fun w h => (List.mem_cons_of_mem _ (List.mem_append_left _ (List.mem_append_left _ (List.mem_append_right _ h))))), fun _ h => absurd h List.not_mem_nil⟩⟩⟩⟩⟩⟩⟩⟩⟩⟩⟩⟩⟩
set_option maxRecDepth 100000 in
set_option maxHeartbeats 4000000 in
theorem ggX9_addPool_X9_bankAt : GoodIn wsX9_addPool wsX9_bankAt := goodIn_ca (goodIn_k ch_wsX9_addPool chm_wsX9_addPool _ [(0, 5), (0, 6), (0, 7), (0, 0), (0, 8), (0, 9), (0, 10), (0, 11), (0, 12), (0, 13), (0, 14), (0, 15), (0, 16), (0, 17), (0, 18), (0, 19), (0, 20), (0, 21), (0, 22), (0, 23), (1, 0), (1, 1), (1, 2), (1, 3), (1, 4), (1, 5), (1, 6), (1, 7), (1, 8), (7, 0), (8, 0), (8, 1), (8, 2), (8, 3), (8, 4), (8, 5), (8, 6), (8, 7), (9, 0), (9, 1), (9, 2)] (by rfl) (by decide +kernel)) (goodIn_sub (fun _ h => List.mem_cons_of_mem _ (List.mem_append_left _ (List.mem_append_right _ h))) (by decide +kernel))
set_option maxRecDepth 20000 in
theorem gX9_addPool_X9_bankAt : GoodIn wsX9_addPool (wsV RX9 16 RX9 yX9_bankAt wsX9_bankAt) := goodIn_app (goodIn_of _ (by decide +kernel)) ggX9_addPool_X9_bankAt
set_option maxRecDepth 100000 in
set_option maxHeartbeats 4000000 in
theorem ggX9_addPool_X9_requireWithin : GoodIn wsX9_addPool wsX9_requireWithin := goodIn_ca (goodIn_k ch_wsX9_addPool chm_wsX9_addPool _ [(1, 11), (0, 6), (0, 7)] (by rfl) (by decide +kernel)) (goodIn_sub (fun _ h => List.mem_cons_of_mem _ (List.mem_append_left _ (List.mem_append_right _ h))) (by decide +kernel))
set_option maxRecDepth 20000 in
theorem gX9_addPool_X9_requireWithin : GoodIn wsX9_addPool (va_wsS RX9 20 yX9_requireWithin wsX9_requireWithin) := goodIn_app (goodIn_of _ (by decide +kernel)) ggX9_addPool_X9_requireWithin
set_option maxRecDepth 100000 in
set_option maxHeartbeats 4000000 in
theorem ggX9_addPool_X9_requireAccountLeft : GoodIn wsX9_addPool wsX9_requireAccountLeft := goodIn_ca (goodIn_k ch_wsX9_addPool chm_wsX9_addPool _ [(1, 15), (1, 16), (1, 17), (0, 0), (1, 18), (0, 10), (0, 11), (0, 12), (0, 13), (0, 14), (0, 15), (7, 0), (8, 0), (8, 1), (8, 2), (8, 3), (8, 4), (8, 5), (8, 6), (8, 7), (9, 0), (9, 1), (9, 2)] (by rfl) (by decide +kernel)) (goodIn_sub (fun _ h => List.mem_cons_of_mem _ (List.mem_append_right _ h)) (by decide +kernel))
set_option maxRecDepth 20000 in
theorem gX9_addPool_X9_requireAccountLeft : GoodIn wsX9_addPool (wsV RX9 24 RX9 yX9_requireAccountLeft wsX9_requireAccountLeft) := goodIn_app (goodIn_of _ (by decide +kernel)) ggX9_addPool_X9_requireAccountLeft
set_option maxRecDepth 100000 in
set_option maxHeartbeats 4000000 in
theorem ggX9_addPool_X3_openPool : GoodIn wsX9_addPool wsX3_openPool := goodIn_k ch_wsX9_addPool chm_wsX9_addPool _ [(1, 23), (2, 0), (2, 1), (2, 2), (2, 3), (2, 4), (2, 5), (2, 6), (2, 7), (2, 8), (0, 11), (0, 12), (0, 13), (0, 14), (0, 15), (2, 9), (2, 10), (2, 11), (2, 12), (2, 13), (2, 14), (2, 15), (2, 16), (2, 17), (2, 18), (2, 19), (2, 20), (2, 21), (2, 22), (2, 23), (3, 0), (3, 1), (3, 2), (3, 3), (3, 4), (1, 8), (3, 5), (3, 6), (3, 7), (3, 8), (3, 9), (3, 10), (3, 11), (3, 12), (3, 13), (3, 14), (3, 15), (3, 16), (3, 17), (3, 18), (3, 19), (3, 20), (3, 21), (3, 22), (3, 23), (4, 0), (4, 1), (4, 2), (4, 3), (4, 4), (4, 5), (4, 6), (4, 7), (4, 8), (4, 9), (4, 10), (4, 11), (4, 12), (4, 13), (4, 14), (4, 15), (4, 16), (4, 17), (4, 18), (4, 19), (4, 20), (4, 21), (4, 22), (4, 23), (5, 0), (5, 1), (5, 2), (5, 3), (5, 4), (5, 5), (5, 6), (5, 7), (5, 8), (5, 9), (5, 10), (5, 11), (5, 12), (5, 13), (5, 14), (5, 15), (5, 16), (5, 17), (5, 18), (5, 19), (5, 20), (5, 21), (5, 22), (5, 23), (6, 0), (6, 1), (6, 2), (6, 3), (6, 4), (6, 5), (6, 6), (6, 7), (6, 8), (6, 9), (6, 10), (6, 11), (6, 12), (6, 13), (6, 14), (6, 15), (6, 16), (6, 17), (6, 18), (6, 19), (1, 22), (6, 20), (6, 21), (6, 22), (8, 0), (8, 1), (8, 2), (8, 3), (8, 4), (8, 5), (8, 6), (8, 7), (10, 0), (10, 1), (10, 2), (10, 3), (10, 4), (11, 0), (11, 1), (11, 2), (11, 3), (11, 4), (11, 5), (11, 6), (11, 7), (11, 8), (11, 9), (11, 10), (11, 11), (9, 0), (9, 1), (9, 2), (12, 0), (12, 1), (12, 2), (12, 3), (12, 4), (12, 5), (12, 6), (12, 7), (12, 8), (12, 9)] (by rfl) (by decide +kernel)
set_option maxRecDepth 20000 in
theorem gX9_addPool_X3_openPool : GoodIn wsX9_addPool (wsV RX9 27 RX3 yX3_openPool wsX3_openPool) := goodIn_app (goodIn_of _ (by decide +kernel)) ggX9_addPool_X3_openPool
theorem dX9_addPool_0 : decode cX9_addPool 0 = .ok (.aload_n 0, 1) := by decide +kernel
theorem dX9_addPool_1 : decode cX9_addPool 1 = .ok (.iload_n 1, 1) := by decide +kernel
theorem dX9_addPool_2 : decode cX9_addPool 2 = .ok (.invokevirtual 16, 3) := by decide +kernel
theorem dX9_addPool_5 : decode cX9_addPool 5 = .ok (.astore 4, 2) := by decide +kernel
theorem dX9_addPool_7 : decode cX9_addPool 7 = .ok (.iload_n 2, 1) := by decide +kernel
theorem dX9_addPool_8 : decode cX9_addPool 8 = .ok (.iconst 0, 1) := by decide +kernel
theorem dX9_addPool_9 : decode cX9_addPool 9 = .ok (.sipush 1000, 3) := by decide +kernel
theorem dX9_addPool_12 : decode cX9_addPool 12 = .ok (.invokestatic 20, 3) := by decide +kernel
theorem dX9_addPool_15 : decode cX9_addPool 15 = .ok (.iload_n 3, 1) := by decide +kernel
theorem dX9_addPool_16 : decode cX9_addPool 16 = .ok (.iconst 0, 1) := by decide +kernel
theorem dX9_addPool_17 : decode cX9_addPool 17 = .ok (.sipush 1000, 3) := by decide +kernel
theorem dX9_addPool_20 : decode cX9_addPool 20 = .ok (.invokestatic 20, 3) := by decide +kernel
theorem dX9_addPool_23 : decode cX9_addPool 23 = .ok (.aload_n 0, 1) := by decide +kernel
theorem dX9_addPool_24 : decode cX9_addPool 24 = .ok (.invokevirtual 24, 3) := by decide +kernel
theorem dX9_addPool_27 : decode cX9_addPool 27 = .ok (.aload_n 0, 1) := by decide +kernel
theorem dX9_addPool_28 : decode cX9_addPool 28 = .ok (.getfield 10, 3) := by decide +kernel
theorem dX9_addPool_31 : decode cX9_addPool 31 = .ok (.aload 4, 2) := by decide +kernel
theorem dX9_addPool_33 : decode cX9_addPool 33 = .ok (.iload_n 2, 1) := by decide +kernel
theorem dX9_addPool_34 : decode cX9_addPool 34 = .ok (.iload_n 3, 1) := by decide +kernel
theorem dX9_addPool_35 : decode cX9_addPool 35 = .ok (.invokevirtual 27, 3) := by decide +kernel
theorem dX9_addPool_38 : decode cX9_addPool 38 = .ok (.ireturn, 1) := by decide +kernel
def ch_wsX9_addAccount : List (List Cond) := [wsX9_addAccount_r1, wsX9_addAccount_r2, wsX9_addAccount_r3, wsX9_addAccount_r4, wsX9_addAccount_r5, wsX9_addAccount_r6, wsX90, wsX30, wsJx4a65c0, wsX00, wsX60]
theorem chm_wsX9_addAccount : ∀ c ∈ ch_wsX9_addAccount, ∀ w ∈ c, w ∈ wsX9_addAccount := List.forall_mem_cons.mpr ⟨(fun w h => (List.mem_cons_of_mem _ (List.mem_append_left _ (List.mem_append_left _ (List.mem_append_left _ (List.mem_append_left _ (List.mem_append_left _ (List.mem_append_left _ (List.mem_append_left _ (List.mem_append_left _ (List.mem_append_left _ h))))))))))), List.forall_mem_cons.mpr ⟨(fun w h => (List.mem_cons_of_mem _ (List.mem_append_left _ (List.mem_append_left _ (List.mem_append_left _ (List.mem_append_left _ (List.mem_append_left _ (List.mem_append_left _ (List.mem_append_left _ (List.mem_append_left _ (List.mem_append_right _ (List.mem_append_left _ h)))))))))))), List.forall_mem_cons.mpr ⟨(fun w h => (List.mem_cons_of_mem _ (List.mem_append_left _ (List.mem_append_left _ (List.mem_append_left _ (List.mem_append_left _ (List.mem_append_left _ (List.mem_append_left _ (List.mem_append_left _ (List.mem_append_left _ (List.mem_append_right _ (List.mem_append_right _ (List.mem_append_left _ h))))))))))))), List.forall_mem_cons.mpr ⟨(fun w h => (List.mem_cons_of_mem _ (List.mem_append_left _ (List.mem_append_left _ (List.mem_append_left _ (List.mem_append_left _ (List.mem_append_left _ (List.mem_append_left _ (List.mem_append_left _ (List.mem_append_left _ (List.mem_append_right _ (List.mem_append_right _ (List.mem_append_right _ (List.mem_append_left _ h)))))))))))))), List.forall_mem_cons.mpr ⟨(fun w h => (List.mem_cons_of_mem _ (List.mem_append_left _ (List.mem_append_left _ (List.mem_append_left _ (List.mem_append_left _ (List.mem_append_left _ (List.mem_append_left _ (List.mem_append_left _ (List.mem_append_left _ (List.mem_append_right _ (List.mem_append_right _ (List.mem_append_right _ (List.mem_append_right _ (List.mem_append_left _ h))))))))))))))), List.forall_mem_cons.mpr ⟨(fun w h => (List.mem_cons_of_mem _ (List.mem_append_left _ (List.mem_append_left _ (List.mem_append_left _ (List.mem_append_left _ (List.mem_append_left _ (List.mem_append_left _ (List.mem_append_left _ (List.mem_append_left _ (List.mem_append_right _ (List.mem_append_right _ (List.mem_append_right _ (List.mem_append_right _ (List.mem_append_right _ h))))))))))))))), List.forall_mem_cons.mpr ⟨(fun w h => (List.mem_cons_of_mem _ (List.mem_append_left _ (List.mem_append_left _ (List.mem_append_left _ (List.mem_append_left _ (List.mem_append_left _ (List.mem_append_left _ (List.mem_append_left _ (List.mem_append_right _ h)))))))))), List.forall_mem_cons.mpr ⟨(fun w h => (List.mem_cons_of_mem _ (List.mem_append_left _ (List.mem_append_left _ (List.mem_append_left _ (List.mem_append_left _ (List.mem_append_left _ (List.mem_append_left _ (List.mem_append_right _ h))))))))), List.forall_mem_cons.mpr ⟨(fun w h => (List.mem_cons_of_mem _ (List.mem_append_left _ (List.mem_append_left _ (List.mem_append_left _ (List.mem_append_left _ (List.mem_append_left _ (List.mem_append_right _ h)))))))), List.forall_mem_cons.mpr ⟨(fun w h => (List.mem_cons_of_mem _ (List.mem_append_left _ (List.mem_append_left _ (List.mem_append_left _ (List.mem_append_left _ (List.mem_append_right _ h))))))), List.forall_mem_cons.mpr ⟨(fun w h => (List.mem_cons_of_mem _ (List.mem_append_left _ (List.mem_append_left _ (List.mem_append_left _ (List.mem_append_right _ h)))))), fun _ h => absurd h List.not_mem_nil⟩⟩⟩⟩⟩⟩⟩⟩⟩⟩⟩
set_option maxRecDepth 100000 in
set_option maxHeartbeats 4000000 in
theorem ggX9_addAccount_X9_accountAt : GoodIn wsX9_addAccount wsX9_accountAt := goodIn_ca (goodIn_k ch_wsX9_addAccount chm_wsX9_addAccount _ [(0, 5), (0, 6), (0, 7), (0, 0), (0, 8), (0, 9), (0, 10), (0, 11), (0, 12), (0, 13), (0, 14), (0, 15), (0, 16), (0, 17), (0, 18), (0, 19), (0, 20), (0, 21), (0, 22), (0, 23), (1, 0), (1, 1), (1, 2), (1, 3), (1, 4), (1, 5), (1, 6), (1, 7), (1, 8), (6, 0), (7, 0), (7, 1), (7, 2), (7, 3), (7, 4), (7, 5), (7, 6), (7, 7), (8, 0), (8, 1), (8, 2)] (by rfl) (by decide +kernel)) (goodIn_sub (fun _ h => List.mem_cons_of_mem _ (List.mem_append_left _ (List.mem_append_left _ (List.mem_append_right _ h)))) (by decide +kernel))
set_option maxRecDepth 20000 in
theorem gX9_addAccount_X9_accountAt : GoodIn wsX9_addAccount (wsV RX9 31 RX9 yX9_accountAt wsX9_accountAt) := goodIn_app (goodIn_of _ (by decide +kernel)) ggX9_addAccount_X9_accountAt
set_option maxRecDepth 100000 in
set_option maxHeartbeats 4000000 in
theorem ggX9_addAccount_X9_bankAt : GoodIn wsX9_addAccount wsX9_bankAt := goodIn_ca (goodIn_k ch_wsX9_addAccount chm_wsX9_addAccount _ [(1, 12), (1, 13), (1, 14), (0, 0), (1, 15), (1, 16), (0, 10), (0, 11), (0, 12), (0, 13), (0, 14), (0, 15), (0, 16), (0, 17), (0, 18), (0, 19), (0, 20), (0, 21), (0, 22), (0, 23), (1, 0), (1, 1), (1, 2), (1, 3), (1, 4), (1, 5), (1, 6), (1, 7), (1, 8), (6, 0), (7, 0), (7, 1), (7, 2), (7, 3), (7, 4), (7, 5), (7, 6), (7, 7), (8, 0), (8, 1), (8, 2)] (by rfl) (by decide +kernel)) (goodIn_sub (fun _ h => List.mem_cons_of_mem _ (List.mem_append_left _ (List.mem_append_right _ h))) (by decide +kernel))
set_option maxRecDepth 20000 in
theorem gX9_addAccount_X9_bankAt : GoodIn wsX9_addAccount (wsV RX9 16 RX9 yX9_bankAt wsX9_bankAt) := goodIn_app (goodIn_of _ (by decide +kernel)) ggX9_addAccount_X9_bankAt
set_option maxRecDepth 100000 in
set_option maxHeartbeats 4000000 in
theorem ggX9_addAccount_X9_requireAccountLeft : GoodIn wsX9_addAccount wsX9_requireAccountLeft := goodIn_ca (goodIn_k ch_wsX9_addAccount chm_wsX9_addAccount _ [(1, 20), (1, 21), (1, 22), (0, 0), (0, 8), (0, 10), (0, 11), (0, 12), (0, 13), (0, 14), (0, 15), (6, 0), (7, 0), (7, 1), (7, 2), (7, 3), (7, 4), (7, 5), (7, 6), (7, 7), (8, 0), (8, 1), (8, 2)] (by rfl) (by decide +kernel)) (goodIn_sub (fun _ h => List.mem_cons_of_mem _ (List.mem_append_right _ h)) (by decide +kernel))
set_option maxRecDepth 20000 in
theorem gX9_addAccount_X9_requireAccountLeft : GoodIn wsX9_addAccount (wsV RX9 24 RX9 yX9_requireAccountLeft wsX9_requireAccountLeft) := goodIn_app (goodIn_of _ (by decide +kernel)) ggX9_addAccount_X9_requireAccountLeft
set_option maxRecDepth 100000 in
set_option maxHeartbeats 4000000 in
theorem ggX9_addAccount_X3_openAccount : GoodIn wsX9_addAccount wsX3_openAccount := goodIn_k ch_wsX9_addAccount chm_wsX9_addAccount _ [(2, 3), (2, 4), (2, 5), (2, 6), (2, 7), (2, 8), (2, 9), (2, 10), (0, 11), (0, 12), (0, 13), (0, 14), (0, 15), (2, 11), (2, 12), (2, 13), (2, 14), (2, 15), (2, 16), (2, 17), (2, 18), (2, 19), (2, 20), (2, 21), (2, 22), (2, 23), (3, 0), (3, 1), (3, 2), (3, 3), (1, 8), (3, 4), (3, 5), (3, 6), (3, 7), (3, 8), (3, 9), (3, 10), (3, 11), (3, 12), (3, 13), (3, 14), (3, 15), (3, 16), (3, 17), (3, 18), (3, 19), (3, 20), (3, 21), (3, 22), (3, 23), (4, 0), (4, 1), (4, 2), (4, 3), (4, 4), (4, 5), (4, 6), (4, 7), (4, 8), (4, 9), (4, 10), (4, 11), (4, 12), (4, 13), (4, 14), (4, 15), (4, 16), (4, 17), (4, 18), (4, 19), (4, 20), (4, 21), (4, 22), (4, 23), (5, 0), (5, 1), (5, 2), (5, 3), (5, 4), (5, 5), (5, 6), (5, 7), (5, 8), (5, 9), (5, 10), (5, 11), (5, 12), (5, 13), (5, 14), (5, 15), (5, 16), (5, 17), (5, 18), (5, 19), (5, 20), (2, 2), (5, 21), (5, 22), (7, 0), (7, 1), (7, 2), (7, 3), (7, 4), (7, 5), (7, 6), (7, 7), (9, 0), (9, 1), (9, 2), (9, 3), (9, 4), (9, 5), (9, 6), (9, 7), (9, 8), (9, 9), (9, 10), (9, 11), (8, 0), (8, 1), (8, 2), (10, 0), (10, 1), (10, 2), (10, 3), (10, 4)] (by rfl) (by decide +kernel)
set_option maxRecDepth 20000 in
theorem gX9_addAccount_X3_openAccount : GoodIn wsX9_addAccount (wsV RX9 35 RX3 yX3_openAccount wsX3_openAccount) := goodIn_app (goodIn_of _ (by decide +kernel)) ggX9_addAccount_X3_openAccount
theorem dX9_addAccount_0 : decode cX9_addAccount 0 = .ok (.aload_n 0, 1) := by decide +kernel
theorem dX9_addAccount_1 : decode cX9_addAccount 1 = .ok (.iload_n 1, 1) := by decide +kernel
theorem dX9_addAccount_2 : decode cX9_addAccount 2 = .ok (.invokevirtual 31, 3) := by decide +kernel
theorem dX9_addAccount_5 : decode cX9_addAccount 5 = .ok (.astore_n 3, 1) := by decide +kernel
theorem dX9_addAccount_6 : decode cX9_addAccount 6 = .ok (.aload_n 0, 1) := by decide +kernel
theorem dX9_addAccount_7 : decode cX9_addAccount 7 = .ok (.iload_n 2, 1) := by decide +kernel
theorem dX9_addAccount_8 : decode cX9_addAccount 8 = .ok (.invokevirtual 16, 3) := by decide +kernel
theorem dX9_addAccount_11 : decode cX9_addAccount 11 = .ok (.astore 4, 2) := by decide +kernel
theorem dX9_addAccount_13 : decode cX9_addAccount 13 = .ok (.aload_n 0, 1) := by decide +kernel
theorem dX9_addAccount_14 : decode cX9_addAccount 14 = .ok (.invokevirtual 24, 3) := by decide +kernel
theorem dX9_addAccount_17 : decode cX9_addAccount 17 = .ok (.aload_n 0, 1) := by decide +kernel
theorem dX9_addAccount_18 : decode cX9_addAccount 18 = .ok (.getfield 10, 3) := by decide +kernel
theorem dX9_addAccount_21 : decode cX9_addAccount 21 = .ok (.aload_n 3, 1) := by decide +kernel
theorem dX9_addAccount_22 : decode cX9_addAccount 22 = .ok (.aload 4, 2) := by decide +kernel
theorem dX9_addAccount_24 : decode cX9_addAccount 24 = .ok (.invokevirtual 35, 3) := by decide +kernel
theorem dX9_addAccount_27 : decode cX9_addAccount 27 = .ok (.ireturn, 1) := by decide +kernel
def ch_wsX9_setRule : List (List Cond) := [wsX9_setRule_r1, wsX9_setRule_r2, wsX00, wsX90, wsX30, wsJx4a65c0]
theorem chm_wsX9_setRule : ∀ c ∈ ch_wsX9_setRule, ∀ w ∈ c, w ∈ wsX9_setRule := List.forall_mem_cons.mpr ⟨(fun w h => (List.mem_cons_of_mem _ (List.mem_append_left _ (List.mem_append_left _ (List.mem_append_left _ (List.mem_append_left _ (List.mem_append_left _ (List.mem_append_left _ (List.mem_append_left _ (List.mem_append_left _ h)))))))))), List.forall_mem_cons.mpr ⟨(fun w h => (List.mem_cons_of_mem _ (List.mem_append_left _ (List.mem_append_left _ (List.mem_append_left _ (List.mem_append_left _ (List.mem_append_left _ (List.mem_append_left _ (List.mem_append_left _ (List.mem_append_right _ h)))))))))), List.forall_mem_cons.mpr ⟨(fun w h => (List.mem_cons_of_mem _ (List.mem_append_left _ (List.mem_append_left _ (List.mem_append_left _ (List.mem_append_left _ (List.mem_append_left _ (List.mem_append_left _ (List.mem_append_right _ h))))))))), List.forall_mem_cons.mpr ⟨(fun w h => (List.mem_cons_of_mem _ (List.mem_append_left _ (List.mem_append_left _ (List.mem_append_left _ (List.mem_append_left _ (List.mem_append_left _ (List.mem_append_right _ h)))))))), List.forall_mem_cons.mpr ⟨(fun w h => (List.mem_cons_of_mem _ (List.mem_append_left _ (List.mem_append_left _ (List.mem_append_left _ (List.mem_append_left _ (List.mem_append_right _ h))))))), List.forall_mem_cons.mpr ⟨(fun w h => (List.mem_cons_of_mem _ (List.mem_append_left _ (List.mem_append_left _ (List.mem_append_left _ (List.mem_append_right _ h)))))), fun _ h => absurd h List.not_mem_nil⟩⟩⟩⟩⟩⟩
set_option maxRecDepth 100000 in
set_option maxHeartbeats 4000000 in
theorem ggX9_setRule_X9_accountAt : GoodIn wsX9_setRule wsX9_accountAt := goodIn_ca (goodIn_k ch_wsX9_setRule chm_wsX9_setRule _ [(0, 11), (0, 12), (0, 13), (0, 14), (0, 15), (0, 16), (0, 17), (0, 18), (0, 19), (0, 20), (0, 21), (0, 22), (0, 23), (1, 0), (1, 1), (1, 2), (1, 3), (1, 4), (1, 5), (1, 6), (1, 7), (1, 8), (1, 9), (1, 10), (1, 11), (1, 12), (1, 13), (1, 14), (1, 15), (3, 0), (4, 0), (4, 1), (4, 2), (4, 3), (4, 4), (4, 5), (4, 6), (4, 7), (5, 0), (5, 1), (5, 2)] (by rfl) (by decide +kernel)) (goodIn_sub (fun _ h => List.mem_cons_of_mem _ (List.mem_append_left _ (List.mem_append_right _ h))) (by decide +kernel))
set_option maxRecDepth 20000 in
theorem gX9_setRule_X9_accountAt : GoodIn wsX9_setRule (wsV RX9 31 RX9 yX9_accountAt wsX9_accountAt) := goodIn_app (goodIn_of _ (by decide +kernel)) ggX9_setRule_X9_accountAt
set_option maxRecDepth 100000 in
set_option maxHeartbeats 4000000 in
theorem ggX9_setRule_X9_requireWithin : GoodIn wsX9_setRule wsX9_requireWithin := goodIn_ca (goodIn_k ch_wsX9_setRule chm_wsX9_setRule _ [(1, 18), (1, 19), (1, 20)] (by rfl) (by decide +kernel)) (goodIn_sub (fun _ h => List.mem_cons_of_mem _ (List.mem_append_right _ h)) (by decide +kernel))
set_option maxRecDepth 20000 in
theorem gX9_setRule_X9_requireWithin : GoodIn wsX9_setRule (va_wsS RX9 20 yX9_requireWithin wsX9_requireWithin) := goodIn_app (goodIn_of _ (by decide +kernel)) ggX9_setRule_X9_requireWithin
theorem dX9_setRule_0 : decode cX9_setRule 0 = .ok (.aload_n 0, 1) := by decide +kernel
theorem dX9_setRule_1 : decode cX9_setRule 1 = .ok (.iload_n 1, 1) := by decide +kernel
theorem dX9_setRule_2 : decode cX9_setRule 2 = .ok (.invokevirtual 31, 3) := by decide +kernel
theorem dX9_setRule_5 : decode cX9_setRule 5 = .ok (.astore 4, 2) := by decide +kernel
theorem dX9_setRule_7 : decode cX9_setRule 7 = .ok (.iload_n 2, 1) := by decide +kernel
theorem dX9_setRule_8 : decode cX9_setRule 8 = .ok (.iconst 0, 1) := by decide +kernel
theorem dX9_setRule_9 : decode cX9_setRule 9 = .ok (.iconst 3, 1) := by decide +kernel
theorem dX9_setRule_10 : decode cX9_setRule 10 = .ok (.invokestatic 20, 3) := by decide +kernel
theorem dX9_setRule_13 : decode cX9_setRule 13 = .ok (.iload_n 3, 1) := by decide +kernel
theorem dX9_setRule_14 : decode cX9_setRule 14 = .ok (.ldc 39, 2) := by decide +kernel
theorem dX9_setRule_16 : decode cX9_setRule 16 = .ok (.ldc 40, 2) := by decide +kernel
theorem dX9_setRule_18 : decode cX9_setRule 18 = .ok (.invokestatic 20, 3) := by decide +kernel
theorem dX9_setRule_21 : decode cX9_setRule 21 = .ok (.aload 4, 2) := by decide +kernel
theorem dX9_setRule_23 : decode cX9_setRule 23 = .ok (.getfield 41, 3) := by decide +kernel
theorem dX9_setRule_26 : decode cX9_setRule 26 = .ok (.ifnonnull 13, 3) := by decide +kernel
theorem dX9_setRule_29 : decode cX9_setRule 29 = .ok (.new 47, 3) := by decide +kernel
theorem dX9_setRule_32 : decode cX9_setRule 32 = .ok (.dup, 1) := by decide +kernel
theorem dX9_setRule_33 : decode cX9_setRule 33 = .ok (.ldc 49, 2) := by decide +kernel
theorem dX9_setRule_35 : decode cX9_setRule 35 = .ok (.invokespecial 51, 3) := by decide +kernel
theorem dX9_setRule_38 : decode cX9_setRule 38 = .ok (.athrow, 1) := by decide +kernel
theorem dX9_setRule_39 : decode cX9_setRule 39 = .ok (.aload 4, 2) := by decide +kernel
theorem dX9_setRule_41 : decode cX9_setRule 41 = .ok (.getfield 54, 3) := by decide +kernel
theorem dX9_setRule_44 : decode cX9_setRule 44 = .ok (.istore 5, 2) := by decide +kernel
theorem dX9_setRule_46 : decode cX9_setRule 46 = .ok (.aload 4, 2) := by decide +kernel
theorem dX9_setRule_48 : decode cX9_setRule 48 = .ok (.iload_n 2, 1) := by decide +kernel
theorem dX9_setRule_49 : decode cX9_setRule 49 = .ok (.putfield 54, 3) := by decide +kernel
theorem dX9_setRule_52 : decode cX9_setRule 52 = .ok (.aload 4, 2) := by decide +kernel
theorem dX9_setRule_54 : decode cX9_setRule 54 = .ok (.iload_n 3, 1) := by decide +kernel
theorem dX9_setRule_55 : decode cX9_setRule 55 = .ok (.putfield 58, 3) := by decide +kernel
theorem dX9_setRule_58 : decode cX9_setRule 58 = .ok (.iload 5, 2) := by decide +kernel
theorem dX9_setRule_60 : decode cX9_setRule 60 = .ok (.ireturn, 1) := by decide +kernel
def ch_wsX9_setFloor : List (List Cond) := [wsX9_setFloor_r1, wsX9_setFloor_r2, wsX00, wsX90, wsX30, wsJx4a65c0]
theorem chm_wsX9_setFloor : ∀ c ∈ ch_wsX9_setFloor, ∀ w ∈ c, w ∈ wsX9_setFloor := List.forall_mem_cons.mpr ⟨(fun w h => (List.mem_cons_of_mem _ (List.mem_append_left _ (List.mem_append_left _ (List.mem_append_left _ (List.mem_append_left _ (List.mem_append_left _ (List.mem_append_left _ (List.mem_append_left _ h))))))))), List.forall_mem_cons.mpr ⟨(fun w h => (List.mem_cons_of_mem _ (List.mem_append_left _ (List.mem_append_left _ (List.mem_append_left _ (List.mem_append_left _ (List.mem_append_left _ (List.mem_append_left _ (List.mem_append_right _ h))))))))), List.forall_mem_cons.mpr ⟨(fun w h => (List.mem_cons_of_mem _ (List.mem_append_left _ (List.mem_append_left _ (List.mem_append_left _ (List.mem_append_left _ (List.mem_append_left _ (List.mem_append_right _ h)))))))), List.forall_mem_cons.mpr ⟨(fun w h => (List.mem_cons_of_mem _ (List.mem_append_left _ (List.mem_append_left _ (List.mem_append_left _ (List.mem_append_left _ (List.mem_append_right _ h))))))), List.forall_mem_cons.mpr ⟨(fun w h => (List.mem_cons_of_mem _ (List.mem_append_left _ (List.mem_append_left _ (List.mem_append_left _ (List.mem_append_right _ h)))))), List.forall_mem_cons.mpr ⟨(fun w h => (List.mem_cons_of_mem _ (List.mem_append_left _ (List.mem_append_left _ (List.mem_append_right _ h))))), fun _ h => absurd h List.not_mem_nil⟩⟩⟩⟩⟩⟩
set_option maxRecDepth 100000 in
set_option maxHeartbeats 4000000 in
theorem ggX9_setFloor_X9_accountAt : GoodIn wsX9_setFloor wsX9_accountAt := goodIn_ca (goodIn_k ch_wsX9_setFloor chm_wsX9_setFloor _ [(0, 7), (0, 8), (0, 9), (0, 10), (0, 11), (0, 12), (0, 13), (0, 14), (0, 15), (0, 16), (0, 17), (0, 18), (0, 19), (0, 20), (0, 21), (0, 22), (0, 23), (1, 0), (1, 1), (1, 2), (1, 3), (1, 4), (1, 5), (1, 6), (1, 7), (1, 8), (1, 9), (1, 10), (1, 11), (3, 0), (4, 0), (4, 1), (4, 2), (4, 3), (4, 4), (4, 5), (4, 6), (4, 7), (5, 0), (5, 1), (5, 2)] (by rfl) (by decide +kernel)) (goodIn_sub (fun _ h => List.mem_cons_of_mem _ (List.mem_append_left _ (List.mem_append_right _ h))) (by decide +kernel))
set_option maxRecDepth 20000 in
theorem gX9_setFloor_X9_accountAt : GoodIn wsX9_setFloor (wsV RX9 31 RX9 yX9_accountAt wsX9_accountAt) := goodIn_app (goodIn_of _ (by decide +kernel)) ggX9_setFloor_X9_accountAt
set_option maxRecDepth 100000 in
set_option maxHeartbeats 4000000 in
theorem ggX9_setFloor_X9_requireWithin : GoodIn wsX9_setFloor wsX9_requireWithin := goodIn_ca (goodIn_k ch_wsX9_setFloor chm_wsX9_setFloor _ [(1, 14), (1, 15), (1, 16)] (by rfl) (by decide +kernel)) (goodIn_sub (fun _ h => List.mem_cons_of_mem _ (List.mem_append_right _ h)) (by decide +kernel))
set_option maxRecDepth 20000 in
theorem gX9_setFloor_X9_requireWithin : GoodIn wsX9_setFloor (va_wsS RX9 20 yX9_requireWithin wsX9_requireWithin) := goodIn_app (goodIn_of _ (by decide +kernel)) ggX9_setFloor_X9_requireWithin
theorem dX9_setFloor_0 : decode cX9_setFloor 0 = .ok (.aload_n 0, 1) := by decide +kernel
theorem dX9_setFloor_1 : decode cX9_setFloor 1 = .ok (.iload_n 1, 1) := by decide +kernel
theorem dX9_setFloor_2 : decode cX9_setFloor 2 = .ok (.invokevirtual 31, 3) := by decide +kernel
theorem dX9_setFloor_5 : decode cX9_setFloor 5 = .ok (.astore_n 3, 1) := by decide +kernel
theorem dX9_setFloor_6 : decode cX9_setFloor 6 = .ok (.iload_n 2, 1) := by decide +kernel
theorem dX9_setFloor_7 : decode cX9_setFloor 7 = .ok (.ldc 39, 2) := by decide +kernel
theorem dX9_setFloor_9 : decode cX9_setFloor 9 = .ok (.ldc 40, 2) := by decide +kernel
theorem dX9_setFloor_11 : decode cX9_setFloor 11 = .ok (.invokestatic 20, 3) := by decide +kernel
theorem dX9_setFloor_14 : decode cX9_setFloor 14 = .ok (.aload_n 3, 1) := by decide +kernel
theorem dX9_setFloor_15 : decode cX9_setFloor 15 = .ok (.getfield 61, 3) := by decide +kernel
theorem dX9_setFloor_18 : decode cX9_setFloor 18 = .ok (.istore 4, 2) := by decide +kernel
theorem dX9_setFloor_20 : decode cX9_setFloor 20 = .ok (.aload_n 3, 1) := by decide +kernel
theorem dX9_setFloor_21 : decode cX9_setFloor 21 = .ok (.iload_n 2, 1) := by decide +kernel
theorem dX9_setFloor_22 : decode cX9_setFloor 22 = .ok (.putfield 61, 3) := by decide +kernel
theorem dX9_setFloor_25 : decode cX9_setFloor 25 = .ok (.iload 4, 2) := by decide +kernel
theorem dX9_setFloor_27 : decode cX9_setFloor 27 = .ok (.ireturn, 1) := by decide +kernel
def ch_wsX9_addLine : List (List Cond) := [wsX9_addLine_r1, wsX9_addLine_r2, wsX9_addLine_r3, wsX9_addLine_r4, wsX9_addLine_r5, wsX9_addLine_r6, wsX90, wsX30, wsJx4a65c0, wsX00, wsX50, wsX60]
theorem chm_wsX9_addLine : ∀ c ∈ ch_wsX9_addLine, ∀ w ∈ c, w ∈ wsX9_addLine := List.forall_mem_cons.mpr ⟨(fun w h => (List.mem_cons_of_mem _ (List.mem_append_left _ (List.mem_append_left _ (List.mem_append_left _ (List.mem_append_left _ (List.mem_append_left _ (List.mem_append_left _ (List.mem_append_left _ (List.mem_append_left _ (List.mem_append_left _ (List.mem_append_left _ h)))))))))))), List.forall_mem_cons.mpr ⟨(fun w h => (List.mem_cons_of_mem _ (List.mem_append_left _ (List.mem_append_left _ (List.mem_append_left _ (List.mem_append_left _ (List.mem_append_left _ (List.mem_append_left _ (List.mem_append_left _ (List.mem_append_left _ (List.mem_append_left _ (List.mem_append_right _ (List.mem_append_left _ h))))))))))))), List.forall_mem_cons.mpr ⟨(fun w h => (List.mem_cons_of_mem _ (List.mem_append_left _ (List.mem_append_left _ (List.mem_append_left _ (List.mem_append_left _ (List.mem_append_left _ (List.mem_append_left _ (List.mem_append_left _ (List.mem_append_left _ (List.mem_append_left _ (List.mem_append_right _ (List.mem_append_right _ (List.mem_append_left _ h)))))))))))))), List.forall_mem_cons.mpr ⟨(fun w h => (List.mem_cons_of_mem _ (List.mem_append_left _ (List.mem_append_left _ (List.mem_append_left _ (List.mem_append_left _ (List.mem_append_left _ (List.mem_append_left _ (List.mem_append_left _ (List.mem_append_left _ (List.mem_append_left _ (List.mem_append_right _ (List.mem_append_right _ (List.mem_append_right _ (List.mem_append_left _ h))))))))))))))), List.forall_mem_cons.mpr ⟨(fun w h => (List.mem_cons_of_mem _ (List.mem_append_left _ (List.mem_append_left _ (List.mem_append_left _ (List.mem_append_left _ (List.mem_append_left _ (List.mem_append_left _ (List.mem_append_left _ (List.mem_append_left _ (List.mem_append_left _ (List.mem_append_right _ (List.mem_append_right _ (List.mem_append_right _ (List.mem_append_right _ (List.mem_append_left _ h)))))))))))))))), List.forall_mem_cons.mpr ⟨(fun w h => (List.mem_cons_of_mem _ (List.mem_append_left _ (List.mem_append_left _ (List.mem_append_left _ (List.mem_append_left _ (List.mem_append_left _ (List.mem_append_left _ (List.mem_append_left _ (List.mem_append_left _ (List.mem_append_left _ (List.mem_append_right _ (List.mem_append_right _ (List.mem_append_right _ (List.mem_append_right _ (List.mem_append_right _ h)))))))))))))))), List.forall_mem_cons.mpr ⟨(fun w h => (List.mem_cons_of_mem _ (List.mem_append_left _ (List.mem_append_left _ (List.mem_append_left _ (List.mem_append_left _ (List.mem_append_left _ (List.mem_append_left _ (List.mem_append_left _ (List.mem_append_left _ (List.mem_append_right _ h))))))))))), List.forall_mem_cons.mpr ⟨(fun w h => (List.mem_cons_of_mem _ (List.mem_append_left _ (List.mem_append_left _ (List.mem_append_left _ (List.mem_append_left _ (List.mem_append_left _ (List.mem_append_left _ (List.mem_append_left _ (List.mem_append_right _ h)))))))))), List.forall_mem_cons.mpr ⟨(fun w h => (List.mem_cons_of_mem _ (List.mem_append_left _ (List.mem_append_left _ (List.mem_append_left _ (List.mem_append_left _ (List.mem_append_left _ (List.mem_append_left _ (List.mem_append_right _ h))))))))), List.forall_mem_cons.mpr ⟨(fun w h => (List.mem_cons_of_mem _ (List.mem_append_left _ (List.mem_append_left _ (List.mem_append_left _ (List.mem_append_left _ (List.mem_append_left _ (List.mem_append_right _ h)))))))), List.forall_mem_cons.mpr ⟨(fun w h => (List.mem_cons_of_mem _ (List.mem_append_left _ (List.mem_append_left _ (List.mem_append_left _ (List.mem_append_left _ (List.mem_append_right _ h))))))), List.forall_mem_cons.mpr ⟨(fun w h => (List.mem_cons_of_mem _ (List.mem_append_left _ (List.mem_append_left _ (List.mem_append_left _ (List.mem_append_right _ h)))))), fun _ h => absurd h List.not_mem_nil⟩⟩⟩⟩⟩⟩⟩⟩⟩⟩⟩⟩
set_option maxRecDepth 100000 in
set_option maxHeartbeats 4000000 in
theorem ggX9_addLine_X9_accountAt : GoodIn wsX9_addLine wsX9_accountAt := goodIn_ca (goodIn_k ch_wsX9_addLine chm_wsX9_addLine _ [(0, 9), (0, 10), (0, 11), (0, 3), (0, 12), (0, 13), (0, 14), (0, 15), (0, 16), (0, 17), (0, 18), (0, 19), (0, 20), (0, 21), (0, 22), (0, 23), (1, 0), (1, 1), (1, 2), (1, 3), (1, 4), (1, 5), (1, 6), (1, 7), (1, 8), (1, 9), (1, 10), (1, 11), (1, 12), (6, 0), (7, 0), (7, 1), (7, 2), (7, 3), (7, 4), (7, 5), (7, 6), (7, 7), (8, 0), (8, 1), (8, 2)] (by rfl) (by decide +kernel)) (goodIn_sub (fun _ h => List.mem_cons_of_mem _ (List.mem_append_left _ (List.mem_append_right _ h))) (by decide +kernel))
set_option maxRecDepth 20000 in
theorem gX9_addLine_X9_accountAt : GoodIn wsX9_addLine (wsV RX9 31 RX9 yX9_accountAt wsX9_accountAt) := goodIn_app (goodIn_of _ (by decide +kernel)) ggX9_addLine_X9_accountAt
set_option maxRecDepth 100000 in
set_option maxHeartbeats 4000000 in
theorem ggX9_addLine_X9_requireWithin : GoodIn wsX9_addLine wsX9_requireWithin := goodIn_ca (goodIn_k ch_wsX9_addLine chm_wsX9_addLine _ [(1, 15), (1, 16), (1, 17)] (by rfl) (by decide +kernel)) (goodIn_sub (fun _ h => List.mem_cons_of_mem _ (List.mem_append_right _ h)) (by decide +kernel))
set_option maxRecDepth 20000 in
theorem gX9_addLine_X9_requireWithin : GoodIn wsX9_addLine (va_wsS RX9 20 yX9_requireWithin wsX9_requireWithin) := goodIn_app (goodIn_of _ (by decide +kernel)) ggX9_addLine_X9_requireWithin
set_option maxRecDepth 100000 in
set_option maxHeartbeats 4000000 in
theorem ggX9_addLine_X9_requireTop : GoodIn wsX9_addLine wsX9_requireTop := goodIn_ca (goodIn_k ch_wsX9_addLine chm_wsX9_addLine _ [(1, 20), (0, 0), (0, 1), (1, 21), (9, 0), (9, 1), (9, 2), (9, 3), (9, 4), (9, 5), (9, 6), (9, 7), (9, 8), (9, 9), (9, 10), (9, 11)] (by rfl) (by decide +kernel)) (goodIn_sub (fun _ h => List.mem_cons_of_mem _ (List.mem_append_left _ (List.mem_append_left _ (List.mem_append_right _ h)))) (by decide +kernel))
set_option maxRecDepth 20000 in
theorem gX9_addLine_X9_requireTop : GoodIn wsX9_addLine (va_wsS RX9 65 yX9_requireTop wsX9_requireTop) := goodIn_app (goodIn_of _ (by decide +kernel)) ggX9_addLine_X9_requireTop
set_option maxRecDepth 100000 in
set_option maxHeartbeats 4000000 in
theorem ggX9_addLine_Jx4a65c_size_8abf5 : GoodIn wsX9_addLine wsJx4a65c_size_8abf5 := goodIn_k ch_wsX9_addLine chm_wsX9_addLine _ [(0, 18), (0, 19), (8, 0), (8, 1), (8, 2)] (by rfl) (by decide +kernel)
set_option maxRecDepth 20000 in
theorem gX9_addLine_Jx4a65c_size_8abf5 : GoodIn wsX9_addLine (wsV RX9 73 RJx4a65c yJx4a65c_size_8abf5 wsJx4a65c_size_8abf5) := goodIn_app (goodIn_of _ (by decide +kernel)) ggX9_addLine_Jx4a65c_size_8abf5
set_option maxRecDepth 100000 in
set_option maxHeartbeats 4000000 in
theorem ggX9_addLine_X3_openLine : GoodIn wsX9_addLine wsX3_openLine := goodIn_k ch_wsX9_addLine chm_wsX9_addLine _ [(2, 2), (2, 3), (2, 4), (2, 5), (2, 6), (2, 7), (2, 8), (2, 9), (2, 10), (2, 11), (2, 12), (2, 13), (2, 14), (2, 15), (2, 16), (2, 17), (2, 18), (2, 19), (0, 17), (2, 20), (2, 21), (2, 22), (1, 12), (0, 19), (2, 23), (3, 0), (3, 1), (3, 2), (3, 3), (3, 4), (3, 5), (3, 6), (3, 7), (3, 8), (3, 9), (3, 10), (3, 11), (3, 12), (3, 13), (3, 14), (3, 15), (3, 16), (3, 17), (3, 18), (3, 19), (3, 20), (3, 21), (3, 22), (3, 23), (4, 0), (4, 1), (4, 2), (4, 3), (4, 4), (4, 5), (4, 6), (4, 7), (4, 8), (4, 9), (4, 10), (4, 11), (4, 12), (4, 13), (4, 14), (4, 15), (4, 16), (4, 17), (4, 18), (4, 19), (4, 20), (4, 21), (4, 22), (4, 23), (5, 0), (5, 1), (5, 2), (5, 3), (5, 4), (5, 5), (5, 6), (0, 15), (0, 16), (0, 18), (5, 7), (0, 21), (0, 22), (0, 23), (1, 0), (1, 1), (1, 2), (1, 3), (1, 4), (1, 5), (1, 6), (1, 7), (1, 8), (1, 9), (1, 10), (1, 11), (5, 8), (5, 9), (5, 10), (5, 11), (5, 12), (5, 13), (5, 14), (5, 15), (5, 16), (5, 17), (10, 0), (10, 1), (10, 2), (10, 3), (10, 4), (10, 5), (10, 6), (10, 7), (10, 8), (7, 0), (7, 1), (7, 2), (7, 3), (7, 4), (7, 5), (7, 6), (7, 7), (9, 0), (9, 1), (9, 2), (9, 3), (9, 4), (9, 5), (9, 6), (9, 7), (9, 8), (9, 9), (9, 10), (9, 11), (8, 0), (8, 1), (8, 2), (11, 0), (11, 1), (11, 2), (11, 3), (11, 4)] (by rfl) (by decide +kernel)
set_option maxRecDepth 20000 in
theorem gX9_addLine_X3_openLine : GoodIn wsX9_addLine (wsV RX9 81 RX3 yX3_openLine wsX3_openLine) := goodIn_app (goodIn_of _ (by decide +kernel)) ggX9_addLine_X3_openLine
theorem dX9_addLine_0 : decode cX9_addLine 0 = .ok (.aload_n 0, 1) := by decide +kernel
theorem dX9_addLine_1 : decode cX9_addLine 1 = .ok (.iload_n 1, 1) := by decide +kernel
theorem dX9_addLine_2 : decode cX9_addLine 2 = .ok (.invokevirtual 31, 3) := by decide +kernel
theorem dX9_addLine_5 : decode cX9_addLine 5 = .ok (.astore 4, 2) := by decide +kernel
theorem dX9_addLine_7 : decode cX9_addLine 7 = .ok (.iload_n 2, 1) := by decide +kernel
theorem dX9_addLine_8 : decode cX9_addLine 8 = .ok (.iconst 1, 1) := by decide +kernel
theorem dX9_addLine_9 : decode cX9_addLine 9 = .ok (.ldc 64, 2) := by decide +kernel
theorem dX9_addLine_11 : decode cX9_addLine 11 = .ok (.invokestatic 20, 3) := by decide +kernel
theorem dX9_addLine_14 : decode cX9_addLine 14 = .ok (.iload_n 3, 1) := by decide +kernel
theorem dX9_addLine_15 : decode cX9_addLine 15 = .ok (.iconst 0, 1) := by decide +kernel
theorem dX9_addLine_16 : decode cX9_addLine 16 = .ok (.sipush 1000, 3) := by decide +kernel
theorem dX9_addLine_19 : decode cX9_addLine 19 = .ok (.invokestatic 20, 3) := by decide +kernel
theorem dX9_addLine_22 : decode cX9_addLine 22 = .ok (.aload 4, 2) := by decide +kernel
theorem dX9_addLine_24 : decode cX9_addLine 24 = .ok (.invokestatic 65, 3) := by decide +kernel
theorem dX9_addLine_27 : decode cX9_addLine 27 = .ok (.aload_n 0, 1) := by decide +kernel
theorem dX9_addLine_28 : decode cX9_addLine 28 = .ok (.getfield 10, 3) := by decide +kernel
theorem dX9_addLine_31 : decode cX9_addLine 31 = .ok (.getfield 69, 3) := by decide +kernel
theorem dX9_addLine_34 : decode cX9_addLine 34 = .ok (.invokevirtual 73, 3) := by decide +kernel
theorem dX9_addLine_37 : decode cX9_addLine 37 = .ok (.bipush 6, 2) := by decide +kernel
theorem dX9_addLine_39 : decode cX9_addLine 39 = .ok (.if_icmp .lt 13, 3) := by decide +kernel
theorem dX9_addLine_42 : decode cX9_addLine 42 = .ok (.new 47, 3) := by decide +kernel
theorem dX9_addLine_45 : decode cX9_addLine 45 = .ok (.dup, 1) := by decide +kernel
theorem dX9_addLine_46 : decode cX9_addLine 46 = .ok (.ldc 79, 2) := by decide +kernel
theorem dX9_addLine_48 : decode cX9_addLine 48 = .ok (.invokespecial 51, 3) := by decide +kernel
theorem dX9_addLine_51 : decode cX9_addLine 51 = .ok (.athrow, 1) := by decide +kernel
theorem dX9_addLine_52 : decode cX9_addLine 52 = .ok (.aload_n 0, 1) := by decide +kernel
theorem dX9_addLine_53 : decode cX9_addLine 53 = .ok (.getfield 10, 3) := by decide +kernel
theorem dX9_addLine_56 : decode cX9_addLine 56 = .ok (.aload 4, 2) := by decide +kernel
theorem dX9_addLine_58 : decode cX9_addLine 58 = .ok (.iload_n 2, 1) := by decide +kernel
theorem dX9_addLine_59 : decode cX9_addLine 59 = .ok (.iload_n 3, 1) := by decide +kernel
theorem dX9_addLine_60 : decode cX9_addLine 60 = .ok (.invokevirtual 81, 3) := by decide +kernel
theorem dX9_addLine_63 : decode cX9_addLine 63 = .ok (.ireturn, 1) := by decide +kernel
def ch_wsX9_setBankLimit : List (List Cond) := [wsX9_setBankLimit_r1, wsX9_setBankLimit_r2, wsX10, wsX90, wsX30, wsJx4a65c0]
theorem chm_wsX9_setBankLimit : ∀ c ∈ ch_wsX9_setBankLimit, ∀ w ∈ c, w ∈ wsX9_setBankLimit := List.forall_mem_cons.mpr ⟨(fun w h => (List.mem_cons_of_mem _ (List.mem_append_left _ (List.mem_append_left _ (List.mem_append_left _ (List.mem_append_left _ (List.mem_append_left _ (List.mem_append_left _ h)))))))), List.forall_mem_cons.mpr ⟨(fun w h => (List.mem_cons_of_mem _ (List.mem_append_left _ (List.mem_append_left _ (List.mem_append_left _ (List.mem_append_left _ (List.mem_append_left _ (List.mem_append_right _ h)))))))), List.forall_mem_cons.mpr ⟨(fun w h => (List.mem_cons_of_mem _ (List.mem_append_left _ (List.mem_append_left _ (List.mem_append_left _ (List.mem_append_left _ (List.mem_append_right _ h))))))), List.forall_mem_cons.mpr ⟨(fun w h => (List.mem_cons_of_mem _ (List.mem_append_left _ (List.mem_append_left _ (List.mem_append_left _ (List.mem_append_right _ h)))))), List.forall_mem_cons.mpr ⟨(fun w h => (List.mem_cons_of_mem _ (List.mem_append_left _ (List.mem_append_left _ (List.mem_append_right _ h))))), List.forall_mem_cons.mpr ⟨(fun w h => (List.mem_cons_of_mem _ (List.mem_append_left _ (List.mem_append_right _ h)))), fun _ h => absurd h List.not_mem_nil⟩⟩⟩⟩⟩⟩
set_option maxRecDepth 100000 in
set_option maxHeartbeats 4000000 in
theorem ggX9_setBankLimit_X9_bankAt : GoodIn wsX9_setBankLimit wsX9_bankAt := goodIn_ca (goodIn_k ch_wsX9_setBankLimit chm_wsX9_setBankLimit _ [(0, 6), (0, 7), (0, 8), (0, 9), (0, 10), (0, 11), (0, 12), (0, 13), (0, 14), (0, 15), (0, 16), (0, 17), (0, 18), (0, 19), (0, 20), (0, 21), (0, 22), (0, 23), (1, 0), (1, 1), (1, 2), (1, 3), (1, 4), (1, 5), (1, 6), (1, 7), (1, 8), (1, 9), (1, 10), (3, 0), (4, 0), (4, 1), (4, 2), (4, 3), (4, 4), (4, 5), (4, 6), (4, 7), (5, 0), (5, 1), (5, 2)] (by rfl) (by decide +kernel)) (goodIn_sub (fun _ h => List.mem_cons_of_mem _ (List.mem_append_right _ h)) (by decide +kernel))
set_option maxRecDepth 20000 in
theorem gX9_setBankLimit_X9_bankAt : GoodIn wsX9_setBankLimit (wsV RX9 16 RX9 yX9_bankAt wsX9_bankAt) := goodIn_app (goodIn_of _ (by decide +kernel)) ggX9_setBankLimit_X9_bankAt
set_option maxRecDepth 100000 in
set_option maxHeartbeats 4000000 in
theorem ggX9_setBankLimit_X9_requireWithin : GoodIn wsX9_setBankLimit wsX9_requireWithin := goodIn_ca (goodIn_k ch_wsX9_setBankLimit chm_wsX9_setBankLimit _ [(1, 13), (0, 7), (0, 8)] (by rfl) (by decide +kernel)) (goodIn_sub (fun _ h => List.mem_cons_of_mem _ (List.mem_append_right _ h)) (by decide +kernel))
set_option maxRecDepth 20000 in
theorem gX9_setBankLimit_X9_requireWithin : GoodIn wsX9_setBankLimit (va_wsS RX9 20 yX9_requireWithin wsX9_requireWithin) := goodIn_app (goodIn_of _ (by decide +kernel)) ggX9_setBankLimit_X9_requireWithin
theorem dX9_setBankLimit_0 : decode cX9_setBankLimit 0 = .ok (.aload_n 0, 1) := by decide +kernel
theorem dX9_setBankLimit_1 : decode cX9_setBankLimit 1 = .ok (.iload_n 1, 1) := by decide +kernel
theorem dX9_setBankLimit_2 : decode cX9_setBankLimit 2 = .ok (.invokevirtual 16, 3) := by decide +kernel
theorem dX9_setBankLimit_5 : decode cX9_setBankLimit 5 = .ok (.astore_n 3, 1) := by decide +kernel
theorem dX9_setBankLimit_6 : decode cX9_setBankLimit 6 = .ok (.iload_n 2, 1) := by decide +kernel
theorem dX9_setBankLimit_7 : decode cX9_setBankLimit 7 = .ok (.iconst (-1), 1) := by decide +kernel
theorem dX9_setBankLimit_8 : decode cX9_setBankLimit 8 = .ok (.ldc 85, 2) := by decide +kernel
theorem dX9_setBankLimit_10 : decode cX9_setBankLimit 10 = .ok (.invokestatic 20, 3) := by decide +kernel
theorem dX9_setBankLimit_13 : decode cX9_setBankLimit 13 = .ok (.aload_n 3, 1) := by decide +kernel
theorem dX9_setBankLimit_14 : decode cX9_setBankLimit 14 = .ok (.getfield 86, 3) := by decide +kernel
theorem dX9_setBankLimit_17 : decode cX9_setBankLimit 17 = .ok (.istore 4, 2) := by decide +kernel
theorem dX9_setBankLimit_19 : decode cX9_setBankLimit 19 = .ok (.aload_n 3, 1) := by decide +kernel
theorem dX9_setBankLimit_20 : decode cX9_setBankLimit 20 = .ok (.iload_n 2, 1) := by decide +kernel
theorem dX9_setBankLimit_21 : decode cX9_setBankLimit 21 = .ok (.putfield 86, 3) := by decide +kernel
theorem dX9_setBankLimit_24 : decode cX9_setBankLimit 24 = .ok (.iload 4, 2) := by decide +kernel
theorem dX9_setBankLimit_26 : decode cX9_setBankLimit 26 = .ok (.ireturn, 1) := by decide +kernel
theorem dX9_today_0 : decode cX9_today 0 = .ok (.aload_n 0, 1) := by decide +kernel
theorem dX9_today_1 : decode cX9_today 1 = .ok (.getfield 10, 3) := by decide +kernel
theorem dX9_today_4 : decode cX9_today 4 = .ok (.getfield 91, 3) := by decide +kernel
theorem dX9_today_7 : decode cX9_today 7 = .ok (.ireturn, 1) := by decide +kernel
set_option maxRecDepth 20000 in
theorem ggX9_addHoliday_X9_requireWithin : GoodIn wsX9_addHoliday wsX9_requireWithin := goodIn_ca (goodIn_r _ [6, 7, 8] (by decide +kernel) (by decide +kernel)) (goodIn_sub (fun _ h => List.mem_cons_of_mem _ (List.mem_append_right _ h)) (by decide +kernel))
set_option maxRecDepth 20000 in
theorem gX9_addHoliday_X9_requireWithin : GoodIn wsX9_addHoliday (va_wsS RX9 20 yX9_requireWithin wsX9_requireWithin) := goodIn_app (goodIn_of _ (by decide +kernel)) ggX9_addHoliday_X9_requireWithin
set_option maxRecDepth 20000 in
theorem ggX9_addHoliday_X2_markHoliday : GoodIn wsX9_addHoliday wsX2_markHoliday := goodIn_r _ [13, 14, 32] (by decide +kernel) (by decide +kernel)
set_option maxRecDepth 20000 in
theorem gX9_addHoliday_X2_markHoliday : GoodIn wsX9_addHoliday (wsV RX9 98 RX2 yX2_markHoliday wsX2_markHoliday) := goodIn_app (goodIn_of _ (by decide +kernel)) ggX9_addHoliday_X2_markHoliday
set_option maxRecDepth 20000 in
theorem ggX9_addHoliday_X2_countSettling : GoodIn wsX9_addHoliday wsX2_countSettling := goodIn_r _ [18, 19, 20, 21, 12, 22, 14, 32] (by decide +kernel) (by decide +kernel)
set_option maxRecDepth 20000 in
theorem gX9_addHoliday_X2_countSettling : GoodIn wsX9_addHoliday (wsV RX9 104 RX2 yX2_countSettling wsX2_countSettling) := goodIn_app (goodIn_of _ (by decide +kernel)) ggX9_addHoliday_X2_countSettling
theorem dX9_addHoliday_0 : decode cX9_addHoliday 0 = .ok (.iload_n 1, 1) := by decide +kernel
theorem dX9_addHoliday_1 : decode cX9_addHoliday 1 = .ok (.iconst 0, 1) := by decide +kernel
theorem dX9_addHoliday_2 : decode cX9_addHoliday 2 = .ok (.sipush 450, 3) := by decide +kernel
theorem dX9_addHoliday_5 : decode cX9_addHoliday 5 = .ok (.invokestatic 20, 3) := by decide +kernel
theorem dX9_addHoliday_8 : decode cX9_addHoliday 8 = .ok (.aload_n 0, 1) := by decide +kernel
theorem dX9_addHoliday_9 : decode cX9_addHoliday 9 = .ok (.getfield 10, 3) := by decide +kernel
theorem dX9_addHoliday_12 : decode cX9_addHoliday 12 = .ok (.getfield 94, 3) := by decide +kernel
theorem dX9_addHoliday_15 : decode cX9_addHoliday 15 = .ok (.iload_n 1, 1) := by decide +kernel
theorem dX9_addHoliday_16 : decode cX9_addHoliday 16 = .ok (.invokevirtual 98, 3) := by decide +kernel
theorem dX9_addHoliday_19 : decode cX9_addHoliday 19 = .ok (.aload_n 0, 1) := by decide +kernel
theorem dX9_addHoliday_20 : decode cX9_addHoliday 20 = .ok (.getfield 10, 3) := by decide +kernel
theorem dX9_addHoliday_23 : decode cX9_addHoliday 23 = .ok (.getfield 94, 3) := by decide +kernel
theorem dX9_addHoliday_26 : decode cX9_addHoliday 26 = .ok (.invokevirtual 104, 3) := by decide +kernel
theorem dX9_addHoliday_29 : decode cX9_addHoliday 29 = .ok (.ireturn, 1) := by decide +kernel
set_option maxRecDepth 20000 in
theorem ggX9_settlementDay_X9_requireWithin : GoodIn wsX9_settlementDay wsX9_requireWithin := goodIn_ca (goodIn_r _ [6, 7, 8] (by decide +kernel) (by decide +kernel)) (goodIn_sub (fun _ h => List.mem_cons_of_mem _ (List.mem_append_right _ h)) (by decide +kernel))
set_option maxRecDepth 20000 in
theorem gX9_settlementDay_X9_requireWithin : GoodIn wsX9_settlementDay (va_wsS RX9 20 yX9_requireWithin wsX9_requireWithin) := goodIn_app (goodIn_of _ (by decide +kernel)) ggX9_settlementDay_X9_requireWithin
set_option maxRecDepth 20000 in
theorem ggX9_settlementDay_X2_firstSettlingFrom : GoodIn wsX9_settlementDay wsX2_firstSettlingFrom := goodIn_r _ [13, 14, 15, 16, 12, 17, 18, 28] (by decide +kernel) (by decide +kernel)
set_option maxRecDepth 20000 in
theorem gX9_settlementDay_X2_firstSettlingFrom : GoodIn wsX9_settlementDay (wsV RX9 107 RX2 yX2_firstSettlingFrom wsX2_firstSettlingFrom) := goodIn_app (goodIn_of _ (by decide +kernel)) ggX9_settlementDay_X2_firstSettlingFrom
theorem dX9_settlementDay_0 : decode cX9_settlementDay 0 = .ok (.iload_n 1, 1) := by decide +kernel
theorem dX9_settlementDay_1 : decode cX9_settlementDay 1 = .ok (.iconst 0, 1) := by decide +kernel
theorem dX9_settlementDay_2 : decode cX9_settlementDay 2 = .ok (.sipush 450, 3) := by decide +kernel
theorem dX9_settlementDay_5 : decode cX9_settlementDay 5 = .ok (.invokestatic 20, 3) := by decide +kernel
theorem dX9_settlementDay_8 : decode cX9_settlementDay 8 = .ok (.aload_n 0, 1) := by decide +kernel
theorem dX9_settlementDay_9 : decode cX9_settlementDay 9 = .ok (.getfield 10, 3) := by decide +kernel
theorem dX9_settlementDay_12 : decode cX9_settlementDay 12 = .ok (.getfield 94, 3) := by decide +kernel
theorem dX9_settlementDay_15 : decode cX9_settlementDay 15 = .ok (.iload_n 1, 1) := by decide +kernel
theorem dX9_settlementDay_16 : decode cX9_settlementDay 16 = .ok (.invokevirtual 107, 3) := by decide +kernel
theorem dX9_settlementDay_19 : decode cX9_settlementDay 19 = .ok (.ireturn, 1) := by decide +kernel
def ch_wsX9_passDays : List (List Cond) := [wsX9_passDays_r1, wsX9_passDays_r2, wsX9_passDays_r3, wsX9_passDays_r4, wsX9_passDays_r5, wsX9_passDays_r6, wsX9_passDays_r7, wsX9_passDays_r8, wsX9_passDays_r9, wsX9_passDays_r10, wsX9_passDays_r11, wsX90, wsX30, wsX20, wsJx4a65c0, wsX40, wsX00, wsX60, wsX50, wsX10, wsX70]
theorem chm_wsX9_passDays : ∀ c ∈ ch_wsX9_passDays, ∀ w ∈ c, w ∈ wsX9_passDays := List.forall_mem_cons.mpr ⟨(fun w h => (List.mem_cons_of_mem _ (List.mem_append_left _ (List.mem_append_left _ (List.mem_append_left _ (List.mem_append_left _ (List.mem_append_left _ (List.mem_append_left _ (List.mem_append_left _ (List.mem_append_left _ (List.mem_append_left _ (List.mem_append_left _ (List.mem_append_left _ (List.mem_append_left _ (List.mem_append_left _ h))))))))))))))), List.forall_mem_cons.mpr ⟨(fun w h => (List.mem_cons_of_mem _ (List.mem_append_left _ (List.mem_append_left _ (List.mem_append_left _ (List.mem_append_left _ (List.mem_append_left _ (List.mem_append_left _ (List.mem_append_left _ (List.mem_append_left _ (List.mem_append_left _ (List.mem_append_left _ (List.mem_append_left _ (List.mem_append_left _ (List.mem_append_right _ (List.mem_append_left _ h)))))))))))))))), List.forall_mem_cons.mpr ⟨(fun w h => (List.mem_cons_of_mem _ (List.mem_append_left _ (List.mem_append_left _ (List.mem_append_left _ (List.mem_append_left _ (List.mem_append_left _ (List.mem_append_left _ (List.mem_append_left _ (List.mem_append_left _ (List.mem_append_left _ (List.mem_append_left _ (List.mem_append_left _ (List.mem_append_left _ (List.mem_append_right _ (List.mem_append_right _ (List.mem_append_left _ h))))))))))))))))), List.forall_mem_cons.mpr ⟨(fun w h => (List.mem_cons_of_mem _ (List.mem_append_left _ (List.mem_append_left _ (List.mem_append_left _ (List.mem_append_left _ (List.mem_append_left _ (List.mem_append_left _ (List.mem_append_left _ (List.mem_append_left _ (List.mem_append_left _ (List.mem_append_left _ (List.mem_append_left _ (List.mem_append_left _ (List.mem_append_right _ (List.mem_append_right _ (List.mem_append_right _ (List.mem_append_left _ h)))))))))))))))))), List.forall_mem_cons.mpr ⟨(fun w h => (List.mem_cons_of_mem _ (List.mem_append_left _ (List.mem_append_left _ (List.mem_append_left _ (List.mem_append_left _ (List.mem_append_left _ (List.mem_append_left _ (List.mem_append_left _ (List.mem_append_left _ (List.mem_append_left _ (List.mem_append_left _ (List.mem_append_left _ (List.mem_append_left _ (List.mem_append_right _ (List.mem_append_right _ (List.mem_append_right _ (List.mem_append_right _ (List.mem_append_left _ h))))))))))))))))))), List.forall_mem_cons.mpr ⟨(fun w h => (List.mem_cons_of_mem _ (List.mem_append_left _ (List.mem_append_left _ (List.mem_append_left _ (List.mem_append_left _ (List.mem_append_left _ (List.mem_append_left _ (List.mem_append_left _ (List.mem_append_left _ (List.mem_append_left _ (List.mem_append_left _ (List.mem_append_left _ (List.mem_append_left _ (List.mem_append_right _ (List.mem_append_right _ (List.mem_append_right _ (List.mem_append_right _ (List.mem_append_right _ (List.mem_append_left _ h)))))))))))))))))))), List.forall_mem_cons.mpr ⟨(fun w h => (List.mem_cons_of_mem _ (List.mem_append_left _ (List.mem_append_left _ (List.mem_append_left _ (List.mem_append_left _ (List.mem_append_left _ (List.mem_append_left _ (List.mem_append_left _ (List.mem_append_left _ (List.mem_append_left _ (List.mem_append_left _ (List.mem_append_left _ (List.mem_append_left _ (List.mem_append_right _ (List.mem_append_right _ (List.mem_append_right _ (List.mem_append_right _ (List.mem_append_right _ (List.mem_append_right _ (List.mem_append_left _ h))))))))))))))))))))), List.forall_mem_cons.mpr ⟨(fun w h => (List.mem_cons_of_mem _ (List.mem_append_left _ (List.mem_append_left _ (List.mem_append_left _ (List.mem_append_left _ (List.mem_append_left _ (List.mem_append_left _ (List.mem_append_left _ (List.mem_append_left _ (List.mem_append_left _ (List.mem_append_left _ (List.mem_append_left _ (List.mem_append_left _ (List.mem_append_right _ (List.mem_append_right _ (List.mem_append_right _ (List.mem_append_right _ (List.mem_append_right _ (List.mem_append_right _ (List.mem_append_right _ (List.mem_append_left _ h)))))))))))))))))))))), List.forall_mem_cons.mpr ⟨(fun w h => (List.mem_cons_of_mem _ (List.mem_append_left _ (List.mem_append_left _ (List.mem_append_left _ (List.mem_append_left _ (List.mem_append_left _ (List.mem_append_left _ (List.mem_append_left _ (List.mem_append_left _ (List.mem_append_left _ (List.mem_append_left _ (List.mem_append_left _ (List.mem_append_left _ (List.mem_append_right _ (List.mem_append_right _ (List.mem_append_right _ (List.mem_append_right _ (List.mem_append_right _ (List.mem_append_right _ (List.mem_append_right _ (List.mem_append_right _ (List.mem_append_left _ h))))))))))))))))))))))), List.forall_mem_cons.mpr ⟨(fun w h => (List.mem_cons_of_mem _ (List.mem_append_left _ (List.mem_append_left _ (List.mem_append_left _ (List.mem_append_left _ (List.mem_append_left _ (List.mem_append_left _ (List.mem_append_left _ (List.mem_append_left _ (List.mem_append_left _ (List.mem_append_left _ (List.mem_append_left _ (List.mem_append_left _ (List.mem_append_right _ (List.mem_append_right _ (List.mem_append_right _ (List.mem_append_right _ (List.mem_append_right _ (List.mem_append_right _ (List.mem_append_right _ (List.mem_append_right _ (List.mem_append_right _ (List.mem_append_left _ h)))))))))))))))))))))))), List.forall_mem_cons.mpr ⟨(fun w h => (List.mem_cons_of_mem _ (List.mem_append_left _ (List.mem_append_left _ (List.mem_append_left _ (List.mem_append_left _ (List.mem_append_left _ (List.mem_append_left _ (List.mem_append_left _ (List.mem_append_left _ (List.mem_append_left _ (List.mem_append_left _ (List.mem_append_left _ (List.mem_append_left _ (List.mem_append_right _ (List.mem_append_right _ (List.mem_append_right _ (List.mem_append_right _ (List.mem_append_right _ (List.mem_append_right _ (List.mem_append_right _ (List.mem_append_right _ (List.mem_append_right _ (List.mem_append_right _ h)))))))))))))))))))))))), List.forall_mem_cons.mpr ⟨(fun w h => (List.mem_cons_of_mem _ (List.mem_append_left _ (List.mem_append_left _ (List.mem_append_left _ (List.mem_append_left _ (List.mem_append_left _ (List.mem_append_left _ (List.mem_append_left _ (List.mem_append_left _ (List.mem_append_left _ (List.mem_append_left _ (List.mem_append_left _ (List.mem_append_right _ h)))))))))))))), List.forall_mem_cons.mpr ⟨(fun w h => (List.mem_cons_of_mem _ (List.mem_append_left _ (List.mem_append_left _ (List.mem_append_left _ (List.mem_append_left _ (List.mem_append_left _ (List.mem_append_left _ (List.mem_append_left _ (List.mem_append_left _ (List.mem_append_left _ (List.mem_append_left _ (List.mem_append_right _ h))))))))))))), List.forall_mem_cons.mpr ⟨(fun w h => (List.mem_cons_of_mem _ (List.mem_append_left _ (List.mem_append_left _ (List.mem_append_left _ (List.mem_append_left _ (List.mem_append_left _ (List.mem_append_left _ (List.mem_append_left _ (List.mem_append_left _ (List.mem_append_left _ (List.mem_append_right _ h)))))))))))), List.forall_mem_cons.mpr ⟨(fun w h => (List.mem_cons_of_mem _ (List.mem_append_left _ (List.mem_append_left _ (List.mem_append_left _ (List.mem_append_left _ (List.mem_append_left _ (List.mem_append_left _ (List.mem_append_left _ (List.mem_append_left _ (List.mem_append_right _ h))))))))))), List.forall_mem_cons.mpr ⟨(fun w h => (List.mem_cons_of_mem _ (List.mem_append_left _ (List.mem_append_left _ (List.mem_append_left _ (List.mem_append_left _ (List.mem_append_left _ (List.mem_append_left _ (List.mem_append_left _ (List.mem_append_right _ h)))))))))), List.forall_mem_cons.mpr ⟨(fun w h => (List.mem_cons_of_mem _ (List.mem_append_left _ (List.mem_append_left _ (List.mem_append_left _ (List.mem_append_left _ (List.mem_append_left _ (List.mem_append_left _ (List.mem_append_right _ h))))))))), List.forall_mem_cons.mpr ⟨(fun w h => (List.mem_cons_of_mem _ (List.mem_append_left _ (List.mem_append_left _ (List.mem_append_left _ (List.mem_append_left _ (List.mem_append_left _ (List.mem_append_right _ h)))))))), List.forall_mem_cons.mpr ⟨(fun w h => (List.mem_cons_of_mem _ (List.mem_append_left _ (List.mem_append_left _ (List.mem_append_left _ (List.mem_append_left _ (List.mem_append_right _ h))))))), List.forall_mem_cons.mpr ⟨(fun w h => (List.mem_cons_of_mem _ (List.mem_append_left _ (List.mem_append_left _ (List.mem_append_left _ (List.mem_append_right _ h)))))), List.forall_mem_cons.mpr ⟨(fun w h => (List.mem_cons_of_mem _ (List.mem_append_left _ (List.mem_append_left _ (List.mem_append_right _ h))))), fun _ h => absurd h List.not_mem_nil⟩⟩⟩⟩⟩⟩⟩⟩⟩⟩⟩⟩⟩⟩⟩⟩⟩⟩⟩⟩⟩
set_option maxRecDepth 100000 in
set_option maxHeartbeats 4000000 in
theorem ggX9_passDays_X9_requireWithin : GoodIn wsX9_passDays wsX9_requireWithin := goodIn_ca (goodIn_k ch_wsX9_passDays chm_wsX9_passDays _ [(0, 7), (0, 8), (0, 9)] (by rfl) (by decide +kernel)) (goodIn_sub (fun _ h => List.mem_cons_of_mem _ (List.mem_append_right _ h)) (by decide +kernel))
set_option maxRecDepth 20000 in
theorem gX9_passDays_X9_requireWithin : GoodIn wsX9_passDays (va_wsS RX9 20 yX9_requireWithin wsX9_requireWithin) := goodIn_app (goodIn_of _ (by decide +kernel)) ggX9_passDays_X9_requireWithin
set_option maxRecDepth 100000 in
set_option maxHeartbeats 4000000 in
theorem ggX9_passDays_X3_passDay : GoodIn wsX9_passDays wsX3_passDay := goodIn_k ch_wsX9_passDays chm_wsX9_passDays _ [(0, 14), (0, 15), (0, 16), (0, 17), (0, 18), (0, 19), (0, 20), (0, 21), (0, 22), (0, 23), (1, 0), (1, 1), (0, 13), (1, 2), (1, 3), (1, 4), (1, 5), (1, 6), (1, 7), (1, 8), (1, 9), (1, 10), (1, 11), (1, 12), (1, 13), (1, 14), (1, 15), (1, 16), (1, 17), (1, 18), (1, 19), (1, 20), (1, 21), (1, 22), (1, 23), (2, 0), (2, 1), (2, 2), (2, 3), (2, 4), (2, 5), (2, 6), (2, 7), (2, 8), (2, 9), (2, 10), (2, 11), (2, 12), (2, 13), (2, 14), (2, 15), (2, 16), (2, 17), (2, 18), (2, 19), (2, 20), (2, 21), (2, 22), (2, 23), (3, 0), (3, 1), (3, 2), (3, 3), (3, 4), (3, 5), (3, 6), (3, 7), (3, 8), (3, 9), (3, 10), (3, 11), (3, 12), (3, 13), (3, 14), (3, 15), (3, 16), (3, 17), (3, 18), (3, 19), (3, 20), (3, 21), (3, 22), (3, 23), (4, 0), (4, 1), (4, 2), (4, 3), (4, 4), (4, 5), (4, 6), (4, 7), (4, 8), (4, 9), (4, 10), (4, 11), (4, 12), (4, 13), (4, 14), (4, 15), (4, 16), (4, 17), (4, 18), (4, 19), (4, 20), (4, 21), (4, 22), (4, 23), (5, 0), (5, 1), (5, 2), (5, 3), (5, 4), (5, 5), (5, 6), (5, 7), (5, 8), (5, 9), (5, 10), (5, 11), (5, 12), (5, 13), (5, 14), (5, 15), (5, 16), (5, 17), (5, 18), (5, 19), (5, 20), (5, 21), (5, 22), (5, 23), (6, 0), (6, 1), (6, 2), (6, 3), (6, 4), (6, 5), (6, 6), (6, 7), (6, 8), (6, 9), (6, 10), (6, 11), (6, 12), (6, 13), (6, 14), (6, 15), (6, 16), (6, 17), (6, 18), (6, 19), (6, 20), (6, 21), (6, 22), (6, 23), (7, 0), (7, 1), (7, 2), (7, 3), (7, 4), (7, 5), (7, 6), (7, 7), (7, 8), (7, 9), (7, 10), (7, 11), (7, 12), (7, 13), (7, 14), (7, 15), (7, 16), (7, 17), (7, 18), (7, 19), (7, 20), (7, 21), (7, 22), (7, 23), (8, 0), (8, 1), (8, 2), (8, 3), (8, 4), (8, 5), (8, 6), (8, 7), (8, 8), (8, 9), (8, 10), (8, 11), (8, 12), (8, 13), (8, 14), (8, 15), (8, 16), (8, 17), (8, 18), (8, 19), (8, 20), (8, 21), (8, 22), (8, 23), (9, 0), (9, 1), (9, 2), (9, 3), (9, 4), (9, 5), (9, 6), (9, 7), (9, 8), (9, 9), (9, 10), (9, 11), (9, 12), (9, 13), (9, 14), (9, 15), (9, 16), (9, 17), (9, 18), (9, 19), (9, 20), (9, 21), (9, 22), (9, 23), (10, 0), (10, 1), (10, 2), (10, 3), (10, 4), (10, 5), (10, 6), (10, 7), (12, 0), (12, 1), (12, 2), (12, 3), (12, 4), (12, 5), (12, 6), (12, 7), (13, 0), (14, 0), (14, 1), (14, 2), (15, 0), (15, 1), (15, 2), (15, 3), (15, 4), (15, 5), (15, 6), (16, 0), (16, 1), (16, 2), (16, 3), (16, 4), (16, 5), (16, 6), (16, 7), (16, 8), (16, 9), (16, 10), (16, 11), (17, 0), (17, 1), (17, 2), (17, 3), (17, 4), (18, 0), (18, 1), (18, 2), (18, 3), (18, 4), (18, 5), (18, 6), (18, 7), (18, 8), (19, 0), (19, 1), (19, 2), (20, 0), (20, 1), (20, 2), (20, 3), (20, 4), (20, 5), (20, 6), (20, 7), (20, 8), (20, 9)] (by rfl) (by decide +kernel)
set_option maxRecDepth 20000 in
theorem gX9_passDays_X3_passDay : GoodIn wsX9_passDays (wsV RX9 113 RX3 yX3_passDay wsX3_passDay) := goodIn_app (goodIn_of _ (by decide +kernel)) ggX9_passDays_X3_passDay
theorem dX9_passDays_0 : decode cX9_passDays 0 = .ok (.iload_n 1, 1) := by decide +kernel
theorem dX9_passDays_1 : decode cX9_passDays 1 = .ok (.iconst 1, 1) := by decide +kernel
theorem dX9_passDays_2 : decode cX9_passDays 2 = .ok (.bipush 60, 2) := by decide +kernel
theorem dX9_passDays_4 : decode cX9_passDays 4 = .ok (.invokestatic 20, 3) := by decide +kernel
theorem dX9_passDays_7 : decode cX9_passDays 7 = .ok (.aload_n 0, 1) := by decide +kernel
theorem dX9_passDays_8 : decode cX9_passDays 8 = .ok (.getfield 10, 3) := by decide +kernel
theorem dX9_passDays_11 : decode cX9_passDays 11 = .ok (.getfield 91, 3) := by decide +kernel
theorem dX9_passDays_14 : decode cX9_passDays 14 = .ok (.iload_n 1, 1) := by decide +kernel
theorem dX9_passDays_15 : decode cX9_passDays 15 = .ok (.iadd, 1) := by decide +kernel
theorem dX9_passDays_16 : decode cX9_passDays 16 = .ok (.sipush 400, 3) := by decide +kernel
theorem dX9_passDays_19 : decode cX9_passDays 19 = .ok (.if_icmp .le 13, 3) := by decide +kernel
theorem dX9_passDays_22 : decode cX9_passDays 22 = .ok (.new 47, 3) := by decide +kernel
theorem dX9_passDays_25 : decode cX9_passDays 25 = .ok (.dup, 1) := by decide +kernel
theorem dX9_passDays_26 : decode cX9_passDays 26 = .ok (.ldc 111, 2) := by decide +kernel
theorem dX9_passDays_28 : decode cX9_passDays 28 = .ok (.invokespecial 51, 3) := by decide +kernel
theorem dX9_passDays_31 : decode cX9_passDays 31 = .ok (.athrow, 1) := by decide +kernel
theorem dX9_passDays_32 : decode cX9_passDays 32 = .ok (.iconst 0, 1) := by decide +kernel
theorem dX9_passDays_33 : decode cX9_passDays 33 = .ok (.istore_n 2, 1) := by decide +kernel
theorem dX9_passDays_34 : decode cX9_passDays 34 = .ok (.iload_n 2, 1) := by decide +kernel
theorem dX9_passDays_35 : decode cX9_passDays 35 = .ok (.iload_n 1, 1) := by decide +kernel
theorem dX9_passDays_36 : decode cX9_passDays 36 = .ok (.if_icmp .ge 16, 3) := by decide +kernel
theorem dX9_passDays_39 : decode cX9_passDays 39 = .ok (.aload_n 0, 1) := by decide +kernel
theorem dX9_passDays_40 : decode cX9_passDays 40 = .ok (.getfield 10, 3) := by decide +kernel
theorem dX9_passDays_43 : decode cX9_passDays 43 = .ok (.invokevirtual 113, 3) := by decide +kernel
theorem dX9_passDays_46 : decode cX9_passDays 46 = .ok (.iinc 2 1, 3) := by decide +kernel
theorem dX9_passDays_49 : decode cX9_passDays 49 = .ok (.goto (-15), 3) := by decide +kernel
theorem dX9_passDays_52 : decode cX9_passDays 52 = .ok (.aload_n 0, 1) := by decide +kernel
theorem dX9_passDays_53 : decode cX9_passDays 53 = .ok (.getfield 10, 3) := by decide +kernel
theorem dX9_passDays_56 : decode cX9_passDays 56 = .ok (.getfield 91, 3) := by decide +kernel
theorem dX9_passDays_59 : decode cX9_passDays 59 = .ok (.ireturn, 1) := by decide +kernel
def ch_wsX9_book : List (List Cond) := [wsX9_book_r1, wsX9_book_r2, wsX00, wsX90, wsX30, wsJx4a65c0]
theorem chm_wsX9_book : ∀ c ∈ ch_wsX9_book, ∀ w ∈ c, w ∈ wsX9_book := List.forall_mem_cons.mpr ⟨(fun w h => (List.mem_cons_of_mem _ (List.mem_append_left _ (List.mem_append_left _ (List.mem_append_left _ (List.mem_append_left _ (List.mem_append_left _ (List.mem_append_left _ (List.mem_append_left _ h))))))))), List.forall_mem_cons.mpr ⟨(fun w h => (List.mem_cons_of_mem _ (List.mem_append_left _ (List.mem_append_left _ (List.mem_append_left _ (List.mem_append_left _ (List.mem_append_left _ (List.mem_append_left _ (List.mem_append_right _ h))))))))), List.forall_mem_cons.mpr ⟨(fun w h => (List.mem_cons_of_mem _ (List.mem_append_left _ (List.mem_append_left _ (List.mem_append_left _ (List.mem_append_left _ (List.mem_append_left _ (List.mem_append_right _ h)))))))), List.forall_mem_cons.mpr ⟨(fun w h => (List.mem_cons_of_mem _ (List.mem_append_left _ (List.mem_append_left _ (List.mem_append_left _ (List.mem_append_left _ (List.mem_append_right _ h))))))), List.forall_mem_cons.mpr ⟨(fun w h => (List.mem_cons_of_mem _ (List.mem_append_left _ (List.mem_append_left _ (List.mem_append_left _ (List.mem_append_right _ h)))))), List.forall_mem_cons.mpr ⟨(fun w h => (List.mem_cons_of_mem _ (List.mem_append_left _ (List.mem_append_left _ (List.mem_append_right _ h))))), fun _ h => absurd h List.not_mem_nil⟩⟩⟩⟩⟩⟩
set_option maxRecDepth 100000 in
set_option maxHeartbeats 4000000 in
theorem ggX9_book_X9_accountAt : GoodIn wsX9_book wsX9_accountAt := goodIn_ca (goodIn_k ch_wsX9_book chm_wsX9_book _ [(0, 5), (0, 6), (0, 7), (0, 8), (0, 9), (0, 10), (0, 11), (0, 12), (0, 13), (0, 14), (0, 15), (0, 16), (0, 17), (0, 18), (0, 19), (0, 20), (0, 21), (0, 22), (0, 23), (1, 0), (1, 1), (1, 2), (1, 3), (1, 4), (1, 5), (1, 6), (1, 7), (1, 8), (1, 9), (3, 0), (4, 0), (4, 1), (4, 2), (4, 3), (4, 4), (4, 5), (4, 6), (4, 7), (5, 0), (5, 1), (5, 2)] (by rfl) (by decide +kernel)) (goodIn_sub (fun _ h => List.mem_cons_of_mem _ (List.mem_append_left _ (List.mem_append_right _ h))) (by decide +kernel))
set_option maxRecDepth 20000 in
theorem gX9_book_X9_accountAt : GoodIn wsX9_book (wsV RX9 31 RX9 yX9_accountAt wsX9_accountAt) := goodIn_app (goodIn_of _ (by decide +kernel)) ggX9_book_X9_accountAt
set_option maxRecDepth 100000 in
set_option maxHeartbeats 4000000 in
theorem ggX9_book_X9_requireAmount : GoodIn wsX9_book wsX9_requireAmount := goodIn_ca (goodIn_k ch_wsX9_book chm_wsX9_book _ [(1, 12), (1, 13), (1, 14), (1, 15), (1, 16), (1, 17), (1, 18), (0, 4), (1, 19)] (by rfl) (by decide +kernel)) (goodIn_sub (fun _ h => List.mem_cons_of_mem _ (List.mem_append_right _ h)) (by decide +kernel))
set_option maxRecDepth 20000 in
theorem gX9_book_X9_requireAmount : GoodIn wsX9_book (va_wsS RX9 116 yX9_requireAmount wsX9_requireAmount) := goodIn_app (goodIn_of _ (by decide +kernel)) ggX9_book_X9_requireAmount
theorem dX9_book_0 : decode cX9_book 0 = .ok (.aload_n 0, 1) := by decide +kernel
theorem dX9_book_1 : decode cX9_book 1 = .ok (.iload_n 1, 1) := by decide +kernel
theorem dX9_book_2 : decode cX9_book 2 = .ok (.invokevirtual 31, 3) := by decide +kernel
theorem dX9_book_5 : decode cX9_book 5 = .ok (.astore_n 3, 1) := by decide +kernel
theorem dX9_book_6 : decode cX9_book 6 = .ok (.iload_n 2, 1) := by decide +kernel
theorem dX9_book_7 : decode cX9_book 7 = .ok (.invokestatic 116, 3) := by decide +kernel
theorem dX9_book_10 : decode cX9_book 10 = .ok (.aload_n 3, 1) := by decide +kernel
theorem dX9_book_11 : decode cX9_book 11 = .ok (.dup, 1) := by decide +kernel
theorem dX9_book_12 : decode cX9_book 12 = .ok (.getfield 119, 3) := by decide +kernel
theorem dX9_book_15 : decode cX9_book 15 = .ok (.iload_n 2, 1) := by decide +kernel
theorem dX9_book_16 : decode cX9_book 16 = .ok (.i2l, 1) := by decide +kernel
theorem dX9_book_17 : decode cX9_book 17 = .ok (.ladd, 1) := by decide +kernel
theorem dX9_book_18 : decode cX9_book 18 = .ok (.putfield 119, 3) := by decide +kernel
theorem dX9_book_21 : decode cX9_book 21 = .ok (.aload_n 3, 1) := by decide +kernel
theorem dX9_book_22 : decode cX9_book 22 = .ok (.getfield 119, 3) := by decide +kernel
theorem dX9_book_25 : decode cX9_book 25 = .ok (.lreturn, 1) := by decide +kernel
def ch_wsX9_schedule : List (List Cond) := [wsX9_schedule_r1, wsX9_schedule_r2, wsX9_schedule_r3, wsX9_schedule_r4, wsX9_schedule_r5, wsX90, wsX30, wsX40, wsJx4a65c0]
theorem chm_wsX9_schedule : ∀ c ∈ ch_wsX9_schedule, ∀ w ∈ c, w ∈ wsX9_schedule := List.forall_mem_cons.mpr ⟨(fun w h => (List.mem_cons_of_mem _ (List.mem_append_left _ (List.mem_append_left _ (List.mem_append_left _ (List.mem_append_left _ (List.mem_append_left _ (List.mem_append_left _ (List.mem_append_left _ (List.mem_append_left _ h)))))))))), List.forall_mem_cons.mpr ⟨(fun w h => (List.mem_cons_of_mem _ (List.mem_append_left _ (List.mem_append_left _ (List.mem_append_left _ (List.mem_append_left _ (List.mem_append_left _ (List.mem_append_left _ (List.mem_append_left _ (List.mem_append_right _ (List.mem_append_left _ h))))))))))), List.forall_mem_cons.mpr ⟨(fun w h => (List.mem_cons_of_mem _ (List.mem_append_left _ (List.mem_append_left _ (List.mem_append_left _ (List.mem_append_left _ (List.mem_append_left _ (List.mem_append_left _ (List.mem_append_left _ (List.mem_append_right _ (List.mem_append_right _ (List.mem_append_left _ h)))))))))))), List.forall_mem_cons.mpr ⟨(fun w h => (List.mem_cons_of_mem _ (List.mem_append_left _ (List.mem_append_left _ (List.mem_append_left _ (List.mem_append_left _ (List.mem_append_left _ (List.mem_append_left _ (List.mem_append_left _ (List.mem_append_right _ (List.mem_append_right _ (List.mem_append_right _ (List.mem_append_left _ h))))))))))))), List.forall_mem_cons.mpr ⟨(fun w h => (List.mem_cons_of_mem _ (List.mem_append_left _ (List.mem_append_left _ (List.mem_append_left _ (List.mem_append_left _ (List.mem_append_left _ (List.mem_append_left _ (List.mem_append_left _ (List.mem_append_right _ (List.mem_append_right _ (List.mem_append_right _ (List.mem_append_right _ h))))))))))))), List.forall_mem_cons.mpr ⟨(fun w h => (List.mem_cons_of_mem _ (List.mem_append_left _ (List.mem_append_left _ (List.mem_append_left _ (List.mem_append_left _ (List.mem_append_left _ (List.mem_append_left _ (List.mem_append_right _ h))))))))), List.forall_mem_cons.mpr ⟨(fun w h => (List.mem_cons_of_mem _ (List.mem_append_left _ (List.mem_append_left _ (List.mem_append_left _ (List.mem_append_left _ (List.mem_append_left _ (List.mem_append_right _ h)))))))), List.forall_mem_cons.mpr ⟨(fun w h => (List.mem_cons_of_mem _ (List.mem_append_left _ (List.mem_append_left _ (List.mem_append_left _ (List.mem_append_left _ (List.mem_append_right _ h))))))), List.forall_mem_cons.mpr ⟨(fun w h => (List.mem_cons_of_mem _ (List.mem_append_left _ (List.mem_append_left _ (List.mem_append_left _ (List.mem_append_right _ h)))))), fun _ h => absurd h List.not_mem_nil⟩⟩⟩⟩⟩⟩⟩⟩⟩
set_option maxRecDepth 100000 in
set_option maxHeartbeats 4000000 in
theorem ggX9_schedule_X9_accountAt : GoodIn wsX9_schedule wsX9_accountAt := goodIn_ca (goodIn_k ch_wsX9_schedule chm_wsX9_schedule _ [(0, 12), (0, 13), (0, 14), (0, 2), (0, 15), (0, 16), (0, 17), (0, 18), (0, 19), (0, 20), (0, 21), (0, 22), (0, 23), (1, 0), (1, 1), (1, 2), (1, 3), (1, 4), (1, 5), (1, 6), (1, 7), (1, 8), (1, 9), (1, 10), (1, 11), (1, 12), (1, 13), (1, 14), (1, 15), (5, 0), (6, 0), (6, 1), (6, 2), (6, 3), (6, 4), (6, 5), (6, 6), (6, 7), (8, 0), (8, 1), (8, 2)] (by rfl) (by decide +kernel)) (goodIn_sub (fun _ h => List.mem_cons_of_mem _ (List.mem_append_left _ (List.mem_append_right _ h))) (by decide +kernel))
set_option maxRecDepth 20000 in
theorem gX9_schedule_X9_accountAt : GoodIn wsX9_schedule (wsV RX9 31 RX9 yX9_accountAt wsX9_accountAt) := goodIn_app (goodIn_of _ (by decide +kernel)) ggX9_schedule_X9_accountAt
set_option maxRecDepth 100000 in
set_option maxHeartbeats 4000000 in
theorem ggX9_schedule_X9_requireAmount : GoodIn wsX9_schedule wsX9_requireAmount := goodIn_ca (goodIn_k ch_wsX9_schedule chm_wsX9_schedule _ [(1, 18), (1, 19), (1, 20), (1, 21), (1, 22), (1, 23), (2, 0), (0, 11), (2, 1)] (by rfl) (by decide +kernel)) (goodIn_sub (fun _ h => List.mem_cons_of_mem _ (List.mem_append_right _ h)) (by decide +kernel))
set_option maxRecDepth 20000 in
theorem gX9_schedule_X9_requireAmount : GoodIn wsX9_schedule (va_wsS RX9 116 yX9_requireAmount wsX9_requireAmount) := goodIn_app (goodIn_of _ (by decide +kernel)) ggX9_schedule_X9_requireAmount
set_option maxRecDepth 100000 in
set_option maxHeartbeats 4000000 in
theorem ggX9_schedule_X9_requireWithin : GoodIn wsX9_schedule wsX9_requireWithin := goodIn_ca (goodIn_k ch_wsX9_schedule chm_wsX9_schedule _ [(2, 1), (1, 19), (1, 20)] (by rfl) (by decide +kernel)) (goodIn_sub (fun _ h => List.mem_cons_of_mem _ (List.mem_append_right _ h)) (by decide +kernel))
set_option maxRecDepth 20000 in
theorem gX9_schedule_X9_requireWithin : GoodIn wsX9_schedule (va_wsS RX9 20 yX9_requireWithin wsX9_requireWithin) := goodIn_app (goodIn_of _ (by decide +kernel)) ggX9_schedule_X9_requireWithin
set_option maxRecDepth 100000 in
set_option maxHeartbeats 4000000 in
theorem ggX9_schedule_Jx4a65c_size_8abf5 : GoodIn wsX9_schedule wsJx4a65c_size_8abf5 := goodIn_k ch_wsX9_schedule chm_wsX9_schedule _ [(0, 21), (0, 22), (8, 0), (8, 1), (8, 2)] (by rfl) (by decide +kernel)
set_option maxRecDepth 20000 in
theorem gX9_schedule_Jx4a65c_size_8abf5 : GoodIn wsX9_schedule (wsV RX9 73 RJx4a65c yJx4a65c_size_8abf5 wsJx4a65c_size_8abf5) := goodIn_app (goodIn_of _ (by decide +kernel)) ggX9_schedule_Jx4a65c_size_8abf5
set_option maxRecDepth 100000 in
set_option maxHeartbeats 4000000 in
theorem ggX9_schedule_X4_init : GoodIn wsX9_schedule wsX4_init := goodIn_k ch_wsX9_schedule chm_wsX9_schedule _ [(2, 4), (2, 5), (2, 6), (2, 7), (2, 8), (2, 9), (2, 10), (2, 11), (2, 12), (7, 0), (7, 1), (7, 2), (7, 3), (7, 4), (7, 5), (7, 6)] (by rfl) (by decide +kernel)
set_option maxRecDepth 20000 in
theorem gX9_schedule_X4_init : GoodIn wsX9_schedule (wsX4_init) := ggX9_schedule_X4_init
set_option maxRecDepth 100000 in
set_option maxHeartbeats 4000000 in
theorem ggX9_schedule_Jx4a65c_add_9ea2d : GoodIn wsX9_schedule wsJx4a65c_add_9ea2d := goodIn_k ch_wsX9_schedule chm_wsX9_schedule _ [(2, 16), (2, 17), (2, 18), (1, 15), (0, 22), (2, 19), (2, 20), (2, 21), (0, 20), (2, 22), (2, 23), (3, 0), (3, 1), (3, 2), (3, 3), (3, 4), (3, 5), (3, 6), (3, 7), (3, 8), (3, 9), (3, 10), (3, 11), (3, 12), (3, 13), (3, 14), (3, 15), (3, 16), (3, 17), (3, 18), (3, 19), (3, 20), (3, 21), (3, 22), (3, 23), (4, 0), (4, 1), (4, 2), (4, 3), (4, 4), (4, 5), (4, 6), (4, 7), (4, 8), (4, 9), (4, 10), (4, 11), (4, 12), (4, 13), (4, 14), (4, 15), (4, 16), (4, 17), (8, 0), (8, 1), (8, 2)] (by rfl) (by decide +kernel)
set_option maxRecDepth 20000 in
theorem gX9_schedule_Jx4a65c_add_9ea2d : GoodIn wsX9_schedule (wsV RX9 133 RJx4a65c yJx4a65c_add_9ea2d wsJx4a65c_add_9ea2d) := goodIn_app (goodIn_of _ (by decide +kernel)) ggX9_schedule_Jx4a65c_add_9ea2d
theorem dX9_schedule_0 : decode cX9_schedule 0 = .ok (.aload_n 0, 1) := by decide +kernel
theorem dX9_schedule_1 : decode cX9_schedule 1 = .ok (.iload_n 1, 1) := by decide +kernel
theorem dX9_schedule_2 : decode cX9_schedule 2 = .ok (.invokevirtual 31, 3) := by decide +kernel
theorem dX9_schedule_5 : decode cX9_schedule 5 = .ok (.astore 6, 2) := by decide +kernel
theorem dX9_schedule_7 : decode cX9_schedule 7 = .ok (.iload_n 2, 1) := by decide +kernel
theorem dX9_schedule_8 : decode cX9_schedule 8 = .ok (.invokestatic 116, 3) := by decide +kernel
theorem dX9_schedule_11 : decode cX9_schedule 11 = .ok (.iload_n 3, 1) := by decide +kernel
theorem dX9_schedule_12 : decode cX9_schedule 12 = .ok (.aload_n 0, 1) := by decide +kernel
theorem dX9_schedule_13 : decode cX9_schedule 13 = .ok (.getfield 10, 3) := by decide +kernel
theorem dX9_schedule_16 : decode cX9_schedule 16 = .ok (.getfield 91, 3) := by decide +kernel
theorem dX9_schedule_19 : decode cX9_schedule 19 = .ok (.sipush 450, 3) := by decide +kernel
theorem dX9_schedule_22 : decode cX9_schedule 22 = .ok (.invokestatic 20, 3) := by decide +kernel
theorem dX9_schedule_25 : decode cX9_schedule 25 = .ok (.iload 4, 2) := by decide +kernel
theorem dX9_schedule_27 : decode cX9_schedule 27 = .ok (.iconst 1, 1) := by decide +kernel
theorem dX9_schedule_28 : decode cX9_schedule 28 = .ok (.bipush 100, 2) := by decide +kernel
theorem dX9_schedule_30 : decode cX9_schedule 30 = .ok (.invokestatic 20, 3) := by decide +kernel
theorem dX9_schedule_33 : decode cX9_schedule 33 = .ok (.iload 5, 2) := by decide +kernel
theorem dX9_schedule_35 : decode cX9_schedule 35 = .ok (.iconst 1, 1) := by decide +kernel
theorem dX9_schedule_36 : decode cX9_schedule 36 = .ok (.bipush 30, 2) := by decide +kernel
theorem dX9_schedule_38 : decode cX9_schedule 38 = .ok (.invokestatic 20, 3) := by decide +kernel
theorem dX9_schedule_41 : decode cX9_schedule 41 = .ok (.aload_n 0, 1) := by decide +kernel
theorem dX9_schedule_42 : decode cX9_schedule 42 = .ok (.getfield 10, 3) := by decide +kernel
theorem dX9_schedule_45 : decode cX9_schedule 45 = .ok (.getfield 123, 3) := by decide +kernel
theorem dX9_schedule_48 : decode cX9_schedule 48 = .ok (.invokevirtual 73, 3) := by decide +kernel
theorem dX9_schedule_51 : decode cX9_schedule 51 = .ok (.bipush 20, 2) := by decide +kernel
theorem dX9_schedule_53 : decode cX9_schedule 53 = .ok (.if_icmp .lt 13, 3) := by decide +kernel
theorem dX9_schedule_56 : decode cX9_schedule 56 = .ok (.new 47, 3) := by decide +kernel
theorem dX9_schedule_59 : decode cX9_schedule 59 = .ok (.dup, 1) := by decide +kernel
theorem dX9_schedule_60 : decode cX9_schedule 60 = .ok (.ldc 126, 2) := by decide +kernel
theorem dX9_schedule_62 : decode cX9_schedule 62 = .ok (.invokespecial 51, 3) := by decide +kernel
theorem dX9_schedule_65 : decode cX9_schedule 65 = .ok (.athrow, 1) := by decide +kernel
theorem dX9_schedule_66 : decode cX9_schedule 66 = .ok (.aload_n 0, 1) := by decide +kernel
theorem dX9_schedule_67 : decode cX9_schedule 67 = .ok (.getfield 10, 3) := by decide +kernel
theorem dX9_schedule_70 : decode cX9_schedule 70 = .ok (.getfield 123, 3) := by decide +kernel
theorem dX9_schedule_73 : decode cX9_schedule 73 = .ok (.new 128, 3) := by decide +kernel
theorem dX9_schedule_76 : decode cX9_schedule 76 = .ok (.dup, 1) := by decide +kernel
theorem dX9_schedule_77 : decode cX9_schedule 77 = .ok (.aload 6, 2) := by decide +kernel
theorem dX9_schedule_79 : decode cX9_schedule 79 = .ok (.iload_n 2, 1) := by decide +kernel
theorem dX9_schedule_80 : decode cX9_schedule 80 = .ok (.iload_n 3, 1) := by decide +kernel
theorem dX9_schedule_81 : decode cX9_schedule 81 = .ok (.iload 4, 2) := by decide +kernel
theorem dX9_schedule_83 : decode cX9_schedule 83 = .ok (.iload 5, 2) := by decide +kernel
theorem dX9_schedule_85 : decode cX9_schedule 85 = .ok (.invokespecial 130, 3) := by decide +kernel
theorem dX9_schedule_88 : decode cX9_schedule 88 = .ok (.invokevirtual 133, 3) := by decide +kernel
theorem dX9_schedule_91 : decode cX9_schedule 91 = .ok (.pop, 1) := by decide +kernel
theorem dX9_schedule_92 : decode cX9_schedule 92 = .ok (.aload_n 0, 1) := by decide +kernel
theorem dX9_schedule_93 : decode cX9_schedule 93 = .ok (.getfield 10, 3) := by decide +kernel
theorem dX9_schedule_96 : decode cX9_schedule 96 = .ok (.getfield 123, 3) := by decide +kernel
theorem dX9_schedule_99 : decode cX9_schedule 99 = .ok (.invokevirtual 73, 3) := by decide +kernel
theorem dX9_schedule_102 : decode cX9_schedule 102 = .ok (.iconst 1, 1) := by decide +kernel
theorem dX9_schedule_103 : decode cX9_schedule 103 = .ok (.isub, 1) := by decide +kernel
theorem dX9_schedule_104 : decode cX9_schedule 104 = .ok (.ireturn, 1) := by decide +kernel
def ch_wsX9_cancel : List (List Cond) := [wsX9_cancel_r1, wsX9_cancel_r2, wsX40, wsX90, wsX30, wsJx4a65c0]
theorem chm_wsX9_cancel : ∀ c ∈ ch_wsX9_cancel, ∀ w ∈ c, w ∈ wsX9_cancel := List.forall_mem_cons.mpr ⟨(fun w h => (List.mem_cons_of_mem _ (List.mem_append_left _ (List.mem_append_left _ (List.mem_append_left _ (List.mem_append_left _ (List.mem_append_left _ (List.mem_append_left _ h)))))))), List.forall_mem_cons.mpr ⟨(fun w h => (List.mem_cons_of_mem _ (List.mem_append_left _ (List.mem_append_left _ (List.mem_append_left _ (List.mem_append_left _ (List.mem_append_left _ (List.mem_append_right _ h)))))))), List.forall_mem_cons.mpr ⟨(fun w h => (List.mem_cons_of_mem _ (List.mem_append_left _ (List.mem_append_left _ (List.mem_append_left _ (List.mem_append_left _ (List.mem_append_right _ h))))))), List.forall_mem_cons.mpr ⟨(fun w h => (List.mem_cons_of_mem _ (List.mem_append_left _ (List.mem_append_left _ (List.mem_append_left _ (List.mem_append_right _ h)))))), List.forall_mem_cons.mpr ⟨(fun w h => (List.mem_cons_of_mem _ (List.mem_append_left _ (List.mem_append_left _ (List.mem_append_right _ h))))), List.forall_mem_cons.mpr ⟨(fun w h => (List.mem_cons_of_mem _ (List.mem_append_left _ (List.mem_append_right _ h)))), fun _ h => absurd h List.not_mem_nil⟩⟩⟩⟩⟩⟩
set_option maxRecDepth 100000 in
set_option maxHeartbeats 4000000 in
theorem ggX9_cancel_X9_flowAt : GoodIn wsX9_cancel wsX9_flowAt := goodIn_ca (goodIn_k ch_wsX9_cancel chm_wsX9_cancel _ [(0, 5), (0, 6), (0, 7), (0, 8), (0, 9), (0, 10), (0, 11), (0, 12), (0, 13), (0, 14), (0, 15), (0, 16), (0, 17), (0, 18), (0, 19), (0, 20), (0, 21), (0, 22), (0, 23), (1, 0), (1, 1), (1, 2), (1, 3), (1, 4), (1, 5), (1, 6), (1, 7), (1, 8), (1, 9), (3, 0), (4, 0), (4, 1), (4, 2), (4, 3), (4, 4), (4, 5), (4, 6), (4, 7), (5, 0), (5, 1), (5, 2)] (by rfl) (by decide +kernel)) (goodIn_sub (fun _ h => List.mem_cons_of_mem _ (List.mem_append_right _ h)) (by decide +kernel))
set_option maxRecDepth 20000 in
theorem gX9_cancel_X9_flowAt : GoodIn wsX9_cancel (wsV RX9 137 RX9 yX9_flowAt wsX9_flowAt) := goodIn_app (goodIn_of _ (by decide +kernel)) ggX9_cancel_X9_flowAt
theorem dX9_cancel_0 : decode cX9_cancel 0 = .ok (.aload_n 0, 1) := by decide +kernel
theorem dX9_cancel_1 : decode cX9_cancel 1 = .ok (.iload_n 1, 1) := by decide +kernel
theorem dX9_cancel_2 : decode cX9_cancel 2 = .ok (.invokevirtual 137, 3) := by decide +kernel
theorem dX9_cancel_5 : decode cX9_cancel 5 = .ok (.astore_n 2, 1) := by decide +kernel
theorem dX9_cancel_6 : decode cX9_cancel 6 = .ok (.aload_n 2, 1) := by decide +kernel
theorem dX9_cancel_7 : decode cX9_cancel 7 = .ok (.getfield 141, 3) := by decide +kernel
theorem dX9_cancel_10 : decode cX9_cancel 10 = .ok (.istore_n 3, 1) := by decide +kernel
theorem dX9_cancel_11 : decode cX9_cancel 11 = .ok (.aload_n 2, 1) := by decide +kernel
theorem dX9_cancel_12 : decode cX9_cancel 12 = .ok (.iconst 0, 1) := by decide +kernel
theorem dX9_cancel_13 : decode cX9_cancel 13 = .ok (.putfield 141, 3) := by decide +kernel
theorem dX9_cancel_16 : decode cX9_cancel 16 = .ok (.iload_n 3, 1) := by decide +kernel
theorem dX9_cancel_17 : decode cX9_cancel 17 = .ok (.ireturn, 1) := by decide +kernel
def ch_wsX9_timesLeft : List (List Cond) := [wsX9_timesLeft_r1, wsX9_timesLeft_r2, wsX40, wsX90, wsX30, wsJx4a65c0]
theorem chm_wsX9_timesLeft : ∀ c ∈ ch_wsX9_timesLeft, ∀ w ∈ c, w ∈ wsX9_timesLeft := List.forall_mem_cons.mpr ⟨(fun w h => (List.mem_cons_of_mem _ (List.mem_append_left _ (List.mem_append_left _ (List.mem_append_left _ (List.mem_append_left _ (List.mem_append_left _ (List.mem_append_left _ h)))))))), List.forall_mem_cons.mpr ⟨(fun w h => (List.mem_cons_of_mem _ (List.mem_append_left _ (List.mem_append_left _ (List.mem_append_left _ (List.mem_append_left _ (List.mem_append_left _ (List.mem_append_right _ h)))))))), List.forall_mem_cons.mpr ⟨(fun w h => (List.mem_cons_of_mem _ (List.mem_append_left _ (List.mem_append_left _ (List.mem_append_left _ (List.mem_append_left _ (List.mem_append_right _ h))))))), List.forall_mem_cons.mpr ⟨(fun w h => (List.mem_cons_of_mem _ (List.mem_append_left _ (List.mem_append_left _ (List.mem_append_left _ (List.mem_append_right _ h)))))), List.forall_mem_cons.mpr ⟨(fun w h => (List.mem_cons_of_mem _ (List.mem_append_left _ (List.mem_append_left _ (List.mem_append_right _ h))))), List.forall_mem_cons.mpr ⟨(fun w h => (List.mem_cons_of_mem _ (List.mem_append_left _ (List.mem_append_right _ h)))), fun _ h => absurd h List.not_mem_nil⟩⟩⟩⟩⟩⟩
set_option maxRecDepth 100000 in
set_option maxHeartbeats 4000000 in
theorem ggX9_timesLeft_X9_flowAt : GoodIn wsX9_timesLeft wsX9_flowAt := goodIn_ca (goodIn_k ch_wsX9_timesLeft chm_wsX9_timesLeft _ [(0, 5), (0, 6), (0, 7), (0, 8), (0, 9), (0, 10), (0, 11), (0, 12), (0, 13), (0, 14), (0, 15), (0, 16), (0, 17), (0, 18), (0, 19), (0, 20), (0, 21), (0, 22), (0, 23), (1, 0), (1, 1), (1, 2), (1, 3), (1, 4), (1, 5), (1, 6), (1, 7), (1, 8), (1, 9), (3, 0), (4, 0), (4, 1), (4, 2), (4, 3), (4, 4), (4, 5), (4, 6), (4, 7), (5, 0), (5, 1), (5, 2)] (by rfl) (by decide +kernel)) (goodIn_sub (fun _ h => List.mem_cons_of_mem _ (List.mem_append_right _ h)) (by decide +kernel))
set_option maxRecDepth 20000 in
theorem gX9_timesLeft_X9_flowAt : GoodIn wsX9_timesLeft (wsV RX9 137 RX9 yX9_flowAt wsX9_flowAt) := goodIn_app (goodIn_of _ (by decide +kernel)) ggX9_timesLeft_X9_flowAt
theorem dX9_timesLeft_0 : decode cX9_timesLeft 0 = .ok (.aload_n 0, 1) := by decide +kernel
theorem dX9_timesLeft_1 : decode cX9_timesLeft 1 = .ok (.iload_n 1, 1) := by decide +kernel
theorem dX9_timesLeft_2 : decode cX9_timesLeft 2 = .ok (.invokevirtual 137, 3) := by decide +kernel
theorem dX9_timesLeft_5 : decode cX9_timesLeft 5 = .ok (.getfield 141, 3) := by decide +kernel
theorem dX9_timesLeft_8 : decode cX9_timesLeft 8 = .ok (.ireturn, 1) := by decide +kernel
def ch_wsX9_scheduled : List (List Cond) := [wsX9_scheduled_r1, wsX9_scheduled_r2, wsX9_scheduled_r3, wsX90, wsX30, wsJx4a65c0, wsX40, wsX20]
theorem chm_wsX9_scheduled : ∀ c ∈ ch_wsX9_scheduled, ∀ w ∈ c, w ∈ wsX9_scheduled := List.forall_mem_cons.mpr ⟨(fun w h => (List.mem_cons_of_mem _ (List.mem_append_left _ (List.mem_append_left _ (List.mem_append_left _ (List.mem_append_left _ (List.mem_append_left _ (List.mem_append_left _ (List.mem_append_left _ (List.mem_append_left _ h)))))))))), List.forall_mem_cons.mpr ⟨(fun w h => (List.mem_cons_of_mem _ (List.mem_append_left _ (List.mem_append_left _ (List.mem_append_left _ (List.mem_append_left _ (List.mem_append_left _ (List.mem_append_left _ (List.mem_append_left _ (List.mem_append_right _ (List.mem_append_left _ h))))))))))), List.forall_mem_cons.mpr ⟨(fun w h => (List.mem_cons_of_mem _ (List.mem_append_left _ (List.mem_append_left _ (List.mem_append_left _ (List.mem_append_left _ (List.mem_append_left _ (List.mem_append_left _ (List.mem_append_left _ (List.mem_append_right _ (List.mem_append_right _ h))))))))))), List.forall_mem_cons.mpr ⟨(fun w h => (List.mem_cons_of_mem _ (List.mem_append_left _ (List.mem_append_left _ (List.mem_append_left _ (List.mem_append_left _ (List.mem_append_left _ (List.mem_append_left _ (List.mem_append_right _ h))))))))), List.forall_mem_cons.mpr ⟨(fun w h => (List.mem_cons_of_mem _ (List.mem_append_left _ (List.mem_append_left _ (List.mem_append_left _ (List.mem_append_left _ (List.mem_append_left _ (List.mem_append_right _ h)))))))), List.forall_mem_cons.mpr ⟨(fun w h => (List.mem_cons_of_mem _ (List.mem_append_left _ (List.mem_append_left _ (List.mem_append_left _ (List.mem_append_left _ (List.mem_append_right _ h))))))), List.forall_mem_cons.mpr ⟨(fun w h => (List.mem_cons_of_mem _ (List.mem_append_left _ (List.mem_append_left _ (List.mem_append_left _ (List.mem_append_right _ h)))))), List.forall_mem_cons.mpr ⟨(fun w h => (List.mem_cons_of_mem _ (List.mem_append_left _ (List.mem_append_left _ (List.mem_append_right _ h))))), fun _ h => absurd h List.not_mem_nil⟩⟩⟩⟩⟩⟩⟩⟩
set_option maxRecDepth 100000 in
set_option maxHeartbeats 4000000 in
theorem ggX9_scheduled_X9_accountAt : GoodIn wsX9_scheduled wsX9_accountAt := goodIn_ca (goodIn_k ch_wsX9_scheduled chm_wsX9_scheduled _ [(0, 6), (0, 7), (0, 8), (0, 0), (0, 9), (0, 10), (0, 11), (0, 12), (0, 13), (0, 14), (0, 15), (0, 16), (0, 17), (0, 18), (0, 19), (0, 20), (0, 21), (0, 22), (0, 23), (1, 0), (1, 1), (1, 2), (1, 3), (1, 4), (1, 5), (1, 6), (1, 7), (1, 8), (1, 9), (3, 0), (4, 0), (4, 1), (4, 2), (4, 3), (4, 4), (4, 5), (4, 6), (4, 7), (5, 0), (5, 1), (5, 2)] (by rfl) (by decide +kernel)) (goodIn_sub (fun _ h => List.mem_cons_of_mem _ (List.mem_append_left _ (List.mem_append_right _ h))) (by decide +kernel))
set_option maxRecDepth 20000 in
theorem gX9_scheduled_X9_accountAt : GoodIn wsX9_scheduled (wsV RX9 31 RX9 yX9_accountAt wsX9_accountAt) := goodIn_app (goodIn_of _ (by decide +kernel)) ggX9_scheduled_X9_accountAt
set_option maxRecDepth 100000 in
set_option maxHeartbeats 4000000 in
theorem ggX9_scheduled_X9_requireWithin : GoodIn wsX9_scheduled wsX9_requireWithin := goodIn_ca (goodIn_k ch_wsX9_scheduled chm_wsX9_scheduled _ [(1, 12), (1, 13), (1, 14)] (by rfl) (by decide +kernel)) (goodIn_sub (fun _ h => List.mem_cons_of_mem _ (List.mem_append_right _ h)) (by decide +kernel))
set_option maxRecDepth 20000 in
theorem gX9_scheduled_X9_requireWithin : GoodIn wsX9_scheduled (va_wsS RX9 20 yX9_requireWithin wsX9_requireWithin) := goodIn_app (goodIn_of _ (by decide +kernel)) ggX9_scheduled_X9_requireWithin
set_option maxRecDepth 100000 in
set_option maxHeartbeats 4000000 in
theorem ggX9_scheduled_X3_sumOfFlows : GoodIn wsX9_scheduled wsX3_sumOfFlows := goodIn_k ch_wsX9_scheduled chm_wsX9_scheduled _ [(1, 19), (1, 20), (1, 21), (1, 22), (1, 23), (2, 0), (0, 12), (0, 13), (0, 14), (0, 15), (0, 16), (2, 1), (0, 18), (0, 19), (0, 20), (0, 21), (0, 22), (0, 23), (1, 0), (1, 1), (1, 2), (1, 3), (1, 4), (1, 5), (1, 6), (1, 7), (1, 8), (1, 9), (2, 2), (2, 3), (2, 4), (2, 5), (2, 6), (2, 7), (2, 8), (2, 9), (2, 10), (2, 11), (2, 12), (2, 13), (2, 14), (2, 15), (2, 16), (2, 17), (2, 18), (2, 19), (2, 20), (4, 0), (4, 1), (4, 2), (4, 3), (4, 4), (4, 5), (4, 6), (4, 7), (6, 0), (6, 1), (6, 2), (6, 3), (6, 4), (6, 5), (6, 6), (5, 0), (5, 1), (5, 2), (7, 0)] (by rfl) (by decide +kernel)
set_option maxRecDepth 20000 in
theorem gX9_scheduled_X3_sumOfFlows : GoodIn wsX9_scheduled (wsV RX9 144 RX3 yX3_sumOfFlows wsX3_sumOfFlows) := goodIn_app (goodIn_of _ (by decide +kernel)) ggX9_scheduled_X3_sumOfFlows
theorem dX9_scheduled_0 : decode cX9_scheduled 0 = .ok (.aload_n 0, 1) := by decide +kernel
theorem dX9_scheduled_1 : decode cX9_scheduled 1 = .ok (.iload_n 1, 1) := by decide +kernel
theorem dX9_scheduled_2 : decode cX9_scheduled 2 = .ok (.invokevirtual 31, 3) := by decide +kernel
theorem dX9_scheduled_5 : decode cX9_scheduled 5 = .ok (.astore 4, 2) := by decide +kernel
theorem dX9_scheduled_7 : decode cX9_scheduled 7 = .ok (.iload_n 2, 1) := by decide +kernel
theorem dX9_scheduled_8 : decode cX9_scheduled 8 = .ok (.aload_n 0, 1) := by decide +kernel
theorem dX9_scheduled_9 : decode cX9_scheduled 9 = .ok (.getfield 10, 3) := by decide +kernel
theorem dX9_scheduled_12 : decode cX9_scheduled 12 = .ok (.getfield 91, 3) := by decide +kernel
theorem dX9_scheduled_15 : decode cX9_scheduled 15 = .ok (.sipush 450, 3) := by decide +kernel
theorem dX9_scheduled_18 : decode cX9_scheduled 18 = .ok (.invokestatic 20, 3) := by decide +kernel
theorem dX9_scheduled_21 : decode cX9_scheduled 21 = .ok (.iload_n 3, 1) := by decide +kernel
theorem dX9_scheduled_22 : decode cX9_scheduled 22 = .ok (.iload_n 2, 1) := by decide +kernel
theorem dX9_scheduled_23 : decode cX9_scheduled 23 = .ok (.sipush 450, 3) := by decide +kernel
theorem dX9_scheduled_26 : decode cX9_scheduled 26 = .ok (.invokestatic 20, 3) := by decide +kernel
theorem dX9_scheduled_29 : decode cX9_scheduled 29 = .ok (.aload_n 0, 1) := by decide +kernel
theorem dX9_scheduled_30 : decode cX9_scheduled 30 = .ok (.getfield 10, 3) := by decide +kernel
theorem dX9_scheduled_33 : decode cX9_scheduled 33 = .ok (.aload 4, 2) := by decide +kernel
theorem dX9_scheduled_35 : decode cX9_scheduled 35 = .ok (.iload_n 2, 1) := by decide +kernel
theorem dX9_scheduled_36 : decode cX9_scheduled 36 = .ok (.iload_n 3, 1) := by decide +kernel
theorem dX9_scheduled_37 : decode cX9_scheduled 37 = .ok (.invokevirtual 144, 3) := by decide +kernel
theorem dX9_scheduled_40 : decode cX9_scheduled 40 = .ok (.lreturn, 1) := by decide +kernel
set_option maxRecDepth 20000 in
theorem ggX9_accounts_Jx4a65c_size_8abf5 : GoodIn wsX9_accounts wsJx4a65c_size_8abf5 := goodIn_r _ [7, 8, 18, 19, 20] (by decide +kernel) (by decide +kernel)
set_option maxRecDepth 20000 in
theorem gX9_accounts_Jx4a65c_size_8abf5 : GoodIn wsX9_accounts (wsV RX9 73 RJx4a65c yJx4a65c_size_8abf5 wsJx4a65c_size_8abf5) := goodIn_app (goodIn_of _ (by decide +kernel)) ggX9_accounts_Jx4a65c_size_8abf5
theorem dX9_accounts_0 : decode cX9_accounts 0 = .ok (.aload_n 0, 1) := by decide +kernel
theorem dX9_accounts_1 : decode cX9_accounts 1 = .ok (.getfield 10, 3) := by decide +kernel
theorem dX9_accounts_4 : decode cX9_accounts 4 = .ok (.getfield 148, 3) := by decide +kernel
theorem dX9_accounts_7 : decode cX9_accounts 7 = .ok (.invokevirtual 73, 3) := by decide +kernel
theorem dX9_accounts_10 : decode cX9_accounts 10 = .ok (.ireturn, 1) := by decide +kernel
def ch_wsX9_poolOf : List (List Cond) := [wsX9_poolOf_r1, wsX9_poolOf_r2, wsX00, wsX60, wsX90, wsX30, wsJx4a65c0]
theorem chm_wsX9_poolOf : ∀ c ∈ ch_wsX9_poolOf, ∀ w ∈ c, w ∈ wsX9_poolOf := List.forall_mem_cons.mpr ⟨(fun w h => (List.mem_cons_of_mem _ (List.mem_append_left _ (List.mem_append_left _ (List.mem_append_left _ (List.mem_append_left _ (List.mem_append_left _ (List.mem_append_left _ (List.mem_append_left _ h))))))))), List.forall_mem_cons.mpr ⟨(fun w h => (List.mem_cons_of_mem _ (List.mem_append_left _ (List.mem_append_left _ (List.mem_append_left _ (List.mem_append_left _ (List.mem_append_left _ (List.mem_append_left _ (List.mem_append_right _ h))))))))), List.forall_mem_cons.mpr ⟨(fun w h => (List.mem_cons_of_mem _ (List.mem_append_left _ (List.mem_append_left _ (List.mem_append_left _ (List.mem_append_left _ (List.mem_append_left _ (List.mem_append_right _ h)))))))), List.forall_mem_cons.mpr ⟨(fun w h => (List.mem_cons_of_mem _ (List.mem_append_left _ (List.mem_append_left _ (List.mem_append_left _ (List.mem_append_left _ (List.mem_append_right _ h))))))), List.forall_mem_cons.mpr ⟨(fun w h => (List.mem_cons_of_mem _ (List.mem_append_left _ (List.mem_append_left _ (List.mem_append_left _ (List.mem_append_right _ h)))))), List.forall_mem_cons.mpr ⟨(fun w h => (List.mem_cons_of_mem _ (List.mem_append_left _ (List.mem_append_left _ (List.mem_append_right _ h))))), List.forall_mem_cons.mpr ⟨(fun w h => (List.mem_cons_of_mem _ (List.mem_append_left _ (List.mem_append_right _ h)))), fun _ h => absurd h List.not_mem_nil⟩⟩⟩⟩⟩⟩⟩
set_option maxRecDepth 100000 in
set_option maxHeartbeats 4000000 in
theorem ggX9_poolOf_X9_accountAt : GoodIn wsX9_poolOf wsX9_accountAt := goodIn_ca (goodIn_k ch_wsX9_poolOf chm_wsX9_poolOf _ [(0, 6), (0, 7), (0, 8), (0, 9), (0, 10), (0, 11), (0, 12), (0, 13), (0, 14), (0, 15), (0, 16), (0, 17), (0, 18), (0, 19), (0, 20), (0, 21), (0, 22), (0, 23), (1, 0), (1, 1), (1, 2), (1, 3), (1, 4), (1, 5), (1, 6), (1, 7), (1, 8), (1, 9), (1, 10), (4, 0), (5, 0), (5, 1), (5, 2), (5, 3), (5, 4), (5, 5), (5, 6), (5, 7), (6, 0), (6, 1), (6, 2)] (by rfl) (by decide +kernel)) (goodIn_sub (fun _ h => List.mem_cons_of_mem _ (List.mem_append_right _ h)) (by decide +kernel))
set_option maxRecDepth 20000 in
theorem gX9_poolOf_X9_accountAt : GoodIn wsX9_poolOf (wsV RX9 31 RX9 yX9_accountAt wsX9_accountAt) := goodIn_app (goodIn_of _ (by decide +kernel)) ggX9_poolOf_X9_accountAt
theorem dX9_poolOf_0 : decode cX9_poolOf 0 = .ok (.aload_n 0, 1) := by decide +kernel
theorem dX9_poolOf_1 : decode cX9_poolOf 1 = .ok (.iload_n 1, 1) := by decide +kernel
theorem dX9_poolOf_2 : decode cX9_poolOf 2 = .ok (.invokevirtual 31, 3) := by decide +kernel
theorem dX9_poolOf_5 : decode cX9_poolOf 5 = .ok (.getfield 151, 3) := by decide +kernel
theorem dX9_poolOf_8 : decode cX9_poolOf 8 = .ok (.getfield 155, 3) := by decide +kernel
theorem dX9_poolOf_11 : decode cX9_poolOf 11 = .ok (.ireturn, 1) := by decide +kernel
def ch_wsX9_balance : List (List Cond) := [wsX9_balance_r1, wsX9_balance_r2, wsX00, wsX90, wsX30, wsJx4a65c0]
theorem chm_wsX9_balance : ∀ c ∈ ch_wsX9_balance, ∀ w ∈ c, w ∈ wsX9_balance := List.forall_mem_cons.mpr ⟨(fun w h => (List.mem_cons_of_mem _ (List.mem_append_left _ (List.mem_append_left _ (List.mem_append_left _ (List.mem_append_left _ (List.mem_append_left _ (List.mem_append_left _ h)))))))), List.forall_mem_cons.mpr ⟨(fun w h => (List.mem_cons_of_mem _ (List.mem_append_left _ (List.mem_append_left _ (List.mem_append_left _ (List.mem_append_left _ (List.mem_append_left _ (List.mem_append_right _ h)))))))), List.forall_mem_cons.mpr ⟨(fun w h => (List.mem_cons_of_mem _ (List.mem_append_left _ (List.mem_append_left _ (List.mem_append_left _ (List.mem_append_left _ (List.mem_append_right _ h))))))), List.forall_mem_cons.mpr ⟨(fun w h => (List.mem_cons_of_mem _ (List.mem_append_left _ (List.mem_append_left _ (List.mem_append_left _ (List.mem_append_right _ h)))))), List.forall_mem_cons.mpr ⟨(fun w h => (List.mem_cons_of_mem _ (List.mem_append_left _ (List.mem_append_left _ (List.mem_append_right _ h))))), List.forall_mem_cons.mpr ⟨(fun w h => (List.mem_cons_of_mem _ (List.mem_append_left _ (List.mem_append_right _ h)))), fun _ h => absurd h List.not_mem_nil⟩⟩⟩⟩⟩⟩
set_option maxRecDepth 100000 in
set_option maxHeartbeats 4000000 in
theorem ggX9_balance_X9_accountAt : GoodIn wsX9_balance wsX9_accountAt := goodIn_ca (goodIn_k ch_wsX9_balance chm_wsX9_balance _ [(0, 5), (0, 6), (0, 7), (0, 8), (0, 9), (0, 10), (0, 11), (0, 12), (0, 13), (0, 14), (0, 15), (0, 16), (0, 17), (0, 18), (0, 19), (0, 20), (0, 21), (0, 22), (0, 23), (1, 0), (1, 1), (1, 2), (1, 3), (1, 4), (1, 5), (1, 6), (1, 7), (1, 8), (1, 9), (3, 0), (4, 0), (4, 1), (4, 2), (4, 3), (4, 4), (4, 5), (4, 6), (4, 7), (5, 0), (5, 1), (5, 2)] (by rfl) (by decide +kernel)) (goodIn_sub (fun _ h => List.mem_cons_of_mem _ (List.mem_append_right _ h)) (by decide +kernel))
set_option maxRecDepth 20000 in
theorem gX9_balance_X9_accountAt : GoodIn wsX9_balance (wsV RX9 31 RX9 yX9_accountAt wsX9_accountAt) := goodIn_app (goodIn_of _ (by decide +kernel)) ggX9_balance_X9_accountAt
theorem dX9_balance_0 : decode cX9_balance 0 = .ok (.aload_n 0, 1) := by decide +kernel
theorem dX9_balance_1 : decode cX9_balance 1 = .ok (.iload_n 1, 1) := by decide +kernel
theorem dX9_balance_2 : decode cX9_balance 2 = .ok (.invokevirtual 31, 3) := by decide +kernel
theorem dX9_balance_5 : decode cX9_balance 5 = .ok (.getfield 119, 3) := by decide +kernel
theorem dX9_balance_8 : decode cX9_balance 8 = .ok (.lreturn, 1) := by decide +kernel
def ch_wsX9_total : List (List Cond) := [wsX9_total_r1, wsX9_total_r2, wsX90, wsX30, wsJx4a65c0, wsX00]
theorem chm_wsX9_total : ∀ c ∈ ch_wsX9_total, ∀ w ∈ c, w ∈ wsX9_total := List.forall_mem_cons.mpr ⟨(fun w h => (List.mem_cons_of_mem _ (List.mem_append_left _ (List.mem_append_left _ (List.mem_append_left _ (List.mem_append_left _ (List.mem_append_left _ (List.mem_append_left _ h)))))))), List.forall_mem_cons.mpr ⟨(fun w h => (List.mem_cons_of_mem _ (List.mem_append_left _ (List.mem_append_left _ (List.mem_append_left _ (List.mem_append_left _ (List.mem_append_left _ (List.mem_append_right _ h)))))))), List.forall_mem_cons.mpr ⟨(fun w h => (List.mem_cons_of_mem _ (List.mem_append_left _ (List.mem_append_left _ (List.mem_append_left _ (List.mem_append_left _ (List.mem_append_right _ h))))))), List.forall_mem_cons.mpr ⟨(fun w h => (List.mem_cons_of_mem _ (List.mem_append_left _ (List.mem_append_left _ (List.mem_append_left _ (List.mem_append_right _ h)))))), List.forall_mem_cons.mpr ⟨(fun w h => (List.mem_cons_of_mem _ (List.mem_append_left _ (List.mem_append_left _ (List.mem_append_right _ h))))), List.forall_mem_cons.mpr ⟨(fun w h => (List.mem_cons_of_mem _ (List.mem_append_left _ (List.mem_append_right _ h)))), fun _ h => absurd h List.not_mem_nil⟩⟩⟩⟩⟩⟩
set_option maxRecDepth 100000 in
set_option maxHeartbeats 4000000 in
theorem ggX9_total_X9_accountAt : GoodIn wsX9_total wsX9_accountAt := goodIn_ca (goodIn_k ch_wsX9_total chm_wsX9_total _ [(0, 4), (0, 5), (0, 6), (0, 7), (0, 8), (0, 9), (0, 10), (0, 11), (0, 12), (0, 13), (0, 14), (0, 15), (0, 16), (0, 17), (0, 18), (0, 19), (0, 20), (0, 21), (0, 22), (0, 23), (1, 0), (1, 1), (1, 2), (1, 3), (1, 4), (1, 5), (1, 6), (1, 7), (1, 8), (2, 0), (3, 0), (3, 1), (3, 2), (3, 3), (3, 4), (3, 5), (3, 6), (3, 7), (4, 0), (4, 1), (4, 2)] (by rfl) (by decide +kernel)) (goodIn_sub (fun _ h => List.mem_cons_of_mem _ (List.mem_append_right _ h)) (by decide +kernel))
set_option maxRecDepth 20000 in
theorem gX9_total_X9_accountAt : GoodIn wsX9_total (wsV RX9 31 RX9 yX9_accountAt wsX9_accountAt) := goodIn_app (goodIn_of _ (by decide +kernel)) ggX9_total_X9_accountAt
set_option maxRecDepth 100000 in
set_option maxHeartbeats 4000000 in
theorem ggX9_total_X8_sumFrom : GoodIn wsX9_total wsX8_sumFrom := goodIn_k ch_wsX9_total chm_wsX9_total _ [(1, 11), (1, 12), (1, 13), (1, 14), (1, 15), (0, 11), (0, 12), (0, 13), (0, 14), (0, 15), (1, 16), (0, 17), (0, 18), (0, 19), (0, 20), (0, 21), (0, 22), (0, 23), (1, 0), (1, 1), (1, 2), (1, 3), (1, 4), (1, 5), (1, 6), (1, 7), (1, 8), (1, 17), (1, 9), (1, 10), (5, 0), (5, 1), (5, 2), (5, 3), (5, 4), (5, 5), (5, 6), (5, 7), (5, 8), (5, 9), (5, 10), (5, 11), (4, 0), (4, 1), (4, 2)] (by rfl) (by decide +kernel)
set_option maxRecDepth 20000 in
theorem gX9_total_X8_sumFrom_n160 : GoodIn wsX9_total (wsX8_sumFrom) := ggX9_total_X8_sumFrom
theorem dX9_total_0 : decode cX9_total 0 = .ok (.aload_n 0, 1) := by decide +kernel
theorem dX9_total_1 : decode cX9_total 1 = .ok (.iload_n 1, 1) := by decide +kernel
theorem dX9_total_2 : decode cX9_total 2 = .ok (.invokevirtual 31, 3) := by decide +kernel
theorem dX9_total_5 : decode cX9_total 5 = .ok (.iconst 0, 1) := by decide +kernel
theorem dX9_total_6 : decode cX9_total 6 = .ok (.invokestatic 160, 3) := by decide +kernel
theorem dX9_total_9 : decode cX9_total 9 = .ok (.lreturn, 1) := by decide +kernel
def ch_wsX9_exposure : List (List Cond) := [wsX9_exposure_r1, wsX9_exposure_r2, wsX9_exposure_r3, wsX90, wsX10, wsX30, wsJx4a65c0, wsX00]
theorem chm_wsX9_exposure : ∀ c ∈ ch_wsX9_exposure, ∀ w ∈ c, w ∈ wsX9_exposure := List.forall_mem_cons.mpr ⟨(fun w h => (List.mem_cons_of_mem _ (List.mem_append_left _ (List.mem_append_left _ (List.mem_append_left _ (List.mem_append_left _ (List.mem_append_left _ (List.mem_append_left _ (List.mem_append_left _ h))))))))), List.forall_mem_cons.mpr ⟨(fun w h => (List.mem_cons_of_mem _ (List.mem_append_left _ (List.mem_append_left _ (List.mem_append_left _ (List.mem_append_left _ (List.mem_append_left _ (List.mem_append_left _ (List.mem_append_right _ (List.mem_append_left _ h)))))))))), List.forall_mem_cons.mpr ⟨(fun w h => (List.mem_cons_of_mem _ (List.mem_append_left _ (List.mem_append_left _ (List.mem_append_left _ (List.mem_append_left _ (List.mem_append_left _ (List.mem_append_left _ (List.mem_append_right _ (List.mem_append_right _ h)))))))))), List.forall_mem_cons.mpr ⟨(fun w h => (List.mem_cons_of_mem _ (List.mem_append_left _ (List.mem_append_left _ (List.mem_append_left _ (List.mem_append_left _ (List.mem_append_left _ (List.mem_append_right _ h)))))))), List.forall_mem_cons.mpr ⟨(fun w h => (List.mem_cons_of_mem _ (List.mem_append_left _ (List.mem_append_left _ (List.mem_append_left _ (List.mem_append_left _ (List.mem_append_right _ h))))))), List.forall_mem_cons.mpr ⟨(fun w h => (List.mem_cons_of_mem _ (List.mem_append_left _ (List.mem_append_left _ (List.mem_append_left _ (List.mem_append_right _ h)))))), List.forall_mem_cons.mpr ⟨(fun w h => (List.mem_cons_of_mem _ (List.mem_append_left _ (List.mem_append_left _ (List.mem_append_right _ h))))), List.forall_mem_cons.mpr ⟨(fun w h => (List.mem_cons_of_mem _ (List.mem_append_left _ (List.mem_append_right _ h)))), fun _ h => absurd h List.not_mem_nil⟩⟩⟩⟩⟩⟩⟩⟩
set_option maxRecDepth 100000 in
set_option maxHeartbeats 4000000 in
theorem ggX9_exposure_X9_bankAt : GoodIn wsX9_exposure wsX9_bankAt := goodIn_ca (goodIn_k ch_wsX9_exposure chm_wsX9_exposure _ [(0, 6), (0, 7), (0, 8), (0, 0), (0, 9), (0, 10), (0, 11), (0, 12), (0, 13), (0, 14), (0, 15), (0, 16), (0, 17), (0, 18), (0, 19), (0, 20), (0, 21), (0, 22), (0, 23), (1, 0), (1, 1), (1, 2), (1, 3), (1, 4), (1, 5), (1, 6), (1, 7), (1, 8), (1, 9), (3, 0), (5, 0), (5, 1), (5, 2), (5, 3), (5, 4), (5, 5), (5, 6), (5, 7), (6, 0), (6, 1), (6, 2)] (by rfl) (by decide +kernel)) (goodIn_sub (fun _ h => List.mem_cons_of_mem _ (List.mem_append_right _ h)) (by decide +kernel))
set_option maxRecDepth 20000 in
theorem gX9_exposure_X9_bankAt : GoodIn wsX9_exposure (wsV RX9 16 RX9 yX9_bankAt wsX9_bankAt) := goodIn_app (goodIn_of _ (by decide +kernel)) ggX9_exposure_X9_bankAt
set_option maxRecDepth 100000 in
set_option maxHeartbeats 4000000 in
theorem ggX9_exposure_X3_measureBanks : GoodIn wsX9_exposure wsX3_measureBanks := goodIn_k ch_wsX9_exposure chm_wsX9_exposure _ [(1, 14), (1, 15), (1, 16), (1, 17), (1, 18), (1, 19), (1, 20), (1, 21), (1, 22), (1, 23), (2, 0), (2, 1), (2, 2), (0, 12), (0, 13), (0, 14), (0, 15), (0, 16), (2, 3), (0, 18), (0, 19), (0, 20), (0, 21), (0, 22), (0, 23), (1, 0), (1, 1), (1, 2), (1, 3), (1, 4), (1, 5), (1, 6), (1, 7), (1, 8), (1, 9), (5, 0), (5, 1), (5, 2), (5, 3), (5, 4), (5, 5), (5, 6), (5, 7), (4, 0), (4, 1), (4, 2), (7, 0), (7, 1), (7, 2), (7, 3), (7, 4), (7, 5), (7, 6), (7, 7), (7, 8), (7, 9), (7, 10), (7, 11), (6, 0), (6, 1), (6, 2)] (by rfl) (by decide +kernel)
set_option maxRecDepth 20000 in
theorem gX9_exposure_X3_measureBanks : GoodIn wsX9_exposure (wsV RX9 166 RX3 yX3_measureBanks wsX3_measureBanks) := goodIn_app (goodIn_of _ (by decide +kernel)) ggX9_exposure_X3_measureBanks
theorem dX9_exposure_0 : decode cX9_exposure 0 = .ok (.aload_n 0, 1) := by decide +kernel
theorem dX9_exposure_1 : decode cX9_exposure 1 = .ok (.iload_n 1, 1) := by decide +kernel
theorem dX9_exposure_2 : decode cX9_exposure 2 = .ok (.invokevirtual 16, 3) := by decide +kernel
theorem dX9_exposure_5 : decode cX9_exposure 5 = .ok (.astore_n 2, 1) := by decide +kernel
theorem dX9_exposure_6 : decode cX9_exposure 6 = .ok (.aload_n 0, 1) := by decide +kernel
theorem dX9_exposure_7 : decode cX9_exposure 7 = .ok (.getfield 10, 3) := by decide +kernel
theorem dX9_exposure_10 : decode cX9_exposure 10 = .ok (.invokevirtual 166, 3) := by decide +kernel
theorem dX9_exposure_13 : decode cX9_exposure 13 = .ok (.aload_n 2, 1) := by decide +kernel
theorem dX9_exposure_14 : decode cX9_exposure 14 = .ok (.getfield 169, 3) := by decide +kernel
theorem dX9_exposure_17 : decode cX9_exposure 17 = .ok (.lreturn, 1) := by decide +kernel
def ch_wsX9_drawn : List (List Cond) := [wsX9_drawn_r1, wsX9_drawn_r2, wsX50, wsX90, wsX30, wsJx4a65c0]
theorem chm_wsX9_drawn : ∀ c ∈ ch_wsX9_drawn, ∀ w ∈ c, w ∈ wsX9_drawn := List.forall_mem_cons.mpr ⟨(fun w h => (List.mem_cons_of_mem _ (List.mem_append_left _ (List.mem_append_left _ (List.mem_append_left _ (List.mem_append_left _ (List.mem_append_left _ (List.mem_append_left _ h)))))))), List.forall_mem_cons.mpr ⟨(fun w h => (List.mem_cons_of_mem _ (List.mem_append_left _ (List.mem_append_left _ (List.mem_append_left _ (List.mem_append_left _ (List.mem_append_left _ (List.mem_append_right _ h)))))))), List.forall_mem_cons.mpr ⟨(fun w h => (List.mem_cons_of_mem _ (List.mem_append_left _ (List.mem_append_left _ (List.mem_append_left _ (List.mem_append_left _ (List.mem_append_right _ h))))))), List.forall_mem_cons.mpr ⟨(fun w h => (List.mem_cons_of_mem _ (List.mem_append_left _ (List.mem_append_left _ (List.mem_append_left _ (List.mem_append_right _ h)))))), List.forall_mem_cons.mpr ⟨(fun w h => (List.mem_cons_of_mem _ (List.mem_append_left _ (List.mem_append_left _ (List.mem_append_right _ h))))), List.forall_mem_cons.mpr ⟨(fun w h => (List.mem_cons_of_mem _ (List.mem_append_left _ (List.mem_append_right _ h)))), fun _ h => absurd h List.not_mem_nil⟩⟩⟩⟩⟩⟩
set_option maxRecDepth 100000 in
set_option maxHeartbeats 4000000 in
theorem ggX9_drawn_X9_lineAt : GoodIn wsX9_drawn wsX9_lineAt := goodIn_ca (goodIn_k ch_wsX9_drawn chm_wsX9_drawn _ [(0, 5), (0, 6), (0, 7), (0, 8), (0, 9), (0, 10), (0, 11), (0, 12), (0, 13), (0, 14), (0, 15), (0, 16), (0, 17), (0, 18), (0, 19), (0, 20), (0, 21), (0, 22), (0, 23), (1, 0), (1, 1), (1, 2), (1, 3), (1, 4), (1, 5), (1, 6), (1, 7), (1, 8), (1, 9), (3, 0), (4, 0), (4, 1), (4, 2), (4, 3), (4, 4), (4, 5), (4, 6), (4, 7), (5, 0), (5, 1), (5, 2)] (by rfl) (by decide +kernel)) (goodIn_sub (fun _ h => List.mem_cons_of_mem _ (List.mem_append_right _ h)) (by decide +kernel))
set_option maxRecDepth 20000 in
theorem gX9_drawn_X9_lineAt : GoodIn wsX9_drawn (wsV RX9 172 RX9 yX9_lineAt wsX9_lineAt) := goodIn_app (goodIn_of _ (by decide +kernel)) ggX9_drawn_X9_lineAt
theorem dX9_drawn_0 : decode cX9_drawn 0 = .ok (.aload_n 0, 1) := by decide +kernel
theorem dX9_drawn_1 : decode cX9_drawn 1 = .ok (.iload_n 1, 1) := by decide +kernel
theorem dX9_drawn_2 : decode cX9_drawn 2 = .ok (.invokevirtual 172, 3) := by decide +kernel
theorem dX9_drawn_5 : decode cX9_drawn 5 = .ok (.getfield 176, 3) := by decide +kernel
theorem dX9_drawn_8 : decode cX9_drawn 8 = .ok (.l2i, 1) := by decide +kernel
theorem dX9_drawn_9 : decode cX9_drawn 9 = .ok (.ireturn, 1) := by decide +kernel
def ch_wsX9_costOf : List (List Cond) := [wsX9_costOf_r1, wsX9_costOf_r2, wsX50, wsX90, wsX30, wsJx4a65c0]
theorem chm_wsX9_costOf : ∀ c ∈ ch_wsX9_costOf, ∀ w ∈ c, w ∈ wsX9_costOf := List.forall_mem_cons.mpr ⟨(fun w h => (List.mem_cons_of_mem _ (List.mem_append_left _ (List.mem_append_left _ (List.mem_append_left _ (List.mem_append_left _ (List.mem_append_left _ (List.mem_append_left _ h)))))))), List.forall_mem_cons.mpr ⟨(fun w h => (List.mem_cons_of_mem _ (List.mem_append_left _ (List.mem_append_left _ (List.mem_append_left _ (List.mem_append_left _ (List.mem_append_left _ (List.mem_append_right _ h)))))))), List.forall_mem_cons.mpr ⟨(fun w h => (List.mem_cons_of_mem _ (List.mem_append_left _ (List.mem_append_left _ (List.mem_append_left _ (List.mem_append_left _ (List.mem_append_right _ h))))))), List.forall_mem_cons.mpr ⟨(fun w h => (List.mem_cons_of_mem _ (List.mem_append_left _ (List.mem_append_left _ (List.mem_append_left _ (List.mem_append_right _ h)))))), List.forall_mem_cons.mpr ⟨(fun w h => (List.mem_cons_of_mem _ (List.mem_append_left _ (List.mem_append_left _ (List.mem_append_right _ h))))), List.forall_mem_cons.mpr ⟨(fun w h => (List.mem_cons_of_mem _ (List.mem_append_left _ (List.mem_append_right _ h)))), fun _ h => absurd h List.not_mem_nil⟩⟩⟩⟩⟩⟩
set_option maxRecDepth 100000 in
set_option maxHeartbeats 4000000 in
theorem ggX9_costOf_X9_lineAt : GoodIn wsX9_costOf wsX9_lineAt := goodIn_ca (goodIn_k ch_wsX9_costOf chm_wsX9_costOf _ [(0, 5), (0, 6), (0, 7), (0, 8), (0, 9), (0, 10), (0, 11), (0, 12), (0, 13), (0, 14), (0, 15), (0, 16), (0, 17), (0, 18), (0, 19), (0, 20), (0, 21), (0, 22), (0, 23), (1, 0), (1, 1), (1, 2), (1, 3), (1, 4), (1, 5), (1, 6), (1, 7), (1, 8), (1, 9), (3, 0), (4, 0), (4, 1), (4, 2), (4, 3), (4, 4), (4, 5), (4, 6), (4, 7), (5, 0), (5, 1), (5, 2)] (by rfl) (by decide +kernel)) (goodIn_sub (fun _ h => List.mem_cons_of_mem _ (List.mem_append_right _ h)) (by decide +kernel))
set_option maxRecDepth 20000 in
theorem gX9_costOf_X9_lineAt : GoodIn wsX9_costOf (wsV RX9 172 RX9 yX9_lineAt wsX9_lineAt) := goodIn_app (goodIn_of _ (by decide +kernel)) ggX9_costOf_X9_lineAt
theorem dX9_costOf_0 : decode cX9_costOf 0 = .ok (.aload_n 0, 1) := by decide +kernel
theorem dX9_costOf_1 : decode cX9_costOf 1 = .ok (.iload_n 1, 1) := by decide +kernel
theorem dX9_costOf_2 : decode cX9_costOf 2 = .ok (.invokevirtual 172, 3) := by decide +kernel
theorem dX9_costOf_5 : decode cX9_costOf 5 = .ok (.getfield 181, 3) := by decide +kernel
theorem dX9_costOf_8 : decode cX9_costOf 8 = .ok (.lreturn, 1) := by decide +kernel
def ch_wsX9_interestOf : List (List Cond) := [wsX9_interestOf_r1, wsX9_interestOf_r2, wsX00, wsX90, wsX30, wsJx4a65c0]
theorem chm_wsX9_interestOf : ∀ c ∈ ch_wsX9_interestOf, ∀ w ∈ c, w ∈ wsX9_interestOf := List.forall_mem_cons.mpr ⟨(fun w h => (List.mem_cons_of_mem _ (List.mem_append_left _ (List.mem_append_left _ (List.mem_append_left _ (List.mem_append_left _ (List.mem_append_left _ (List.mem_append_left _ h)))))))), List.forall_mem_cons.mpr ⟨(fun w h => (List.mem_cons_of_mem _ (List.mem_append_left _ (List.mem_append_left _ (List.mem_append_left _ (List.mem_append_left _ (List.mem_append_left _ (List.mem_append_right _ h)))))))), List.forall_mem_cons.mpr ⟨(fun w h => (List.mem_cons_of_mem _ (List.mem_append_left _ (List.mem_append_left _ (List.mem_append_left _ (List.mem_append_left _ (List.mem_append_right _ h))))))), List.forall_mem_cons.mpr ⟨(fun w h => (List.mem_cons_of_mem _ (List.mem_append_left _ (List.mem_append_left _ (List.mem_append_left _ (List.mem_append_right _ h)))))), List.forall_mem_cons.mpr ⟨(fun w h => (List.mem_cons_of_mem _ (List.mem_append_left _ (List.mem_append_left _ (List.mem_append_right _ h))))), List.forall_mem_cons.mpr ⟨(fun w h => (List.mem_cons_of_mem _ (List.mem_append_left _ (List.mem_append_right _ h)))), fun _ h => absurd h List.not_mem_nil⟩⟩⟩⟩⟩⟩
set_option maxRecDepth 100000 in
set_option maxHeartbeats 4000000 in
theorem ggX9_interestOf_X9_accountAt : GoodIn wsX9_interestOf wsX9_accountAt := goodIn_ca (goodIn_k ch_wsX9_interestOf chm_wsX9_interestOf _ [(0, 5), (0, 6), (0, 7), (0, 8), (0, 9), (0, 10), (0, 11), (0, 12), (0, 13), (0, 14), (0, 15), (0, 16), (0, 17), (0, 18), (0, 19), (0, 20), (0, 21), (0, 22), (0, 23), (1, 0), (1, 1), (1, 2), (1, 3), (1, 4), (1, 5), (1, 6), (1, 7), (1, 8), (1, 9), (3, 0), (4, 0), (4, 1), (4, 2), (4, 3), (4, 4), (4, 5), (4, 6), (4, 7), (5, 0), (5, 1), (5, 2)] (by rfl) (by decide +kernel)) (goodIn_sub (fun _ h => List.mem_cons_of_mem _ (List.mem_append_right _ h)) (by decide +kernel))
set_option maxRecDepth 20000 in
theorem gX9_interestOf_X9_accountAt : GoodIn wsX9_interestOf (wsV RX9 31 RX9 yX9_accountAt wsX9_accountAt) := goodIn_app (goodIn_of _ (by decide +kernel)) ggX9_interestOf_X9_accountAt
theorem dX9_interestOf_0 : decode cX9_interestOf 0 = .ok (.aload_n 0, 1) := by decide +kernel
theorem dX9_interestOf_1 : decode cX9_interestOf 1 = .ok (.iload_n 1, 1) := by decide +kernel
theorem dX9_interestOf_2 : decode cX9_interestOf 2 = .ok (.invokevirtual 31, 3) := by decide +kernel
theorem dX9_interestOf_5 : decode cX9_interestOf 5 = .ok (.getfield 184, 3) := by decide +kernel
theorem dX9_interestOf_8 : decode cX9_interestOf 8 = .ok (.lreturn, 1) := by decide +kernel
def ch_wsX9_poolInterest : List (List Cond) := [wsX9_poolInterest_r1, wsX9_poolInterest_r2, wsX00, wsX60, wsX70, wsX90, wsX30, wsJx4a65c0]
theorem chm_wsX9_poolInterest : ∀ c ∈ ch_wsX9_poolInterest, ∀ w ∈ c, w ∈ wsX9_poolInterest := List.forall_mem_cons.mpr ⟨(fun w h => (List.mem_cons_of_mem _ (List.mem_append_left _ (List.mem_append_left _ (List.mem_append_left _ (List.mem_append_left _ (List.mem_append_left _ (List.mem_append_left _ (List.mem_append_left _ (List.mem_append_left _ (List.mem_append_left _ h))))))))))), List.forall_mem_cons.mpr ⟨(fun w h => (List.mem_cons_of_mem _ (List.mem_append_left _ (List.mem_append_left _ (List.mem_append_left _ (List.mem_append_left _ (List.mem_append_left _ (List.mem_append_left _ (List.mem_append_left _ (List.mem_append_left _ (List.mem_append_right _ h))))))))))), List.forall_mem_cons.mpr ⟨(fun w h => (List.mem_cons_of_mem _ (List.mem_append_left _ (List.mem_append_left _ (List.mem_append_left _ (List.mem_append_left _ (List.mem_append_left _ (List.mem_append_left _ (List.mem_append_left _ (List.mem_append_right _ h)))))))))), List.forall_mem_cons.mpr ⟨(fun w h => (List.mem_cons_of_mem _ (List.mem_append_left _ (List.mem_append_left _ (List.mem_append_left _ (List.mem_append_left _ (List.mem_append_left _ (List.mem_append_left _ (List.mem_append_right _ h))))))))), List.forall_mem_cons.mpr ⟨(fun w h => (List.mem_cons_of_mem _ (List.mem_append_left _ (List.mem_append_left _ (List.mem_append_left _ (List.mem_append_left _ (List.mem_append_left _ (List.mem_append_right _ h)))))))), List.forall_mem_cons.mpr ⟨(fun w h => (List.mem_cons_of_mem _ (List.mem_append_left _ (List.mem_append_left _ (List.mem_append_left _ (List.mem_append_left _ (List.mem_append_right _ h))))))), List.forall_mem_cons.mpr ⟨(fun w h => (List.mem_cons_of_mem _ (List.mem_append_left _ (List.mem_append_left _ (List.mem_append_left _ (List.mem_append_right _ h)))))), List.forall_mem_cons.mpr ⟨(fun w h => (List.mem_cons_of_mem _ (List.mem_append_left _ (List.mem_append_left _ (List.mem_append_right _ h))))), fun _ h => absurd h List.not_mem_nil⟩⟩⟩⟩⟩⟩⟩⟩
set_option maxRecDepth 100000 in
set_option maxHeartbeats 4000000 in
theorem ggX9_poolInterest_X9_accountAt : GoodIn wsX9_poolInterest wsX9_accountAt := goodIn_ca (goodIn_k ch_wsX9_poolInterest chm_wsX9_poolInterest _ [(0, 8), (0, 9), (0, 10), (0, 11), (0, 12), (0, 13), (0, 14), (0, 15), (0, 16), (0, 17), (0, 18), (0, 19), (0, 20), (0, 21), (0, 22), (0, 23), (1, 0), (1, 1), (1, 2), (1, 3), (1, 4), (1, 5), (1, 6), (1, 7), (1, 8), (1, 9), (1, 10), (1, 11), (1, 12), (5, 0), (6, 0), (6, 1), (6, 2), (6, 3), (6, 4), (6, 5), (6, 6), (6, 7), (7, 0), (7, 1), (7, 2)] (by rfl) (by decide +kernel)) (goodIn_sub (fun _ h => List.mem_cons_of_mem _ (List.mem_append_left _ (List.mem_append_right _ h))) (by decide +kernel))
set_option maxRecDepth 20000 in
theorem gX9_poolInterest_X9_accountAt : GoodIn wsX9_poolInterest (wsV RX9 31 RX9 yX9_accountAt wsX9_accountAt) := goodIn_app (goodIn_of _ (by decide +kernel)) ggX9_poolInterest_X9_accountAt
set_option maxRecDepth 100000 in
set_option maxHeartbeats 4000000 in
theorem ggX9_poolInterest_X9_requireTop : GoodIn wsX9_poolInterest wsX9_requireTop := goodIn_ca (goodIn_k ch_wsX9_poolInterest chm_wsX9_poolInterest _ [(1, 15), (1, 16), (1, 17), (1, 18), (2, 0), (2, 1), (2, 2), (2, 3), (2, 4), (2, 5), (2, 6), (2, 7), (2, 8), (2, 9), (2, 10), (2, 11)] (by rfl) (by decide +kernel)) (goodIn_sub (fun _ h => List.mem_cons_of_mem _ (List.mem_append_right _ h)) (by decide +kernel))
set_option maxRecDepth 20000 in
theorem gX9_poolInterest_X9_requireTop : GoodIn wsX9_poolInterest (va_wsS RX9 65 yX9_requireTop wsX9_requireTop) := goodIn_app (goodIn_of _ (by decide +kernel)) ggX9_poolInterest_X9_requireTop
theorem dX9_poolInterest_0 : decode cX9_poolInterest 0 = .ok (.aload_n 0, 1) := by decide +kernel
theorem dX9_poolInterest_1 : decode cX9_poolInterest 1 = .ok (.iload_n 1, 1) := by decide +kernel
theorem dX9_poolInterest_2 : decode cX9_poolInterest 2 = .ok (.invokevirtual 31, 3) := by decide +kernel
theorem dX9_poolInterest_5 : decode cX9_poolInterest 5 = .ok (.astore_n 2, 1) := by decide +kernel
theorem dX9_poolInterest_6 : decode cX9_poolInterest 6 = .ok (.aload_n 2, 1) := by decide +kernel
theorem dX9_poolInterest_7 : decode cX9_poolInterest 7 = .ok (.invokestatic 65, 3) := by decide +kernel
theorem dX9_poolInterest_10 : decode cX9_poolInterest 10 = .ok (.aload_n 2, 1) := by decide +kernel
theorem dX9_poolInterest_11 : decode cX9_poolInterest 11 = .ok (.getfield 151, 3) := by decide +kernel
theorem dX9_poolInterest_14 : decode cX9_poolInterest 14 = .ok (.getfield 187, 3) := by decide +kernel
theorem dX9_poolInterest_17 : decode cX9_poolInterest 17 = .ok (.getfield 191, 3) := by decide +kernel
theorem dX9_poolInterest_20 : decode cX9_poolInterest 20 = .ok (.aload_n 2, 1) := by decide +kernel
theorem dX9_poolInterest_21 : decode cX9_poolInterest 21 = .ok (.getfield 151, 3) := by decide +kernel
theorem dX9_poolInterest_24 : decode cX9_poolInterest 24 = .ok (.getfield 196, 3) := by decide +kernel
theorem dX9_poolInterest_27 : decode cX9_poolInterest 27 = .ok (.getfield 191, 3) := by decide +kernel
theorem dX9_poolInterest_30 : decode cX9_poolInterest 30 = .ok (.lsub, 1) := by decide +kernel
theorem dX9_poolInterest_31 : decode cX9_poolInterest 31 = .ok (.lreturn, 1) := by decide +kernel
def ch_wsX9_afterSweep : List (List Cond) := [wsX9_afterSweep_r1, wsX9_afterSweep_r2, wsX9_afterSweep_r3, wsX9_afterSweep_r4, wsX90, wsX30, wsJx4a65c0, wsX00]
theorem chm_wsX9_afterSweep : ∀ c ∈ ch_wsX9_afterSweep, ∀ w ∈ c, w ∈ wsX9_afterSweep := List.forall_mem_cons.mpr ⟨(fun w h => (List.mem_cons_of_mem _ (List.mem_append_left _ (List.mem_append_left _ (List.mem_append_left _ (List.mem_append_left _ (List.mem_append_left _ (List.mem_append_left _ h)))))))), List.forall_mem_cons.mpr ⟨(fun w h => (List.mem_cons_of_mem _ (List.mem_append_left _ (List.mem_append_left _ (List.mem_append_left _ (List.mem_append_left _ (List.mem_append_left _ (List.mem_append_right _ (List.mem_append_left _ h))))))))), List.forall_mem_cons.mpr ⟨(fun w h => (List.mem_cons_of_mem _ (List.mem_append_left _ (List.mem_append_left _ (List.mem_append_left _ (List.mem_append_left _ (List.mem_append_left _ (List.mem_append_right _ (List.mem_append_right _ (List.mem_append_left _ h)))))))))), List.forall_mem_cons.mpr ⟨(fun w h => (List.mem_cons_of_mem _ (List.mem_append_left _ (List.mem_append_left _ (List.mem_append_left _ (List.mem_append_left _ (List.mem_append_left _ (List.mem_append_right _ (List.mem_append_right _ (List.mem_append_right _ h)))))))))), List.forall_mem_cons.mpr ⟨(fun w h => (List.mem_cons_of_mem _ (List.mem_append_left _ (List.mem_append_left _ (List.mem_append_left _ (List.mem_append_left _ (List.mem_append_right _ h))))))), List.forall_mem_cons.mpr ⟨(fun w h => (List.mem_cons_of_mem _ (List.mem_append_left _ (List.mem_append_left _ (List.mem_append_left _ (List.mem_append_right _ h)))))), List.forall_mem_cons.mpr ⟨(fun w h => (List.mem_cons_of_mem _ (List.mem_append_left _ (List.mem_append_left _ (List.mem_append_right _ h))))), List.forall_mem_cons.mpr ⟨(fun w h => (List.mem_cons_of_mem _ (List.mem_append_left _ (List.mem_append_right _ h)))), fun _ h => absurd h List.not_mem_nil⟩⟩⟩⟩⟩⟩⟩⟩
set_option maxRecDepth 100000 in
set_option maxHeartbeats 4000000 in
theorem ggX9_afterSweep_X9_accountAt : GoodIn wsX9_afterSweep wsX9_accountAt := goodIn_ca (goodIn_k ch_wsX9_afterSweep chm_wsX9_afterSweep _ [(0, 4), (0, 5), (0, 6), (0, 7), (0, 8), (0, 9), (0, 10), (0, 11), (0, 12), (0, 13), (0, 14), (0, 15), (0, 16), (0, 17), (0, 18), (0, 19), (0, 20), (0, 21), (0, 22), (0, 23), (1, 0), (1, 1), (1, 2), (1, 3), (1, 4), (1, 5), (1, 6), (1, 7), (1, 8), (4, 0), (5, 0), (5, 1), (5, 2), (5, 3), (5, 4), (5, 5), (5, 6), (5, 7), (6, 0), (6, 1), (6, 2)] (by rfl) (by decide +kernel)) (goodIn_sub (fun _ h => List.mem_cons_of_mem _ (List.mem_append_right _ h)) (by decide +kernel))
set_option maxRecDepth 20000 in
theorem gX9_afterSweep_X9_accountAt : GoodIn wsX9_afterSweep (wsV RX9 31 RX9 yX9_accountAt wsX9_accountAt) := goodIn_app (goodIn_of _ (by decide +kernel)) ggX9_afterSweep_X9_accountAt
set_option maxRecDepth 100000 in
set_option maxHeartbeats 4000000 in
theorem ggX9_afterSweep_X8_sweptCash : GoodIn wsX9_afterSweep wsX8_sweptCash := goodIn_k ch_wsX9_afterSweep chm_wsX9_afterSweep _ [(1, 12), (1, 13), (1, 14), (1, 11), (1, 15), (1, 16), (1, 17), (1, 18), (1, 19), (1, 20), (1, 21), (1, 22), (1, 23), (2, 0), (2, 1), (2, 2), (2, 3), (2, 4), (2, 5), (2, 6), (2, 7), (0, 11), (0, 12), (0, 13), (0, 14), (0, 15), (2, 8), (0, 17), (0, 18), (0, 19), (0, 20), (0, 21), (0, 22), (0, 23), (1, 0), (1, 1), (1, 2), (1, 3), (1, 4), (1, 5), (1, 6), (1, 7), (1, 8), (2, 9), (2, 10), (2, 11), (2, 12), (2, 13), (2, 14), (2, 15), (2, 16), (2, 17), (2, 18), (2, 19), (2, 20), (2, 21), (2, 22), (2, 23), (3, 0), (7, 0), (7, 1), (7, 2), (7, 3), (7, 4), (7, 5), (7, 6), (7, 7), (7, 8), (7, 9), (7, 10), (7, 11), (6, 0), (6, 1), (6, 2)] (by rfl) (by decide +kernel)
set_option maxRecDepth 20000 in
theorem gX9_afterSweep_X8_sweptCash : GoodIn wsX9_afterSweep (va_wsS RX9 199 yX8_sweptCash wsX8_sweptCash) := goodIn_app (goodIn_of _ (by decide +kernel)) ggX9_afterSweep_X8_sweptCash
theorem dX9_afterSweep_0 : decode cX9_afterSweep 0 = .ok (.aload_n 0, 1) := by decide +kernel
theorem dX9_afterSweep_1 : decode cX9_afterSweep 1 = .ok (.iload_n 1, 1) := by decide +kernel
theorem dX9_afterSweep_2 : decode cX9_afterSweep 2 = .ok (.invokevirtual 31, 3) := by decide +kernel
theorem dX9_afterSweep_5 : decode cX9_afterSweep 5 = .ok (.invokestatic 199, 3) := by decide +kernel
theorem dX9_afterSweep_8 : decode cX9_afterSweep 8 = .ok (.lreturn, 1) := by decide +kernel
def ch_wsX9_afterSweepByMoves : List (List Cond) := [wsX9_afterSweepByMoves_r1, wsX9_afterSweepByMoves_r2, wsX9_afterSweepByMoves_r3, wsX9_afterSweepByMoves_r4, wsX9_afterSweepByMoves_r5, wsX9_afterSweepByMoves_r6, wsX9_afterSweepByMoves_r7, wsX90, wsX00, wsX30, wsJx4a65c0, wsX60, wsX70, wsX50, wsX40]
theorem chm_wsX9_afterSweepByMoves : ∀ c ∈ ch_wsX9_afterSweepByMoves, ∀ w ∈ c, w ∈ wsX9_afterSweepByMoves := List.forall_mem_cons.mpr ⟨(fun w h => (List.mem_cons_of_mem _ (List.mem_append_left _ (List.mem_append_left _ (List.mem_append_left _ (List.mem_append_left _ (List.mem_append_left _ (List.mem_append_left _ (List.mem_append_left _ (List.mem_append_left _ (List.mem_append_left _ (List.mem_append_left _ h)))))))))))), List.forall_mem_cons.mpr ⟨(fun w h => (List.mem_cons_of_mem _ (List.mem_append_left _ (List.mem_append_left _ (List.mem_append_left _ (List.mem_append_left _ (List.mem_append_left _ (List.mem_append_left _ (List.mem_append_left _ (List.mem_append_left _ (List.mem_append_left _ (List.mem_append_right _ (List.mem_append_left _ h))))))))))))), List.forall_mem_cons.mpr ⟨(fun w h => (List.mem_cons_of_mem _ (List.mem_append_left _ (List.mem_append_left _ (List.mem_append_left _ (List.mem_append_left _ (List.mem_append_left _ (List.mem_append_left _ (List.mem_append_left _ (List.mem_append_left _ (List.mem_append_left _ (List.mem_append_right _ (List.mem_append_right _ (List.mem_append_left _ h)))))))))))))), List.forall_mem_cons.mpr ⟨(fun w h => (List.mem_cons_of_mem _ (List.mem_append_left _ (List.mem_append_left _ (List.mem_append_left _ (List.mem_append_left _ (List.mem_append_left _ (List.mem_append_left _ (List.mem_append_left _ (List.mem_append_left _ (List.mem_append_left _ (List.mem_append_right _ (List.mem_append_right _ (List.mem_append_right _ (List.mem_append_left _ h))))))))))))))), List.forall_mem_cons.mpr ⟨(fun w h => (List.mem_cons_of_mem _ (List.mem_append_left _ (List.mem_append_left _ (List.mem_append_left _ (List.mem_append_left _ (List.mem_append_left _ (List.mem_append_left _ (List.mem_append_left _ (List.mem_append_left _ (List.mem_append_left _ (List.mem_append_right _ (List.mem_append_right _ (List.mem_append_right _ (List.mem_append_right _ (List.mem_append_left _ h)))))))))))))))), List.forall_mem_cons.mpr ⟨(fun w h => (List.mem_cons_of_mem _ (List.mem_append_left _ (List.mem_append_left _ (List.mem_append_left _ (List.mem_append_left _ (List.mem_append_left _ (List.mem_append_left _ (List.mem_append_left _ (List.mem_append_left _ (List.mem_append_left _ (List.mem_append_right _ (List.mem_append_right _ (List.mem_append_right _ (List.mem_append_right _ (List.mem_append_right _ (List.mem_append_left _ h))))))))))))))))), List.forall_mem_cons.mpr ⟨(fun w h => (List.mem_cons_of_mem _ (List.mem_append_left _ (List.mem_append_left _ (List.mem_append_left _ (List.mem_append_left _ (List.mem_append_left _ (List.mem_append_left _ (List.mem_append_left _ (List.mem_append_left _ (List.mem_append_left _ (List.mem_append_right _ (List.mem_append_right _ (List.mem_append_right _ (List.mem_append_right _ (List.mem_append_right _ (List.mem_append_right _ h))))))))))))))))), List.forall_mem_cons.mpr ⟨(fun w h => (List.mem_cons_of_mem _ (List.mem_append_left _ (List.mem_append_left _ (List.mem_append_left _ (List.mem_append_left _ (List.mem_append_left _ (List.mem_append_left _ (List.mem_append_left _ (List.mem_append_left _ (List.mem_append_right _ h))))))))))), List.forall_mem_cons.mpr ⟨(fun w h => (List.mem_cons_of_mem _ (List.mem_append_left _ (List.mem_append_left _ (List.mem_append_left _ (List.mem_append_left _ (List.mem_append_left _ (List.mem_append_left _ (List.mem_append_left _ (List.mem_append_right _ h)))))))))), List.forall_mem_cons.mpr ⟨(fun w h => (List.mem_cons_of_mem _ (List.mem_append_left _ (List.mem_append_left _ (List.mem_append_left _ (List.mem_append_left _ (List.mem_append_left _ (List.mem_append_left _ (List.mem_append_right _ h))))))))), List.forall_mem_cons.mpr ⟨(fun w h => (List.mem_cons_of_mem _ (List.mem_append_left _ (List.mem_append_left _ (List.mem_append_left _ (List.mem_append_left _ (List.mem_append_left _ (List.mem_append_right _ h)))))))), List.forall_mem_cons.mpr ⟨(fun w h => (List.mem_cons_of_mem _ (List.mem_append_left _ (List.mem_append_left _ (List.mem_append_left _ (List.mem_append_left _ (List.mem_append_right _ h))))))), List.forall_mem_cons.mpr ⟨(fun w h => (List.mem_cons_of_mem _ (List.mem_append_left _ (List.mem_append_left _ (List.mem_append_left _ (List.mem_append_right _ h)))))), List.forall_mem_cons.mpr ⟨(fun w h => (List.mem_cons_of_mem _ (List.mem_append_left _ (List.mem_append_left _ (List.mem_append_right _ h))))), List.forall_mem_cons.mpr ⟨(fun w h => (List.mem_cons_of_mem _ (List.mem_append_left _ (List.mem_append_right _ h)))), fun _ h => absurd h List.not_mem_nil⟩⟩⟩⟩⟩⟩⟩⟩⟩⟩⟩⟩⟩⟩⟩
set_option maxRecDepth 100000 in
set_option maxHeartbeats 4000000 in
theorem ggX9_afterSweepByMoves_X9_accountAt : GoodIn wsX9_afterSweepByMoves wsX9_accountAt := goodIn_ca (goodIn_k ch_wsX9_afterSweepByMoves chm_wsX9_afterSweepByMoves _ [(0, 6), (0, 7), (0, 8), (0, 0), (0, 9), (0, 10), (0, 11), (0, 12), (0, 13), (0, 14), (0, 15), (0, 16), (0, 17), (0, 18), (0, 19), (0, 20), (0, 21), (0, 22), (0, 23), (1, 0), (1, 1), (1, 2), (1, 3), (1, 4), (1, 5), (1, 6), (1, 7), (1, 8), (1, 9), (7, 0), (9, 0), (9, 1), (9, 2), (9, 3), (9, 4), (9, 5), (9, 6), (9, 7), (10, 0), (10, 1), (10, 2)] (by rfl) (by decide +kernel)) (goodIn_sub (fun _ h => List.mem_cons_of_mem _ (List.mem_append_right _ h)) (by decide +kernel))
set_option maxRecDepth 20000 in
theorem gX9_afterSweepByMoves_X9_accountAt : GoodIn wsX9_afterSweepByMoves (wsV RX9 31 RX9 yX9_accountAt wsX9_accountAt) := goodIn_app (goodIn_of _ (by decide +kernel)) ggX9_afterSweepByMoves_X9_accountAt
set_option maxRecDepth 100000 in
set_option maxHeartbeats 4000000 in
theorem ggX9_afterSweepByMoves_X3_keep : GoodIn wsX9_afterSweepByMoves wsX3_keep := goodIn_k ch_wsX9_afterSweepByMoves chm_wsX9_afterSweepByMoves _ [(1, 14), (1, 15), (1, 16), (1, 17), (1, 18), (1, 19), (1, 20), (1, 21), (1, 22), (1, 23), (2, 0), (2, 1), (0, 12), (0, 13), (0, 14), (0, 15), (0, 16), (2, 2), (0, 18), (0, 19), (0, 20), (0, 21), (0, 22), (0, 23), (1, 0), (1, 1), (1, 2), (1, 3), (1, 4), (1, 5), (1, 6), (1, 7), (1, 8), (1, 9), (2, 3), (2, 4), (2, 5), (2, 6), (2, 7), (2, 8), (2, 9), (2, 10), (2, 11), (2, 12), (2, 13), (2, 14), (2, 15), (2, 16), (2, 17), (2, 18), (2, 19), (2, 20), (2, 21), (2, 22), (2, 23), (3, 0), (3, 1), (3, 2), (3, 3), (3, 4), (3, 5), (3, 6), (3, 7), (3, 8), (3, 9), (3, 10), (3, 11), (3, 12), (3, 13), (3, 14), (3, 15), (3, 16), (3, 17), (3, 18), (3, 19), (3, 20), (3, 21), (3, 22), (3, 23), (4, 0), (4, 1), (4, 2), (4, 3), (4, 4), (4, 5), (9, 0), (9, 1), (9, 2), (9, 3), (9, 4), (9, 5), (9, 6), (9, 7), (8, 0), (8, 1), (8, 2), (8, 3), (8, 4), (8, 5), (8, 6), (8, 7), (8, 8), (8, 9), (8, 10), (8, 11), (10, 0), (10, 1), (10, 2), (11, 0), (11, 1), (11, 2), (11, 3), (11, 4), (12, 0), (12, 1), (12, 2), (12, 3), (12, 4), (12, 5), (12, 6), (12, 7), (12, 8), (12, 9), (13, 0), (13, 1), (13, 2), (13, 3), (13, 4), (13, 5), (13, 6), (13, 7), (13, 8), (14, 0), (14, 1), (14, 2), (14, 3), (14, 4), (14, 5), (14, 6)] (by rfl) (by decide +kernel)
set_option maxRecDepth 20000 in
theorem gX9_afterSweepByMoves_X3_keep : GoodIn wsX9_afterSweepByMoves (wsV RX9 203 RX3 yX3_keep wsX3_keep) := goodIn_app (goodIn_of _ (by decide +kernel)) ggX9_afterSweepByMoves_X3_keep
set_option maxRecDepth 100000 in
set_option maxHeartbeats 4000000 in
theorem ggX9_afterSweepByMoves_X3_sweepPools : GoodIn wsX9_afterSweepByMoves wsX3_sweepPools := goodIn_k ch_wsX9_afterSweepByMoves chm_wsX9_afterSweepByMoves _ [(4, 9), (1, 19), (1, 18), (2, 1), (0, 12), (0, 13), (0, 14), (0, 15), (0, 16), (2, 2), (0, 18), (0, 19), (0, 20), (0, 21), (0, 22), (0, 23), (1, 0), (1, 1), (1, 2), (1, 3), (1, 4), (1, 5), (1, 6), (1, 7), (1, 8), (1, 9), (4, 10), (4, 11), (4, 12), (4, 13), (4, 14), (4, 15), (4, 16), (4, 17), (4, 18), (4, 19), (4, 20), (4, 21), (4, 22), (4, 23), (5, 0), (5, 1), (5, 2), (5, 3), (5, 4), (5, 5), (2, 6), (5, 6), (5, 7), (5, 8), (5, 9), (5, 10), (5, 11), (5, 12), (5, 13), (5, 14), (5, 15), (5, 16), (5, 17), (5, 18), (5, 19), (5, 20), (9, 0), (9, 1), (9, 2), (9, 3), (9, 4), (9, 5), (9, 6), (9, 7), (10, 0), (10, 1), (10, 2), (8, 0), (8, 1), (8, 2), (8, 3), (8, 4), (8, 5), (8, 6), (8, 7), (8, 8), (8, 9), (8, 10), (8, 11)] (by rfl) (by decide +kernel)
set_option maxRecDepth 20000 in
theorem gX9_afterSweepByMoves_X3_sweepPools : GoodIn wsX9_afterSweepByMoves (wsV RX9 206 RX3 yX3_sweepPools wsX3_sweepPools) := goodIn_app (goodIn_of _ (by decide +kernel)) ggX9_afterSweepByMoves_X3_sweepPools
set_option maxRecDepth 100000 in
set_option maxHeartbeats 4000000 in
theorem ggX9_afterSweepByMoves_X3_goBack : GoodIn wsX9_afterSweepByMoves wsX3_goBack := goodIn_k ch_wsX9_afterSweepByMoves chm_wsX9_afterSweepByMoves _ [(6, 0), (1, 16), (1, 15), (1, 17), (1, 18), (1, 19), (1, 20), (1, 21), (1, 22), (1, 23), (2, 0), (2, 1), (0, 12), (0, 13), (0, 14), (0, 15), (0, 16), (2, 2), (0, 18), (0, 19), (0, 20), (0, 21), (0, 22), (0, 23), (1, 0), (1, 1), (1, 2), (1, 3), (1, 4), (1, 5), (1, 6), (1, 7), (1, 8), (1, 9), (6, 1), (6, 2), (6, 3), (2, 6), (6, 4), (2, 9), (2, 8), (2, 11), (2, 10), (6, 5), (6, 6), (6, 7), (2, 15), (6, 8), (2, 17), (2, 18), (6, 9), (6, 10), (6, 11), (2, 22), (6, 12), (3, 1), (3, 0), (3, 3), (3, 2), (3, 5), (3, 4), (3, 6), (3, 7), (3, 8), (3, 9), (6, 13), (6, 14), (6, 15), (3, 13), (6, 16), (3, 16), (3, 15), (3, 18), (3, 17), (3, 20), (3, 19), (6, 17), (6, 18), (6, 19), (4, 0), (6, 20), (4, 3), (4, 2), (4, 5), (4, 4), (9, 0), (9, 1), (9, 2), (9, 3), (9, 4), (9, 5), (9, 6), (9, 7), (8, 0), (8, 1), (8, 2), (8, 3), (8, 4), (8, 5), (8, 6), (8, 7), (8, 8), (8, 9), (8, 10), (8, 11), (10, 0), (10, 1), (10, 2), (11, 0), (11, 1), (11, 2), (11, 3), (11, 4), (12, 0), (12, 1), (12, 2), (12, 3), (12, 4), (12, 5), (12, 6), (12, 7), (12, 8), (12, 9), (13, 0), (13, 1), (13, 2), (13, 3), (13, 4), (13, 5), (13, 6), (13, 7), (13, 8), (14, 0), (14, 1), (14, 2), (14, 3), (14, 4), (14, 5), (14, 6)] (by rfl) (by decide +kernel)
set_option maxRecDepth 20000 in
theorem gX9_afterSweepByMoves_X3_goBack : GoodIn wsX9_afterSweepByMoves (wsV RX9 209 RX3 yX3_goBack wsX3_goBack) := goodIn_app (goodIn_of _ (by decide +kernel)) ggX9_afterSweepByMoves_X3_goBack
theorem dX9_afterSweepByMoves_0 : decode cX9_afterSweepByMoves 0 = .ok (.aload_n 0, 1) := by decide +kernel
theorem dX9_afterSweepByMoves_1 : decode cX9_afterSweepByMoves 1 = .ok (.iload_n 1, 1) := by decide +kernel
theorem dX9_afterSweepByMoves_2 : decode cX9_afterSweepByMoves 2 = .ok (.invokevirtual 31, 3) := by decide +kernel
theorem dX9_afterSweepByMoves_5 : decode cX9_afterSweepByMoves 5 = .ok (.astore_n 2, 1) := by decide +kernel
theorem dX9_afterSweepByMoves_6 : decode cX9_afterSweepByMoves 6 = .ok (.aload_n 0, 1) := by decide +kernel
theorem dX9_afterSweepByMoves_7 : decode cX9_afterSweepByMoves 7 = .ok (.getfield 10, 3) := by decide +kernel
theorem dX9_afterSweepByMoves_10 : decode cX9_afterSweepByMoves 10 = .ok (.invokevirtual 203, 3) := by decide +kernel
theorem dX9_afterSweepByMoves_13 : decode cX9_afterSweepByMoves 13 = .ok (.aload_n 0, 1) := by decide +kernel
theorem dX9_afterSweepByMoves_14 : decode cX9_afterSweepByMoves 14 = .ok (.getfield 10, 3) := by decide +kernel
theorem dX9_afterSweepByMoves_17 : decode cX9_afterSweepByMoves 17 = .ok (.invokevirtual 206, 3) := by decide +kernel
theorem dX9_afterSweepByMoves_20 : decode cX9_afterSweepByMoves 20 = .ok (.aload_n 2, 1) := by decide +kernel
theorem dX9_afterSweepByMoves_21 : decode cX9_afterSweepByMoves 21 = .ok (.getfield 119, 3) := by decide +kernel
theorem dX9_afterSweepByMoves_24 : decode cX9_afterSweepByMoves 24 = .ok (.lstore_n 3, 1) := by decide +kernel
theorem dX9_afterSweepByMoves_25 : decode cX9_afterSweepByMoves 25 = .ok (.aload_n 0, 1) := by decide +kernel
theorem dX9_afterSweepByMoves_26 : decode cX9_afterSweepByMoves 26 = .ok (.getfield 10, 3) := by decide +kernel
theorem dX9_afterSweepByMoves_29 : decode cX9_afterSweepByMoves 29 = .ok (.invokevirtual 209, 3) := by decide +kernel
theorem dX9_afterSweepByMoves_32 : decode cX9_afterSweepByMoves 32 = .ok (.lload_n 3, 1) := by decide +kernel
theorem dX9_afterSweepByMoves_33 : decode cX9_afterSweepByMoves 33 = .ok (.lreturn, 1) := by decide +kernel
def ch_wsX9_forecast : List (List Cond) := [wsX9_forecast_r1, wsX9_forecast_r2, wsX9_forecast_r3, wsX9_forecast_r4, wsX9_forecast_r5, wsX9_forecast_r6, wsX9_forecast_r7, wsX9_forecast_r8, wsX9_forecast_r9, wsX9_forecast_r10, wsX9_forecast_r11, wsX9_forecast_r12, wsX9_forecast_r13, wsX9_forecast_r14, wsX90, wsX00, wsX30, wsJx4a65c0, wsX60, wsX70, wsX50, wsX40, wsX20, wsX10]
