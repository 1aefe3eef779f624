theorem chm_wsX9_forecast : ∀ c ∈ ch_wsX9_forecast, ∀ w ∈ c, w ∈ wsX9_forecast := List.forall_mem_cons.mpr ⟨(fun w h => (List.mem_cons_of_mem _ (List.mem_append_left _ (List.mem_append_left _ (List.mem_append_left _ (List.mem_append_left _ (List.mem_append_left _ (List.mem_append_left _ (List.mem_append_left _ (List.mem_append_left _ (List.mem_append_left _ (List.mem_append_left _ (List.mem_append_left _ (List.mem_append_left _ (List.mem_append_left _ h))))))))))))))), List.forall_mem_cons.mpr ⟨(fun w h => (List.mem_cons_of_mem _ (List.mem_append_left _ (List.mem_append_left _ (List.mem_append_left _ (List.mem_append_left _ (List.mem_append_left _ (List.mem_append_left _ (List.mem_append_left _ (List.mem_append_left _ (List.mem_append_left _ (List.mem_append_left _ (List.mem_append_left _ (List.mem_append_left _ (List.mem_append_right _ (List.mem_append_left _ h)))))))))))))))), List.forall_mem_cons.mpr ⟨(fun w h => (List.mem_cons_of_mem _ (List.mem_append_left _ (List.mem_append_left _ (List.mem_append_left _ (List.mem_append_left _ (List.mem_append_left _ (List.mem_append_left _ (List.mem_append_left _ (List.mem_append_left _ (List.mem_append_left _ (List.mem_append_left _ (List.mem_append_left _ (List.mem_append_left _ (List.mem_append_right _ (List.mem_append_right _ (List.mem_append_left _ h))))))))))))))))), List.forall_mem_cons.mpr ⟨(fun w h => (List.mem_cons_of_mem _ (List.mem_append_left _ (List.mem_append_left _ (List.mem_append_left _ (List.mem_append_left _ (List.mem_append_left _ (List.mem_append_left _ (List.mem_append_left _ (List.mem_append_left _ (List.mem_append_left _ (List.mem_append_left _ (List.mem_append_left _ (List.mem_append_left _ (List.mem_append_right _ (List.mem_append_right _ (List.mem_append_right _ (List.mem_append_left _ h)))))))))))))))))), List.forall_mem_cons.mpr ⟨(fun w h => (List.mem_cons_of_mem _ (List.mem_append_left _ (List.mem_append_left _ (List.mem_append_left _ (List.mem_append_left _ (List.mem_append_left _ (List.mem_append_left _ (List.mem_append_left _ (List.mem_append_left _ (List.mem_append_left _ (List.mem_append_left _ (List.mem_append_left _ (List.mem_append_left _ (List.mem_append_right _ (List.mem_append_right _ (List.mem_append_right _ (List.mem_append_right _ (List.mem_append_left _ h))))))))))))))))))), List.forall_mem_cons.mpr ⟨(fun w h => (List.mem_cons_of_mem _ (List.mem_append_left _ (List.mem_append_left _ (List.mem_append_left _ (List.mem_append_left _ (List.mem_append_left _ (List.mem_append_left _ (List.mem_append_left _ (List.mem_append_left _ (List.mem_append_left _ (List.mem_append_left _ (List.mem_append_left _ (List.mem_append_left _ (List.mem_append_right _ (List.mem_append_right _ (List.mem_append_right _ (List.mem_append_right _ (List.mem_append_right _ (List.mem_append_left _ h)))))))))))))))))))), List.forall_mem_cons.mpr ⟨(fun w h => (List.mem_cons_of_mem _ (List.mem_append_left _ (List.mem_append_left _ (List.mem_append_left _ (List.mem_append_left _ (List.mem_append_left _ (List.mem_append_left _ (List.mem_append_left _ (List.mem_append_left _ (List.mem_append_left _ (List.mem_append_left _ (List.mem_append_left _ (List.mem_append_left _ (List.mem_append_right _ (List.mem_append_right _ (List.mem_append_right _ (List.mem_append_right _ (List.mem_append_right _ (List.mem_append_right _ (List.mem_append_left _ h))))))))))))))))))))), List.forall_mem_cons.mpr ⟨(fun w h => (List.mem_cons_of_mem _ (List.mem_append_left _ (List.mem_append_left _ (List.mem_append_left _ (List.mem_append_left _ (List.mem_append_left _ (List.mem_append_left _ (List.mem_append_left _ (List.mem_append_left _ (List.mem_append_left _ (List.mem_append_left _ (List.mem_append_left _ (List.mem_append_left _ (List.mem_append_right _ (List.mem_append_right _ (List.mem_append_right _ (List.mem_append_right _ (List.mem_append_right _ (List.mem_append_right _ (List.mem_append_right _ (List.mem_append_left _ h)))))))))))))))))))))), List.forall_mem_cons.mpr ⟨(fun w h => (List.mem_cons_of_mem _ (List.mem_append_left _ (List.mem_append_left _ (List.mem_append_left _ (List.mem_append_left _ (List.mem_append_left _ (List.mem_append_left _ (List.mem_append_left _ (List.mem_append_left _ (List.mem_append_left _ (List.mem_append_left _ (List.mem_append_left _ (List.mem_append_left _ (List.mem_append_right _ (List.mem_append_right _ (List.mem_append_right _ (List.mem_append_right _ (List.mem_append_right _ (List.mem_append_right _ (List.mem_append_right _ (List.mem_append_right _ (List.mem_append_left _ h))))))))))))))))))))))), List.forall_mem_cons.mpr ⟨(fun w h => (List.mem_cons_of_mem _ (List.mem_append_left _ (List.mem_append_left _ (List.mem_append_left _ (List.mem_append_left _ (List.mem_append_left _ (List.mem_append_left _ (List.mem_append_left _ (List.mem_append_left _ (List.mem_append_left _ (List.mem_append_left _ (List.mem_append_left _ (List.mem_append_left _ (List.mem_append_right _ (List.mem_append_right _ (List.mem_append_right _ (List.mem_append_right _ (List.mem_append_right _ (List.mem_append_right _ (List.mem_append_right _ (List.mem_append_right _ (List.mem_append_right _ (List.mem_append_left _ h)))))))))))))))))))))))), List.forall_mem_cons.mpr ⟨(fun w h => (List.mem_cons_of_mem _ (List.mem_append_left _ (List.mem_append_left _ (List.mem_append_left _ (List.mem_append_left _ (List.mem_append_left _ (List.mem_append_left _ (List.mem_append_left _ (List.mem_append_left _ (List.mem_append_left _ (List.mem_append_left _ (List.mem_append_left _ (List.mem_append_left _ (List.mem_append_right _ (List.mem_append_right _ (List.mem_append_right _ (List.mem_append_right _ (List.mem_append_right _ (List.mem_append_right _ (List.mem_append_right _ (List.mem_append_right _ (List.mem_append_right _ (List.mem_append_right _ (List.mem_append_left _ h))))))))))))))))))))))))), List.forall_mem_cons.mpr ⟨(fun w h => (List.mem_cons_of_mem _ (List.mem_append_left _ (List.mem_append_left _ (List.mem_append_left _ (List.mem_append_left _ (List.mem_append_left _ (List.mem_append_left _ (List.mem_append_left _ (List.mem_append_left _ (List.mem_append_left _ (List.mem_append_left _ (List.mem_append_left _ (List.mem_append_left _ (List.mem_append_right _ (List.mem_append_right _ (List.mem_append_right _ (List.mem_append_right _ (List.mem_append_right _ (List.mem_append_right _ (List.mem_append_right _ (List.mem_append_right _ (List.mem_append_right _ (List.mem_append_right _ (List.mem_append_right _ (List.mem_append_left _ h)))))))))))))))))))))))))), List.forall_mem_cons.mpr ⟨(fun w h => (List.mem_cons_of_mem _ (List.mem_append_left _ (List.mem_append_left _ (List.mem_append_left _ (List.mem_append_left _ (List.mem_append_left _ (List.mem_append_left _ (List.mem_append_left _ (List.mem_append_left _ (List.mem_append_left _ (List.mem_append_left _ (List.mem_append_left _ (List.mem_append_left _ (List.mem_append_right _ (List.mem_append_right _ (List.mem_append_right _ (List.mem_append_right _ (List.mem_append_right _ (List.mem_append_right _ (List.mem_append_right _ (List.mem_append_right _ (List.mem_append_right _ (List.mem_append_right _ (List.mem_append_right _ (List.mem_append_right _ (List.mem_append_left _ h))))))))))))))))))))))))))), List.forall_mem_cons.mpr ⟨(fun w h => (List.mem_cons_of_mem _ (List.mem_append_left _ (List.mem_append_left _ (List.mem_append_left _ (List.mem_append_left _ (List.mem_append_left _ (List.mem_append_left _ (List.mem_append_left _ (List.mem_append_left _ (List.mem_append_left _ (List.mem_append_left _ (List.mem_append_left _ (List.mem_append_left _ (List.mem_append_right _ (List.mem_append_right _ (List.mem_append_right _ (List.mem_append_right _ (List.mem_append_right _ (List.mem_append_right _ (List.mem_append_right _ (List.mem_append_right _ (List.mem_append_right _ (List.mem_append_right _ (List.mem_append_right _ (List.mem_append_right _ (List.mem_append_right _ h))))))))))))))))))))))))))), List.forall_mem_cons.mpr ⟨(fun w h => (List.mem_cons_of_mem _ (List.mem_append_left _ (List.mem_append_left _ (List.mem_append_left _ (List.mem_append_left _ (List.mem_append_left _ (List.mem_append_left _ (List.mem_append_left _ (List.mem_append_left _ (List.mem_append_left _ (List.mem_append_left _ (List.mem_append_left _ (List.mem_append_right _ h)))))))))))))), List.forall_mem_cons.mpr ⟨(fun w h => (List.mem_cons_of_mem _ (List.mem_append_left _ (List.mem_append_left _ (List.mem_append_left _ (List.mem_append_left _ (List.mem_append_left _ (List.mem_append_left _ (List.mem_append_left _ (List.mem_append_left _ (List.mem_append_left _ (List.mem_append_left _ (List.mem_append_right _ h))))))))))))), List.forall_mem_cons.mpr ⟨(fun w h => (List.mem_cons_of_mem _ (List.mem_append_left _ (List.mem_append_left _ (List.mem_append_left _ (List.mem_append_left _ (List.mem_append_left _ (List.mem_append_left _ (List.mem_append_left _ (List.mem_append_left _ (List.mem_append_left _ (List.mem_append_right _ h)))))))))))), List.forall_mem_cons.mpr ⟨(fun w h => (List.mem_cons_of_mem _ (List.mem_append_left _ (List.mem_append_left _ (List.mem_append_left _ (List.mem_append_left _ (List.mem_append_left _ (List.mem_append_left _ (List.mem_append_left _ (List.mem_append_left _ (List.mem_append_right _ h))))))))))), List.forall_mem_cons.mpr ⟨(fun w h => (List.mem_cons_of_mem _ (List.mem_append_left _ (List.mem_append_left _ (List.mem_append_left _ (List.mem_append_left _ (List.mem_append_left _ (List.mem_append_left _ (List.mem_append_left _ (List.mem_append_right _ h)))))))))), List.forall_mem_cons.mpr ⟨(fun w h => (List.mem_cons_of_mem _ (List.mem_append_left _ (List.mem_append_left _ (List.mem_append_left _ (List.mem_append_left _ (List.mem_append_left _ (List.mem_append_left _ (List.mem_append_right _ h))))))))), List.forall_mem_cons.mpr ⟨(fun w h => (List.mem_cons_of_mem _ (List.mem_append_left _ (List.mem_append_left _ (List.mem_append_left _ (List.mem_append_left _ (List.mem_append_left _ (List.mem_append_right _ h)))))))), List.forall_mem_cons.mpr ⟨(fun w h => (List.mem_cons_of_mem _ (List.mem_append_left _ (List.mem_append_left _ (List.mem_append_left _ (List.mem_append_left _ (List.mem_append_right _ h))))))), List.forall_mem_cons.mpr ⟨(fun w h => (List.mem_cons_of_mem _ (List.mem_append_left _ (List.mem_append_left _ (List.mem_append_left _ (List.mem_append_right _ h)))))), List.forall_mem_cons.mpr ⟨(fun w h => (List.mem_cons_of_mem _ (List.mem_append_left _ (List.mem_append_left _ (List.mem_append_right _ h))))), fun _ h => absurd h List.not_mem_nil⟩⟩⟩⟩⟩⟩⟩⟩⟩⟩⟩⟩⟩⟩⟩⟩⟩⟩⟩⟩⟩⟩⟩⟩
set_option maxRecDepth 100000 in
set_option maxHeartbeats 4000000 in
theorem ggX9_forecast_X9_accountAt : GoodIn wsX9_forecast wsX9_accountAt := goodIn_ca (goodIn_k ch_wsX9_forecast chm_wsX9_forecast _ [(0, 6), (0, 7), (0, 8), (0, 0), (0, 9), (0, 10), (0, 11), (0, 12), (0, 13), (0, 14), (0, 15), (0, 16), (0, 17), (0, 18), (0, 19), (0, 20), (0, 21), (0, 22), (0, 23), (1, 0), (1, 1), (1, 2), (1, 3), (1, 4), (1, 5), (1, 6), (1, 7), (1, 8), (1, 9), (14, 0), (16, 0), (16, 1), (16, 2), (16, 3), (16, 4), (16, 5), (16, 6), (16, 7), (17, 0), (17, 1), (17, 2)] (by rfl) (by decide +kernel)) (goodIn_sub (fun _ h => List.mem_cons_of_mem _ (List.mem_append_left _ (List.mem_append_right _ h))) (by decide +kernel))
set_option maxRecDepth 20000 in
theorem gX9_forecast_X9_accountAt : GoodIn wsX9_forecast (wsV RX9 31 RX9 yX9_accountAt wsX9_accountAt) := goodIn_app (goodIn_of _ (by decide +kernel)) ggX9_forecast_X9_accountAt
set_option maxRecDepth 100000 in
set_option maxHeartbeats 4000000 in
theorem ggX9_forecast_X9_requireWithin : GoodIn wsX9_forecast wsX9_requireWithin := goodIn_ca (goodIn_k ch_wsX9_forecast chm_wsX9_forecast _ [(1, 12), (1, 13), (1, 14)] (by rfl) (by decide +kernel)) (goodIn_sub (fun _ h => List.mem_cons_of_mem _ (List.mem_append_right _ h)) (by decide +kernel))
set_option maxRecDepth 20000 in
theorem gX9_forecast_X9_requireWithin : GoodIn wsX9_forecast (va_wsS RX9 20 yX9_requireWithin wsX9_requireWithin) := goodIn_app (goodIn_of _ (by decide +kernel)) ggX9_forecast_X9_requireWithin
set_option maxRecDepth 100000 in
set_option maxHeartbeats 4000000 in
theorem ggX9_forecast_X3_keep : GoodIn wsX9_forecast wsX3_keep := goodIn_k ch_wsX9_forecast chm_wsX9_forecast _ [(1, 19), (1, 20), (1, 21), (1, 22), (1, 23), (2, 0), (2, 1), (2, 2), (2, 3), (2, 4), (2, 5), (2, 6), (0, 12), (0, 13), (0, 14), (0, 15), (0, 16), (2, 7), (0, 18), (0, 19), (0, 20), (0, 21), (0, 22), (0, 23), (1, 0), (1, 1), (1, 2), (1, 3), (1, 4), (1, 5), (1, 6), (1, 7), (1, 8), (1, 9), (2, 8), (2, 9), (2, 10), (2, 11), (2, 12), (2, 13), (2, 14), (2, 15), (2, 16), (2, 17), (2, 18), (2, 19), (2, 20), (2, 21), (2, 22), (2, 23), (3, 0), (3, 1), (3, 2), (3, 3), (3, 4), (3, 5), (3, 6), (3, 7), (3, 8), (3, 9), (3, 10), (3, 11), (3, 12), (3, 13), (3, 14), (3, 15), (3, 16), (3, 17), (3, 18), (3, 19), (3, 20), (3, 21), (3, 22), (3, 23), (4, 0), (4, 1), (4, 2), (4, 3), (4, 4), (4, 5), (4, 6), (4, 7), (4, 8), (4, 9), (4, 10), (16, 0), (16, 1), (16, 2), (16, 3), (16, 4), (16, 5), (16, 6), (16, 7), (15, 0), (15, 1), (15, 2), (15, 3), (15, 4), (15, 5), (15, 6), (15, 7), (15, 8), (15, 9), (15, 10), (15, 11), (17, 0), (17, 1), (17, 2), (18, 0), (18, 1), (18, 2), (18, 3), (18, 4), (19, 0), (19, 1), (19, 2), (19, 3), (19, 4), (19, 5), (19, 6), (19, 7), (19, 8), (19, 9), (20, 0), (20, 1), (20, 2), (20, 3), (20, 4), (20, 5), (20, 6), (20, 7), (20, 8), (21, 0), (21, 1), (21, 2), (21, 3), (21, 4), (21, 5), (21, 6)] (by rfl) (by decide +kernel)
set_option maxRecDepth 20000 in
theorem gX9_forecast_X3_keep : GoodIn wsX9_forecast (wsV RX9 203 RX3 yX3_keep wsX3_keep) := goodIn_app (goodIn_of _ (by decide +kernel)) ggX9_forecast_X3_keep
set_option maxRecDepth 100000 in
set_option maxHeartbeats 4000000 in
theorem ggX9_forecast_X3_passDay : GoodIn wsX9_forecast wsX3_passDay := goodIn_k ch_wsX9_forecast chm_wsX9_forecast _ [(4, 14), (4, 15), (1, 20), (4, 16), (4, 17), (4, 18), (4, 19), (4, 20), (4, 21), (4, 22), (4, 23), (5, 0), (1, 18), (5, 1), (2, 4), (2, 5), (2, 6), (0, 12), (0, 13), (0, 14), (0, 15), (0, 16), (2, 7), (0, 18), (0, 19), (0, 20), (0, 21), (0, 22), (0, 23), (1, 0), (1, 1), (1, 2), (1, 3), (1, 4), (1, 5), (1, 6), (1, 7), (1, 8), (1, 9), (5, 2), (5, 3), (5, 4), (4, 5), (5, 5), (4, 9), (4, 7), (5, 6), (5, 7), (5, 8), (5, 9), (5, 10), (5, 11), (5, 12), (5, 13), (2, 0), (1, 23), (5, 14), (5, 15), (5, 16), (5, 17), (5, 18), (5, 19), (5, 20), (5, 21), (5, 22), (5, 23), (6, 0), (6, 1), (6, 2), (6, 3), (6, 4), (6, 5), (6, 6), (6, 7), (6, 8), (6, 9), (2, 11), (6, 10), (6, 11), (6, 12), (6, 13), (6, 14), (6, 15), (6, 16), (6, 17), (6, 18), (6, 19), (6, 20), (6, 21), (6, 22), (6, 23), (7, 0), (7, 1), (7, 2), (7, 3), (7, 4), (2, 1), (7, 5), (7, 6), (7, 7), (2, 20), (7, 8), (7, 9), (7, 10), (7, 11), (7, 12), (7, 13), (7, 14), (7, 15), (7, 16), (7, 17), (7, 18), (7, 19), (7, 20), (7, 21), (7, 22), (7, 23), (8, 0), (8, 1), (8, 2), (8, 3), (8, 4), (8, 5), (8, 6), (8, 7), (8, 8), (8, 9), (1, 22), (8, 10), (8, 11), (8, 12), (8, 13), (8, 14), (8, 15), (8, 16), (8, 17), (8, 18), (8, 19), (8, 20), (8, 21), (8, 22), (8, 23), (9, 0), (9, 1), (9, 2), (9, 3), (9, 4), (9, 5), (9, 6), (9, 7), (9, 8), (9, 9), (9, 10), (9, 11), (9, 12), (9, 13), (9, 14), (9, 15), (9, 16), (9, 17), (9, 18), (9, 19), (9, 20), (9, 21), (2, 2), (2, 3), (9, 22), (9, 23), (10, 0), (10, 1), (10, 2), (10, 3), (2, 22), (2, 23), (10, 4), (10, 5), (10, 6), (3, 3), (10, 7), (10, 8), (3, 5), (10, 9), (3, 9), (10, 10), (10, 11), (10, 12), (10, 13), (10, 14), (10, 15), (10, 16), (10, 17), (3, 18), (10, 18), (4, 0), (3, 20), (10, 19), (10, 20), (10, 21), (10, 22), (10, 23), (11, 0), (11, 1), (11, 2), (11, 3), (11, 4), (11, 5), (11, 6), (11, 7), (11, 8), (3, 7), (11, 9), (11, 10), (11, 11), (11, 12), (11, 13), (11, 14), (11, 15), (11, 16), (11, 17), (11, 18), (11, 19), (11, 20), (11, 21), (11, 22), (11, 23), (2, 13), (2, 15), (12, 0), (12, 1), (12, 2), (12, 3), (12, 4), (3, 22), (12, 5), (12, 6), (16, 0), (16, 1), (16, 2), (16, 3), (16, 4), (16, 5), (16, 6), (16, 7), (22, 0), (17, 0), (17, 1), (17, 2), (21, 0), (21, 1), (21, 2), (21, 3), (21, 4), (21, 5), (21, 6), (15, 0), (15, 1), (15, 2), (15, 3), (15, 4), (15, 5), (15, 6), (15, 7), (15, 8), (15, 9), (15, 10), (15, 11), (18, 0), (18, 1), (18, 2), (18, 3), (18, 4), (20, 0), (20, 1), (20, 2), (20, 3), (20, 4), (20, 5), (20, 6), (20, 7), (20, 8), (23, 0), (23, 1), (23, 2), (19, 0), (19, 1), (19, 2), (19, 3), (19, 4), (19, 5), (19, 6), (19, 7), (19, 8), (19, 9)] (by rfl) (by decide +kernel)
set_option maxRecDepth 20000 in
theorem gX9_forecast_X3_passDay : GoodIn wsX9_forecast (wsV RX9 113 RX3 yX3_passDay wsX3_passDay) := goodIn_app (goodIn_of _ (by decide +kernel)) ggX9_forecast_X3_passDay
set_option maxRecDepth 100000 in
set_option maxHeartbeats 4000000 in
theorem ggX9_forecast_X3_goBack : GoodIn wsX9_forecast wsX3_goBack := goodIn_k ch_wsX9_forecast chm_wsX9_forecast _ [(12, 10), (1, 21), (1, 20), (1, 22), (1, 23), (2, 0), (2, 1), (2, 2), (2, 3), (2, 4), (2, 5), (2, 6), (0, 12), (0, 13), (0, 14), (0, 15), (0, 16), (2, 7), (0, 18), (0, 19), (0, 20), (0, 21), (0, 22), (0, 23), (1, 0), (1, 1), (1, 2), (1, 3), (1, 4), (1, 5), (1, 6), (1, 7), (1, 8), (1, 9), (12, 11), (12, 12), (12, 13), (2, 11), (12, 14), (2, 14), (2, 13), (2, 16), (2, 15), (12, 15), (12, 16), (12, 17), (2, 20), (12, 18), (2, 22), (2, 23), (12, 19), (12, 20), (12, 21), (3, 3), (12, 22), (3, 6), (3, 5), (3, 8), (3, 7), (3, 10), (3, 9), (3, 11), (3, 12), (3, 13), (3, 14), (12, 23), (13, 0), (13, 1), (3, 18), (13, 2), (3, 21), (3, 20), (3, 23), (3, 22), (4, 1), (4, 0), (13, 3), (13, 4), (13, 5), (4, 5), (13, 6), (4, 8), (4, 7), (4, 10), (4, 9), (16, 0), (16, 1), (16, 2), (16, 3), (16, 4), (16, 5), (16, 6), (16, 7), (15, 0), (15, 1), (15, 2), (15, 3), (15, 4), (15, 5), (15, 6), (15, 7), (15, 8), (15, 9), (15, 10), (15, 11), (17, 0), (17, 1), (17, 2), (18, 0), (18, 1), (18, 2), (18, 3), (18, 4), (19, 0), (19, 1), (19, 2), (19, 3), (19, 4), (19, 5), (19, 6), (19, 7), (19, 8), (19, 9), (20, 0), (20, 1), (20, 2), (20, 3), (20, 4), (20, 5), (20, 6), (20, 7), (20, 8), (21, 0), (21, 1), (21, 2), (21, 3), (21, 4), (21, 5), (21, 6)] (by rfl) (by decide +kernel)
set_option maxRecDepth 20000 in
theorem gX9_forecast_X3_goBack : GoodIn wsX9_forecast (wsV RX9 209 RX3 yX3_goBack wsX3_goBack) := goodIn_app (goodIn_of _ (by decide +kernel)) ggX9_forecast_X3_goBack
theorem dX9_forecast_0 : decode cX9_forecast 0 = .ok (.aload_n 0, 1) := by decide +kernel
theorem dX9_forecast_1 : decode cX9_forecast 1 = .ok (.iload_n 1, 1) := by decide +kernel
theorem dX9_forecast_2 : decode cX9_forecast 2 = .ok (.invokevirtual 31, 3) := by decide +kernel
theorem dX9_forecast_5 : decode cX9_forecast 5 = .ok (.astore_n 3, 1) := by decide +kernel
theorem dX9_forecast_6 : decode cX9_forecast 6 = .ok (.iload_n 2, 1) := by decide +kernel
theorem dX9_forecast_7 : decode cX9_forecast 7 = .ok (.iconst 1, 1) := by decide +kernel
theorem dX9_forecast_8 : decode cX9_forecast 8 = .ok (.bipush 60, 2) := by decide +kernel
theorem dX9_forecast_10 : decode cX9_forecast 10 = .ok (.invokestatic 20, 3) := by decide +kernel
theorem dX9_forecast_13 : decode cX9_forecast 13 = .ok (.aload_n 0, 1) := by decide +kernel
theorem dX9_forecast_14 : decode cX9_forecast 14 = .ok (.getfield 10, 3) := by decide +kernel
theorem dX9_forecast_17 : decode cX9_forecast 17 = .ok (.invokevirtual 203, 3) := by decide +kernel
theorem dX9_forecast_20 : decode cX9_forecast 20 = .ok (.iconst 0, 1) := by decide +kernel
theorem dX9_forecast_21 : decode cX9_forecast 21 = .ok (.istore 4, 2) := by decide +kernel
theorem dX9_forecast_23 : decode cX9_forecast 23 = .ok (.iload 4, 2) := by decide +kernel
theorem dX9_forecast_25 : decode cX9_forecast 25 = .ok (.iload_n 2, 1) := by decide +kernel
theorem dX9_forecast_26 : decode cX9_forecast 26 = .ok (.if_icmp .ge 16, 3) := by decide +kernel
theorem dX9_forecast_29 : decode cX9_forecast 29 = .ok (.aload_n 0, 1) := by decide +kernel
theorem dX9_forecast_30 : decode cX9_forecast 30 = .ok (.getfield 10, 3) := by decide +kernel
theorem dX9_forecast_33 : decode cX9_forecast 33 = .ok (.invokevirtual 113, 3) := by decide +kernel
theorem dX9_forecast_36 : decode cX9_forecast 36 = .ok (.iinc 4 1, 3) := by decide +kernel
theorem dX9_forecast_39 : decode cX9_forecast 39 = .ok (.goto (-16), 3) := by decide +kernel
theorem dX9_forecast_42 : decode cX9_forecast 42 = .ok (.aload_n 3, 1) := by decide +kernel
theorem dX9_forecast_43 : decode cX9_forecast 43 = .ok (.getfield 119, 3) := by decide +kernel
theorem dX9_forecast_46 : decode cX9_forecast 46 = .ok (.lstore 4, 2) := by decide +kernel
theorem dX9_forecast_48 : decode cX9_forecast 48 = .ok (.aload_n 0, 1) := by decide +kernel
theorem dX9_forecast_49 : decode cX9_forecast 49 = .ok (.getfield 10, 3) := by decide +kernel
theorem dX9_forecast_52 : decode cX9_forecast 52 = .ok (.invokevirtual 209, 3) := by decide +kernel
theorem dX9_forecast_55 : decode cX9_forecast 55 = .ok (.lload 4, 2) := by decide +kernel
theorem dX9_forecast_57 : decode cX9_forecast 57 = .ok (.lreturn, 1) := by decide +kernel
def ch_wsX9_daysToShort : List (List Cond) := [wsX9_daysToShort_r1, wsX9_daysToShort_r2, wsX9_daysToShort_r3, wsX9_daysToShort_r4, wsX9_daysToShort_r5, wsX9_daysToShort_r6, wsX9_daysToShort_r7, wsX9_daysToShort_r8, wsX9_daysToShort_r9, wsX9_daysToShort_r10, wsX9_daysToShort_r11, wsX9_daysToShort_r12, wsX9_daysToShort_r13, wsX9_daysToShort_r14, wsX90, wsX00, wsX30, wsJx4a65c0, wsX60, wsX70, wsX50, wsX40, wsX20, wsX10]
theorem chm_wsX9_daysToShort : ∀ c ∈ ch_wsX9_daysToShort, ∀ w ∈ c, w ∈ wsX9_daysToShort := List.forall_mem_cons.mpr ⟨(fun w h => (List.mem_cons_of_mem _ (List.mem_append_left _ (List.mem_append_left _ (List.mem_append_left _ (List.mem_append_left _ (List.mem_append_left _ (List.mem_append_left _ (List.mem_append_left _ (List.mem_append_left _ (List.mem_append_left _ (List.mem_append_left _ (List.mem_append_left _ (List.mem_append_left _ (List.mem_append_left _ (List.mem_append_left _ h)))))))))))))))), List.forall_mem_cons.mpr ⟨(fun w h => (List.mem_cons_of_mem _ (List.mem_append_left _ (List.mem_append_left _ (List.mem_append_left _ (List.mem_append_left _ (List.mem_append_left _ (List.mem_append_left _ (List.mem_append_left _ (List.mem_append_left _ (List.mem_append_left _ (List.mem_append_left _ (List.mem_append_left _ (List.mem_append_left _ (List.mem_append_left _ (List.mem_append_right _ (List.mem_append_left _ h))))))))))))))))), List.forall_mem_cons.mpr ⟨(fun w h => (List.mem_cons_of_mem _ (List.mem_append_left _ (List.mem_append_left _ (List.mem_append_left _ (List.mem_append_left _ (List.mem_append_left _ (List.mem_append_left _ (List.mem_append_left _ (List.mem_append_left _ (List.mem_append_left _ (List.mem_append_left _ (List.mem_append_left _ (List.mem_append_left _ (List.mem_append_left _ (List.mem_append_right _ (List.mem_append_right _ (List.mem_append_left _ h)))))))))))))))))), List.forall_mem_cons.mpr ⟨(fun w h => (List.mem_cons_of_mem _ (List.mem_append_left _ (List.mem_append_left _ (List.mem_append_left _ (List.mem_append_left _ (List.mem_append_left _ (List.mem_append_left _ (List.mem_append_left _ (List.mem_append_left _ (List.mem_append_left _ (List.mem_append_left _ (List.mem_append_left _ (List.mem_append_left _ (List.mem_append_left _ (List.mem_append_right _ (List.mem_append_right _ (List.mem_append_right _ (List.mem_append_left _ h))))))))))))))))))), List.forall_mem_cons.mpr ⟨(fun w h => (List.mem_cons_of_mem _ (List.mem_append_left _ (List.mem_append_left _ (List.mem_append_left _ (List.mem_append_left _ (List.mem_append_left _ (List.mem_append_left _ (List.mem_append_left _ (List.mem_append_left _ (List.mem_append_left _ (List.mem_append_left _ (List.mem_append_left _ (List.mem_append_left _ (List.mem_append_left _ (List.mem_append_right _ (List.mem_append_right _ (List.mem_append_right _ (List.mem_append_right _ (List.mem_append_left _ h)))))))))))))))))))), List.forall_mem_cons.mpr ⟨(fun w h => (List.mem_cons_of_mem _ (List.mem_append_left _ (List.mem_append_left _ (List.mem_append_left _ (List.mem_append_left _ (List.mem_append_left _ (List.mem_append_left _ (List.mem_append_left _ (List.mem_append_left _ (List.mem_append_left _ (List.mem_append_left _ (List.mem_append_left _ (List.mem_append_left _ (List.mem_append_left _ (List.mem_append_right _ (List.mem_append_right _ (List.mem_append_right _ (List.mem_append_right _ (List.mem_append_right _ (List.mem_append_left _ h))))))))))))))))))))), List.forall_mem_cons.mpr ⟨(fun w h => (List.mem_cons_of_mem _ (List.mem_append_left _ (List.mem_append_left _ (List.mem_append_left _ (List.mem_append_left _ (List.mem_append_left _ (List.mem_append_left _ (List.mem_append_left _ (List.mem_append_left _ (List.mem_append_left _ (List.mem_append_left _ (List.mem_append_left _ (List.mem_append_left _ (List.mem_append_left _ (List.mem_append_right _ (List.mem_append_right _ (List.mem_append_right _ (List.mem_append_right _ (List.mem_append_right _ (List.mem_append_right _ (List.mem_append_left _ h)))))))))))))))))))))), List.forall_mem_cons.mpr ⟨(fun w h => (List.mem_cons_of_mem _ (List.mem_append_left _ (List.mem_append_left _ (List.mem_append_left _ (List.mem_append_left _ (List.mem_append_left _ (List.mem_append_left _ (List.mem_append_left _ (List.mem_append_left _ (List.mem_append_left _ (List.mem_append_left _ (List.mem_append_left _ (List.mem_append_left _ (List.mem_append_left _ (List.mem_append_right _ (List.mem_append_right _ (List.mem_append_right _ (List.mem_append_right _ (List.mem_append_right _ (List.mem_append_right _ (List.mem_append_right _ (List.mem_append_left _ h))))))))))))))))))))))), List.forall_mem_cons.mpr ⟨(fun w h => (List.mem_cons_of_mem _ (List.mem_append_left _ (List.mem_append_left _ (List.mem_append_left _ (List.mem_append_left _ (List.mem_append_left _ (List.mem_append_left _ (List.mem_append_left _ (List.mem_append_left _ (List.mem_append_left _ (List.mem_append_left _ (List.mem_append_left _ (List.mem_append_left _ (List.mem_append_left _ (List.mem_append_right _ (List.mem_append_right _ (List.mem_append_right _ (List.mem_append_right _ (List.mem_append_right _ (List.mem_append_right _ (List.mem_append_right _ (List.mem_append_right _ (List.mem_append_left _ h)))))))))))))))))))))))), List.forall_mem_cons.mpr ⟨(fun w h => (List.mem_cons_of_mem _ (List.mem_append_left _ (List.mem_append_left _ (List.mem_append_left _ (List.mem_append_left _ (List.mem_append_left _ (List.mem_append_left _ (List.mem_append_left _ (List.mem_append_left _ (List.mem_append_left _ (List.mem_append_left _ (List.mem_append_left _ (List.mem_append_left _ (List.mem_append_left _ (List.mem_append_right _ (List.mem_append_right _ (List.mem_append_right _ (List.mem_append_right _ (List.mem_append_right _ (List.mem_append_right _ (List.mem_append_right _ (List.mem_append_right _ (List.mem_append_right _ (List.mem_append_left _ h))))))))))))))))))))))))), List.forall_mem_cons.mpr ⟨(fun w h => (List.mem_cons_of_mem _ (List.mem_append_left _ (List.mem_append_left _ (List.mem_append_left _ (List.mem_append_left _ (List.mem_append_left _ (List.mem_append_left _ (List.mem_append_left _ (List.mem_append_left _ (List.mem_append_left _ (List.mem_append_left _ (List.mem_append_left _ (List.mem_append_left _ (List.mem_append_left _ (List.mem_append_right _ (List.mem_append_right _ (List.mem_append_right _ (List.mem_append_right _ (List.mem_append_right _ (List.mem_append_right _ (List.mem_append_right _ (List.mem_append_right _ (List.mem_append_right _ (List.mem_append_right _ (List.mem_append_left _ h)))))))))))))))))))))))))), List.forall_mem_cons.mpr ⟨(fun w h => (List.mem_cons_of_mem _ (List.mem_append_left _ (List.mem_append_left _ (List.mem_append_left _ (List.mem_append_left _ (List.mem_append_left _ (List.mem_append_left _ (List.mem_append_left _ (List.mem_append_left _ (List.mem_append_left _ (List.mem_append_left _ (List.mem_append_left _ (List.mem_append_left _ (List.mem_append_left _ (List.mem_append_right _ (List.mem_append_right _ (List.mem_append_right _ (List.mem_append_right _ (List.mem_append_right _ (List.mem_append_right _ (List.mem_append_right _ (List.mem_append_right _ (List.mem_append_right _ (List.mem_append_right _ (List.mem_append_right _ (List.mem_append_left _ h))))))))))))))))))))))))))), List.forall_mem_cons.mpr ⟨(fun w h => (List.mem_cons_of_mem _ (List.mem_append_left _ (List.mem_append_left _ (List.mem_append_left _ (List.mem_append_left _ (List.mem_append_left _ (List.mem_append_left _ (List.mem_append_left _ (List.mem_append_left _ (List.mem_append_left _ (List.mem_append_left _ (List.mem_append_left _ (List.mem_append_left _ (List.mem_append_left _ (List.mem_append_right _ (List.mem_append_right _ (List.mem_append_right _ (List.mem_append_right _ (List.mem_append_right _ (List.mem_append_right _ (List.mem_append_right _ (List.mem_append_right _ (List.mem_append_right _ (List.mem_append_right _ (List.mem_append_right _ (List.mem_append_right _ (List.mem_append_left _ h)))))))))))))))))))))))))))), List.forall_mem_cons.mpr ⟨(fun w h => (List.mem_cons_of_mem _ (List.mem_append_left _ (List.mem_append_left _ (List.mem_append_left _ (List.mem_append_left _ (List.mem_append_left _ (List.mem_append_left _ (List.mem_append_left _ (List.mem_append_left _ (List.mem_append_left _ (List.mem_append_left _ (List.mem_append_left _ (List.mem_append_left _ (List.mem_append_left _ (List.mem_append_right _ (List.mem_append_right _ (List.mem_append_right _ (List.mem_append_right _ (List.mem_append_right _ (List.mem_append_right _ (List.mem_append_right _ (List.mem_append_right _ (List.mem_append_right _ (List.mem_append_right _ (List.mem_append_right _ (List.mem_append_right _ (List.mem_append_right _ h)))))))))))))))))))))))))))), List.forall_mem_cons.mpr ⟨(fun w h => (List.mem_cons_of_mem _ (List.mem_append_left _ (List.mem_append_left _ (List.mem_append_left _ (List.mem_append_left _ (List.mem_append_left _ (List.mem_append_left _ (List.mem_append_left _ (List.mem_append_left _ (List.mem_append_left _ (List.mem_append_left _ (List.mem_append_left _ (List.mem_append_left _ (List.mem_append_right _ h))))))))))))))), List.forall_mem_cons.mpr ⟨(fun w h => (List.mem_cons_of_mem _ (List.mem_append_left _ (List.mem_append_left _ (List.mem_append_left _ (List.mem_append_left _ (List.mem_append_left _ (List.mem_append_left _ (List.mem_append_left _ (List.mem_append_left _ (List.mem_append_left _ (List.mem_append_left _ (List.mem_append_left _ (List.mem_append_right _ h)))))))))))))), List.forall_mem_cons.mpr ⟨(fun w h => (List.mem_cons_of_mem _ (List.mem_append_left _ (List.mem_append_left _ (List.mem_append_left _ (List.mem_append_left _ (List.mem_append_left _ (List.mem_append_left _ (List.mem_append_left _ (List.mem_append_left _ (List.mem_append_left _ (List.mem_append_left _ (List.mem_append_right _ h))))))))))))), List.forall_mem_cons.mpr ⟨(fun w h => (List.mem_cons_of_mem _ (List.mem_append_left _ (List.mem_append_left _ (List.mem_append_left _ (List.mem_append_left _ (List.mem_append_left _ (List.mem_append_left _ (List.mem_append_left _ (List.mem_append_left _ (List.mem_append_left _ (List.mem_append_right _ h)))))))))))), List.forall_mem_cons.mpr ⟨(fun w h => (List.mem_cons_of_mem _ (List.mem_append_left _ (List.mem_append_left _ (List.mem_append_left _ (List.mem_append_left _ (List.mem_append_left _ (List.mem_append_left _ (List.mem_append_left _ (List.mem_append_left _ (List.mem_append_right _ h))))))))))), List.forall_mem_cons.mpr ⟨(fun w h => (List.mem_cons_of_mem _ (List.mem_append_left _ (List.mem_append_left _ (List.mem_append_left _ (List.mem_append_left _ (List.mem_append_left _ (List.mem_append_left _ (List.mem_append_left _ (List.mem_append_right _ h)))))))))), List.forall_mem_cons.mpr ⟨(fun w h => (List.mem_cons_of_mem _ (List.mem_append_left _ (List.mem_append_left _ (List.mem_append_left _ (List.mem_append_left _ (List.mem_append_left _ (List.mem_append_left _ (List.mem_append_right _ h))))))))), List.forall_mem_cons.mpr ⟨(fun w h => (List.mem_cons_of_mem _ (List.mem_append_left _ (List.mem_append_left _ (List.mem_append_left _ (List.mem_append_left _ (List.mem_append_left _ (List.mem_append_right _ h)))))))), List.forall_mem_cons.mpr ⟨(fun w h => (List.mem_cons_of_mem _ (List.mem_append_left _ (List.mem_append_left _ (List.mem_append_left _ (List.mem_append_left _ (List.mem_append_right _ h))))))), List.forall_mem_cons.mpr ⟨(fun w h => (List.mem_cons_of_mem _ (List.mem_append_left _ (List.mem_append_left _ (List.mem_append_left _ (List.mem_append_right _ h)))))), fun _ h => absurd h List.not_mem_nil⟩⟩⟩⟩⟩⟩⟩⟩⟩⟩⟩⟩⟩⟩⟩⟩⟩⟩⟩⟩⟩⟩⟩⟩
set_option maxRecDepth 100000 in
set_option maxHeartbeats 4000000 in
theorem ggX9_daysToShort_X9_accountAt : GoodIn wsX9_daysToShort wsX9_accountAt := goodIn_ca (goodIn_k ch_wsX9_daysToShort chm_wsX9_daysToShort _ [(0, 6), (0, 7), (0, 8), (0, 0), (0, 9), (0, 10), (0, 11), (0, 12), (0, 13), (0, 14), (0, 15), (0, 16), (0, 17), (0, 18), (0, 19), (0, 20), (0, 21), (0, 22), (0, 23), (1, 0), (1, 1), (1, 2), (1, 3), (1, 4), (1, 5), (1, 6), (1, 7), (1, 8), (1, 9), (14, 0), (16, 0), (16, 1), (16, 2), (16, 3), (16, 4), (16, 5), (16, 6), (16, 7), (17, 0), (17, 1), (17, 2)] (by rfl) (by decide +kernel)) (goodIn_sub (fun _ h => List.mem_cons_of_mem _ (List.mem_append_left _ (List.mem_append_left _ (List.mem_append_right _ h)))) (by decide +kernel))
set_option maxRecDepth 20000 in
theorem gX9_daysToShort_X9_accountAt : GoodIn wsX9_daysToShort (wsV RX9 31 RX9 yX9_accountAt wsX9_accountAt) := goodIn_app (goodIn_of _ (by decide +kernel)) ggX9_daysToShort_X9_accountAt
set_option maxRecDepth 100000 in
set_option maxHeartbeats 4000000 in
theorem ggX9_daysToShort_X9_requireWithin : GoodIn wsX9_daysToShort wsX9_requireWithin := goodIn_ca (goodIn_k ch_wsX9_daysToShort chm_wsX9_daysToShort _ [(1, 12), (1, 13), (1, 14)] (by rfl) (by decide +kernel)) (goodIn_sub (fun _ h => List.mem_cons_of_mem _ (List.mem_append_left _ (List.mem_append_right _ h))) (by decide +kernel))
set_option maxRecDepth 20000 in
theorem gX9_daysToShort_X9_requireWithin : GoodIn wsX9_daysToShort (va_wsS RX9 20 yX9_requireWithin wsX9_requireWithin) := goodIn_app (goodIn_of _ (by decide +kernel)) ggX9_daysToShort_X9_requireWithin
set_option maxRecDepth 100000 in
set_option maxHeartbeats 4000000 in
theorem ggX9_daysToShort_X9_requireTop : GoodIn wsX9_daysToShort wsX9_requireTop := goodIn_ca (goodIn_k ch_wsX9_daysToShort chm_wsX9_daysToShort _ [(1, 17), (1, 18), (1, 19), (1, 20), (15, 0), (15, 1), (15, 2), (15, 3), (15, 4), (15, 5), (15, 6), (15, 7), (15, 8), (15, 9), (15, 10), (15, 11)] (by rfl) (by decide +kernel)) (goodIn_sub (fun _ h => List.mem_cons_of_mem _ (List.mem_append_right _ h)) (by decide +kernel))
set_option maxRecDepth 20000 in
theorem gX9_daysToShort_X9_requireTop : GoodIn wsX9_daysToShort (va_wsS RX9 65 yX9_requireTop wsX9_requireTop) := goodIn_app (goodIn_of _ (by decide +kernel)) ggX9_daysToShort_X9_requireTop
set_option maxRecDepth 100000 in
set_option maxHeartbeats 4000000 in
theorem ggX9_daysToShort_X3_keep : GoodIn wsX9_daysToShort wsX3_keep := goodIn_k ch_wsX9_daysToShort chm_wsX9_daysToShort _ [(2, 1), (2, 2), (2, 3), (2, 4), (2, 5), (2, 6), (2, 7), (2, 8), (2, 9), (2, 10), (2, 11), (2, 12), (0, 12), (0, 13), (0, 14), (0, 15), (0, 16), (2, 13), (0, 18), (0, 19), (0, 20), (0, 21), (0, 22), (0, 23), (1, 0), (1, 1), (1, 2), (1, 3), (1, 4), (1, 5), (1, 6), (1, 7), (1, 8), (1, 9), (2, 14), (2, 15), (2, 16), (2, 17), (2, 18), (2, 19), (2, 20), (2, 21), (2, 22), (2, 23), (3, 0), (3, 1), (3, 2), (3, 3), (3, 4), (3, 5), (3, 6), (3, 7), (3, 8), (3, 9), (3, 10), (3, 11), (3, 12), (3, 13), (3, 14), (3, 15), (3, 16), (3, 17), (3, 18), (3, 19), (3, 20), (3, 21), (3, 22), (3, 23), (4, 0), (4, 1), (4, 2), (4, 3), (4, 4), (4, 5), (4, 6), (4, 7), (4, 8), (4, 9), (4, 10), (4, 11), (4, 12), (4, 13), (4, 14), (4, 15), (4, 16), (16, 0), (16, 1), (16, 2), (16, 3), (16, 4), (16, 5), (16, 6), (16, 7), (15, 0), (15, 1), (15, 2), (15, 3), (15, 4), (15, 5), (15, 6), (15, 7), (15, 8), (15, 9), (15, 10), (15, 11), (17, 0), (17, 1), (17, 2), (18, 0), (18, 1), (18, 2), (18, 3), (18, 4), (19, 0), (19, 1), (19, 2), (19, 3), (19, 4), (19, 5), (19, 6), (19, 7), (19, 8), (19, 9), (20, 0), (20, 1), (20, 2), (20, 3), (20, 4), (20, 5), (20, 6), (20, 7), (20, 8), (21, 0), (21, 1), (21, 2), (21, 3), (21, 4), (21, 5), (21, 6)] (by rfl) (by decide +kernel)
set_option maxRecDepth 20000 in
theorem gX9_daysToShort_X3_keep : GoodIn wsX9_daysToShort (wsV RX9 203 RX3 yX3_keep wsX3_keep) := goodIn_app (goodIn_of _ (by decide +kernel)) ggX9_daysToShort_X3_keep
set_option maxRecDepth 100000 in
set_option maxHeartbeats 4000000 in
theorem ggX9_daysToShort_X3_passDay : GoodIn wsX9_daysToShort wsX3_passDay := goodIn_k ch_wsX9_daysToShort chm_wsX9_daysToShort _ [(4, 20), (4, 21), (2, 2), (4, 22), (4, 23), (5, 0), (5, 1), (5, 2), (5, 3), (5, 4), (5, 5), (5, 6), (2, 0), (5, 7), (2, 10), (2, 11), (2, 12), (0, 12), (0, 13), (0, 14), (0, 15), (0, 16), (2, 13), (0, 18), (0, 19), (0, 20), (0, 21), (0, 22), (0, 23), (1, 0), (1, 1), (1, 2), (1, 3), (1, 4), (1, 5), (1, 6), (1, 7), (1, 8), (1, 9), (5, 8), (5, 9), (5, 10), (4, 11), (5, 11), (4, 15), (4, 13), (5, 12), (5, 13), (5, 14), (5, 15), (5, 16), (5, 17), (5, 18), (5, 19), (2, 6), (2, 5), (5, 20), (5, 21), (5, 22), (5, 23), (6, 0), (6, 1), (6, 2), (6, 3), (6, 4), (6, 5), (6, 6), (6, 7), (6, 8), (6, 9), (6, 10), (6, 11), (6, 12), (6, 13), (6, 14), (6, 15), (2, 17), (6, 16), (6, 17), (6, 18), (6, 19), (6, 20), (6, 21), (6, 22), (6, 23), (7, 0), (7, 1), (7, 2), (7, 3), (7, 4), (7, 5), (7, 6), (7, 7), (7, 8), (7, 9), (7, 10), (2, 7), (7, 11), (7, 12), (7, 13), (3, 2), (7, 14), (7, 15), (7, 16), (7, 17), (7, 18), (7, 19), (7, 20), (7, 21), (7, 22), (7, 23), (8, 0), (8, 1), (8, 2), (8, 3), (8, 4), (8, 5), (8, 6), (8, 7), (8, 8), (8, 9), (8, 10), (8, 11), (8, 12), (8, 13), (8, 14), (8, 15), (2, 4), (8, 16), (8, 17), (8, 18), (8, 19), (8, 20), (8, 21), (8, 22), (8, 23), (9, 0), (9, 1), (9, 2), (9, 3), (9, 4), (9, 5), (9, 6), (9, 7), (9, 8), (9, 9), (9, 10), (9, 11), (9, 12), (9, 13), (9, 14), (9, 15), (9, 16), (9, 17), (9, 18), (9, 19), (9, 20), (9, 21), (9, 22), (9, 23), (10, 0), (10, 1), (10, 2), (10, 3), (2, 8), (2, 9), (10, 4), (10, 5), (10, 6), (10, 7), (10, 8), (10, 9), (3, 4), (3, 5), (10, 10), (10, 11), (10, 12), (3, 9), (10, 13), (10, 14), (3, 11), (10, 15), (3, 15), (10, 16), (10, 17), (10, 18), (10, 19), (10, 20), (10, 21), (10, 22), (10, 23), (4, 0), (11, 0), (4, 6), (4, 2), (11, 1), (11, 2), (11, 3), (11, 4), (11, 5), (11, 6), (11, 7), (11, 8), (11, 9), (11, 10), (11, 11), (11, 12), (11, 13), (11, 14), (3, 13), (11, 15), (11, 16), (11, 17), (11, 18), (11, 19), (11, 20), (11, 21), (11, 22), (11, 23), (12, 0), (12, 1), (12, 2), (12, 3), (12, 4), (12, 5), (2, 19), (2, 21), (12, 6), (12, 7), (12, 8), (12, 9), (12, 10), (4, 4), (12, 11), (12, 12), (16, 0), (16, 1), (16, 2), (16, 3), (16, 4), (16, 5), (16, 6), (16, 7), (22, 0), (17, 0), (17, 1), (17, 2), (21, 0), (21, 1), (21, 2), (21, 3), (21, 4), (21, 5), (21, 6), (15, 0), (15, 1), (15, 2), (15, 3), (15, 4), (15, 5), (15, 6), (15, 7), (15, 8), (15, 9), (15, 10), (15, 11), (18, 0), (18, 1), (18, 2), (18, 3), (18, 4), (20, 0), (20, 1), (20, 2), (20, 3), (20, 4), (20, 5), (20, 6), (20, 7), (20, 8), (23, 0), (23, 1), (23, 2), (19, 0), (19, 1), (19, 2), (19, 3), (19, 4), (19, 5), (19, 6), (19, 7), (19, 8), (19, 9)] (by rfl) (by decide +kernel)
set_option maxRecDepth 20000 in
theorem gX9_daysToShort_X3_passDay : GoodIn wsX9_daysToShort (wsV RX9 113 RX3 yX3_passDay wsX3_passDay) := goodIn_app (goodIn_of _ (by decide +kernel)) ggX9_daysToShort_X3_passDay
set_option maxRecDepth 100000 in
set_option maxHeartbeats 4000000 in
theorem ggX9_daysToShort_X3_goBack : GoodIn wsX9_daysToShort wsX3_goBack := goodIn_k ch_wsX9_daysToShort chm_wsX9_daysToShort _ [(12, 16), (2, 3), (2, 2), (2, 4), (2, 5), (2, 6), (2, 7), (2, 8), (2, 9), (2, 10), (2, 11), (2, 12), (0, 12), (0, 13), (0, 14), (0, 15), (0, 16), (2, 13), (0, 18), (0, 19), (0, 20), (0, 21), (0, 22), (0, 23), (1, 0), (1, 1), (1, 2), (1, 3), (1, 4), (1, 5), (1, 6), (1, 7), (1, 8), (1, 9), (12, 17), (12, 18), (12, 19), (2, 17), (12, 20), (2, 20), (2, 19), (2, 22), (2, 21), (12, 21), (12, 22), (12, 23), (3, 2), (13, 0), (3, 4), (3, 5), (13, 1), (13, 2), (13, 3), (3, 9), (13, 4), (3, 12), (3, 11), (3, 14), (3, 13), (3, 16), (3, 15), (3, 17), (3, 18), (3, 19), (3, 20), (13, 5), (13, 6), (13, 7), (4, 0), (13, 8), (4, 3), (4, 2), (4, 5), (4, 4), (4, 7), (4, 6), (13, 9), (13, 10), (13, 11), (4, 11), (13, 12), (4, 14), (4, 13), (4, 16), (4, 15), (16, 0), (16, 1), (16, 2), (16, 3), (16, 4), (16, 5), (16, 6), (16, 7), (15, 0), (15, 1), (15, 2), (15, 3), (15, 4), (15, 5), (15, 6), (15, 7), (15, 8), (15, 9), (15, 10), (15, 11), (17, 0), (17, 1), (17, 2), (18, 0), (18, 1), (18, 2), (18, 3), (18, 4), (19, 0), (19, 1), (19, 2), (19, 3), (19, 4), (19, 5), (19, 6), (19, 7), (19, 8), (19, 9), (20, 0), (20, 1), (20, 2), (20, 3), (20, 4), (20, 5), (20, 6), (20, 7), (20, 8), (21, 0), (21, 1), (21, 2), (21, 3), (21, 4), (21, 5), (21, 6)] (by rfl) (by decide +kernel)
set_option maxRecDepth 20000 in
theorem gX9_daysToShort_X3_goBack : GoodIn wsX9_daysToShort (wsV RX9 209 RX3 yX3_goBack wsX3_goBack) := goodIn_app (goodIn_of _ (by decide +kernel)) ggX9_daysToShort_X3_goBack
theorem dX9_daysToShort_0 : decode cX9_daysToShort 0 = .ok (.aload_n 0, 1) := by decide +kernel
theorem dX9_daysToShort_1 : decode cX9_daysToShort 1 = .ok (.iload_n 1, 1) := by decide +kernel
theorem dX9_daysToShort_2 : decode cX9_daysToShort 2 = .ok (.invokevirtual 31, 3) := by decide +kernel
theorem dX9_daysToShort_5 : decode cX9_daysToShort 5 = .ok (.astore_n 3, 1) := by decide +kernel
theorem dX9_daysToShort_6 : decode cX9_daysToShort 6 = .ok (.iload_n 2, 1) := by decide +kernel
theorem dX9_daysToShort_7 : decode cX9_daysToShort 7 = .ok (.iconst 1, 1) := by decide +kernel
theorem dX9_daysToShort_8 : decode cX9_daysToShort 8 = .ok (.bipush 60, 2) := by decide +kernel
theorem dX9_daysToShort_10 : decode cX9_daysToShort 10 = .ok (.invokestatic 20, 3) := by decide +kernel
theorem dX9_daysToShort_13 : decode cX9_daysToShort 13 = .ok (.aload_n 3, 1) := by decide +kernel
theorem dX9_daysToShort_14 : decode cX9_daysToShort 14 = .ok (.invokestatic 65, 3) := by decide +kernel
theorem dX9_daysToShort_17 : decode cX9_daysToShort 17 = .ok (.iconst (-1), 1) := by decide +kernel
theorem dX9_daysToShort_18 : decode cX9_daysToShort 18 = .ok (.istore 4, 2) := by decide +kernel
theorem dX9_daysToShort_20 : decode cX9_daysToShort 20 = .ok (.aload_n 0, 1) := by decide +kernel
theorem dX9_daysToShort_21 : decode cX9_daysToShort 21 = .ok (.getfield 10, 3) := by decide +kernel
theorem dX9_daysToShort_24 : decode cX9_daysToShort 24 = .ok (.invokevirtual 203, 3) := by decide +kernel
theorem dX9_daysToShort_27 : decode cX9_daysToShort 27 = .ok (.iconst 1, 1) := by decide +kernel
theorem dX9_daysToShort_28 : decode cX9_daysToShort 28 = .ok (.istore 5, 2) := by decide +kernel
theorem dX9_daysToShort_30 : decode cX9_daysToShort 30 = .ok (.iload 4, 2) := by decide +kernel
theorem dX9_daysToShort_32 : decode cX9_daysToShort 32 = .ok (.ifCond .ge 35, 3) := by decide +kernel
theorem dX9_daysToShort_35 : decode cX9_daysToShort 35 = .ok (.iload 5, 2) := by decide +kernel
theorem dX9_daysToShort_37 : decode cX9_daysToShort 37 = .ok (.iload_n 2, 1) := by decide +kernel
theorem dX9_daysToShort_38 : decode cX9_daysToShort 38 = .ok (.if_icmp .gt 29, 3) := by decide +kernel
theorem dX9_daysToShort_41 : decode cX9_daysToShort 41 = .ok (.aload_n 0, 1) := by decide +kernel
theorem dX9_daysToShort_42 : decode cX9_daysToShort 42 = .ok (.getfield 10, 3) := by decide +kernel
theorem dX9_daysToShort_45 : decode cX9_daysToShort 45 = .ok (.invokevirtual 113, 3) := by decide +kernel
theorem dX9_daysToShort_48 : decode cX9_daysToShort 48 = .ok (.aload_n 3, 1) := by decide +kernel
theorem dX9_daysToShort_49 : decode cX9_daysToShort 49 = .ok (.getfield 119, 3) := by decide +kernel
theorem dX9_daysToShort_52 : decode cX9_daysToShort 52 = .ok (.lconst 0, 1) := by decide +kernel
theorem dX9_daysToShort_53 : decode cX9_daysToShort 53 = .ok (.lcmp, 1) := by decide +kernel
theorem dX9_daysToShort_54 : decode cX9_daysToShort 54 = .ok (.ifCond .ge 7, 3) := by decide +kernel
theorem dX9_daysToShort_57 : decode cX9_daysToShort 57 = .ok (.iload 5, 2) := by decide +kernel
theorem dX9_daysToShort_59 : decode cX9_daysToShort 59 = .ok (.istore 4, 2) := by decide +kernel
theorem dX9_daysToShort_61 : decode cX9_daysToShort 61 = .ok (.iinc 5 1, 3) := by decide +kernel
theorem dX9_daysToShort_64 : decode cX9_daysToShort 64 = .ok (.goto (-34), 3) := by decide +kernel
theorem dX9_daysToShort_67 : decode cX9_daysToShort 67 = .ok (.aload_n 0, 1) := by decide +kernel
theorem dX9_daysToShort_68 : decode cX9_daysToShort 68 = .ok (.getfield 10, 3) := by decide +kernel
theorem dX9_daysToShort_71 : decode cX9_daysToShort 71 = .ok (.invokevirtual 209, 3) := by decide +kernel
theorem dX9_daysToShort_74 : decode cX9_daysToShort 74 = .ok (.iload 4, 2) := by decide +kernel
theorem dX9_daysToShort_76 : decode cX9_daysToShort 76 = .ok (.ireturn, 1) := by decide +kernel
theorem dX9_requireWithin_0 : decode cX9_requireWithin 0 = .ok (.iload_n 0, 1) := by decide +kernel
theorem dX9_requireWithin_1 : decode cX9_requireWithin 1 = .ok (.iload_n 1, 1) := by decide +kernel
theorem dX9_requireWithin_2 : decode cX9_requireWithin 2 = .ok (.if_icmp .lt 8, 3) := by decide +kernel
theorem dX9_requireWithin_5 : decode cX9_requireWithin 5 = .ok (.iload_n 0, 1) := by decide +kernel
theorem dX9_requireWithin_6 : decode cX9_requireWithin 6 = .ok (.iload_n 2, 1) := by decide +kernel
theorem dX9_requireWithin_7 : decode cX9_requireWithin 7 = .ok (.if_icmp .le 13, 3) := by decide +kernel
theorem dX9_requireWithin_10 : decode cX9_requireWithin 10 = .ok (.new 212, 3) := by decide +kernel
theorem dX9_requireWithin_13 : decode cX9_requireWithin 13 = .ok (.dup, 1) := by decide +kernel
theorem dX9_requireWithin_14 : decode cX9_requireWithin 14 = .ok (.ldc 214, 2) := by decide +kernel
theorem dX9_requireWithin_16 : decode cX9_requireWithin 16 = .ok (.invokespecial 216, 3) := by decide +kernel
theorem dX9_requireWithin_19 : decode cX9_requireWithin 19 = .ok (.athrow, 1) := by decide +kernel
theorem dX9_requireWithin_20 : decode cX9_requireWithin 20 = .ok (.return_, 1) := by decide +kernel
set_option maxRecDepth 20000 in
theorem ggX9_requireAmount_X9_requireWithin : GoodIn wsX9_requireAmount wsX9_requireWithin := goodIn_ca (goodIn_r _ [8, 1, 2] (by decide +kernel) (by decide +kernel)) (goodIn_sub (fun _ h => List.mem_cons_of_mem _ (List.mem_append_right _ h)) (by decide +kernel))
set_option maxRecDepth 20000 in
theorem gX9_requireAmount_X9_requireWithin : GoodIn wsX9_requireAmount (va_wsS RX9 20 yX9_requireWithin wsX9_requireWithin) := goodIn_app (goodIn_of _ (by decide +kernel)) ggX9_requireAmount_X9_requireWithin
theorem dX9_requireAmount_0 : decode cX9_requireAmount 0 = .ok (.iload_n 0, 1) := by decide +kernel
theorem dX9_requireAmount_1 : decode cX9_requireAmount 1 = .ok (.ldc 39, 2) := by decide +kernel
theorem dX9_requireAmount_3 : decode cX9_requireAmount 3 = .ok (.ldc 40, 2) := by decide +kernel
theorem dX9_requireAmount_5 : decode cX9_requireAmount 5 = .ok (.invokestatic 20, 3) := by decide +kernel
theorem dX9_requireAmount_8 : decode cX9_requireAmount 8 = .ok (.iload_n 0, 1) := by decide +kernel
theorem dX9_requireAmount_9 : decode cX9_requireAmount 9 = .ok (.ifCond .ne 13, 3) := by decide +kernel
theorem dX9_requireAmount_12 : decode cX9_requireAmount 12 = .ok (.new 212, 3) := by decide +kernel
theorem dX9_requireAmount_15 : decode cX9_requireAmount 15 = .ok (.dup, 1) := by decide +kernel
theorem dX9_requireAmount_16 : decode cX9_requireAmount 16 = .ok (.ldc 217, 2) := by decide +kernel
theorem dX9_requireAmount_18 : decode cX9_requireAmount 18 = .ok (.invokespecial 216, 3) := by decide +kernel
theorem dX9_requireAmount_21 : decode cX9_requireAmount 21 = .ok (.athrow, 1) := by decide +kernel
theorem dX9_requireAmount_22 : decode cX9_requireAmount 22 = .ok (.return_, 1) := by decide +kernel
theorem dX9_requireTop_0 : decode cX9_requireTop 0 = .ok (.aload_n 0, 1) := by decide +kernel
theorem dX9_requireTop_1 : decode cX9_requireTop 1 = .ok (.getfield 41, 3) := by decide +kernel
theorem dX9_requireTop_4 : decode cX9_requireTop 4 = .ok (.ifnull 13, 3) := by decide +kernel
theorem dX9_requireTop_7 : decode cX9_requireTop 7 = .ok (.new 47, 3) := by decide +kernel
theorem dX9_requireTop_10 : decode cX9_requireTop 10 = .ok (.dup, 1) := by decide +kernel
theorem dX9_requireTop_11 : decode cX9_requireTop 11 = .ok (.ldc 219, 2) := by decide +kernel
theorem dX9_requireTop_13 : decode cX9_requireTop 13 = .ok (.invokespecial 51, 3) := by decide +kernel
theorem dX9_requireTop_16 : decode cX9_requireTop 16 = .ok (.athrow, 1) := by decide +kernel
theorem dX9_requireTop_17 : decode cX9_requireTop 17 = .ok (.return_, 1) := by decide +kernel
set_option maxRecDepth 20000 in
theorem ggX9_requireAccountLeft_Jx4a65c_size_8abf5 : GoodIn wsX9_requireAccountLeft wsJx4a65c_size_8abf5 := goodIn_r _ [9, 10, 20, 21, 22] (by decide +kernel) (by decide +kernel)
set_option maxRecDepth 20000 in
theorem gX9_requireAccountLeft_Jx4a65c_size_8abf5 : GoodIn wsX9_requireAccountLeft (wsV RX9 73 RJx4a65c yJx4a65c_size_8abf5 wsJx4a65c_size_8abf5) := goodIn_app (goodIn_of _ (by decide +kernel)) ggX9_requireAccountLeft_Jx4a65c_size_8abf5
theorem dX9_requireAccountLeft_0 : decode cX9_requireAccountLeft 0 = .ok (.aload_n 0, 1) := by decide +kernel
theorem dX9_requireAccountLeft_1 : decode cX9_requireAccountLeft 1 = .ok (.getfield 10, 3) := by decide +kernel
theorem dX9_requireAccountLeft_4 : decode cX9_requireAccountLeft 4 = .ok (.getfield 148, 3) := by decide +kernel
theorem dX9_requireAccountLeft_7 : decode cX9_requireAccountLeft 7 = .ok (.invokevirtual 73, 3) := by decide +kernel
theorem dX9_requireAccountLeft_10 : decode cX9_requireAccountLeft 10 = .ok (.bipush 10, 2) := by decide +kernel
theorem dX9_requireAccountLeft_12 : decode cX9_requireAccountLeft 12 = .ok (.if_icmp .lt 13, 3) := by decide +kernel
theorem dX9_requireAccountLeft_15 : decode cX9_requireAccountLeft 15 = .ok (.new 47, 3) := by decide +kernel
theorem dX9_requireAccountLeft_18 : decode cX9_requireAccountLeft 18 = .ok (.dup, 1) := by decide +kernel
theorem dX9_requireAccountLeft_19 : decode cX9_requireAccountLeft 19 = .ok (.ldc 221, 2) := by decide +kernel
theorem dX9_requireAccountLeft_21 : decode cX9_requireAccountLeft 21 = .ok (.invokespecial 51, 3) := by decide +kernel
theorem dX9_requireAccountLeft_24 : decode cX9_requireAccountLeft 24 = .ok (.athrow, 1) := by decide +kernel
theorem dX9_requireAccountLeft_25 : decode cX9_requireAccountLeft 25 = .ok (.return_, 1) := by decide +kernel
def ch_wsX9_accountAt : List (List Cond) := [wsX9_accountAt_r1, wsX9_accountAt_r2, wsX90, wsX30, wsJx4a65c0]
theorem chm_wsX9_accountAt : ∀ c ∈ ch_wsX9_accountAt, ∀ w ∈ c, w ∈ wsX9_accountAt := List.forall_mem_cons.mpr ⟨(fun w h => (List.mem_cons_of_mem _ (List.mem_append_left _ (List.mem_append_left _ (List.mem_append_left _ (List.mem_append_left _ (List.mem_append_left _ h))))))), List.forall_mem_cons.mpr ⟨(fun w h => (List.mem_cons_of_mem _ (List.mem_append_left _ (List.mem_append_left _ (List.mem_append_left _ (List.mem_append_left _ (List.mem_append_right _ h))))))), List.forall_mem_cons.mpr ⟨(fun w h => (List.mem_cons_of_mem _ (List.mem_append_left _ (List.mem_append_left _ (List.mem_append_left _ (List.mem_append_right _ h)))))), List.forall_mem_cons.mpr ⟨(fun w h => (List.mem_cons_of_mem _ (List.mem_append_left _ (List.mem_append_left _ (List.mem_append_right _ h))))), List.forall_mem_cons.mpr ⟨(fun w h => (List.mem_cons_of_mem _ (List.mem_append_left _ (List.mem_append_right _ h)))), fun _ h => absurd h List.not_mem_nil⟩⟩⟩⟩⟩
set_option maxRecDepth 100000 in
set_option maxHeartbeats 4000000 in
theorem ggX9_accountAt_Jx4a65c_size_8abf5 : GoodIn wsX9_accountAt wsJx4a65c_size_8abf5 := goodIn_k ch_wsX9_accountAt chm_wsX9_accountAt _ [(0, 9), (0, 10), (4, 0), (4, 1), (4, 2)] (by rfl) (by decide +kernel)
set_option maxRecDepth 20000 in
theorem gX9_accountAt_Jx4a65c_size_8abf5 : GoodIn wsX9_accountAt (wsV RX9 73 RJx4a65c yJx4a65c_size_8abf5 wsJx4a65c_size_8abf5) := goodIn_app (goodIn_of _ (by decide +kernel)) ggX9_accountAt_Jx4a65c_size_8abf5
set_option maxRecDepth 100000 in
set_option maxHeartbeats 4000000 in
theorem ggX9_accountAt_Jx4a65c_get_915e3 : GoodIn wsX9_accountAt wsJx4a65c_get_915e3 := goodIn_k ch_wsX9_accountAt chm_wsX9_accountAt _ [(0, 14), (0, 10), (0, 15), (0, 16), (0, 17), (0, 18), (0, 19), (0, 20), (0, 21), (0, 22), (0, 23), (1, 0), (1, 1), (0, 8), (1, 2), (1, 3), (4, 0), (4, 1), (4, 2)] (by rfl) (by decide +kernel)
set_option maxRecDepth 20000 in
theorem gX9_accountAt_Jx4a65c_get_915e3 : GoodIn wsX9_accountAt (wsV RX9 228 RJx4a65c yJx4a65c_get_915e3 wsJx4a65c_get_915e3) := goodIn_app (goodIn_of _ (by decide +kernel)) ggX9_accountAt_Jx4a65c_get_915e3
theorem dX9_accountAt_0 : decode cX9_accountAt 0 = .ok (.iload_n 1, 1) := by decide +kernel
theorem dX9_accountAt_1 : decode cX9_accountAt 1 = .ok (.ifCond .lt 17, 3) := by decide +kernel
theorem dX9_accountAt_4 : decode cX9_accountAt 4 = .ok (.iload_n 1, 1) := by decide +kernel
theorem dX9_accountAt_5 : decode cX9_accountAt 5 = .ok (.aload_n 0, 1) := by decide +kernel
theorem dX9_accountAt_6 : decode cX9_accountAt 6 = .ok (.getfield 10, 3) := by decide +kernel
theorem dX9_accountAt_9 : decode cX9_accountAt 9 = .ok (.getfield 148, 3) := by decide +kernel
theorem dX9_accountAt_12 : decode cX9_accountAt 12 = .ok (.invokevirtual 73, 3) := by decide +kernel
theorem dX9_accountAt_15 : decode cX9_accountAt 15 = .ok (.if_icmp .lt 13, 3) := by decide +kernel
theorem dX9_accountAt_18 : decode cX9_accountAt 18 = .ok (.new 223, 3) := by decide +kernel
theorem dX9_accountAt_21 : decode cX9_accountAt 21 = .ok (.dup, 1) := by decide +kernel
theorem dX9_accountAt_22 : decode cX9_accountAt 22 = .ok (.ldc 225, 2) := by decide +kernel
theorem dX9_accountAt_24 : decode cX9_accountAt 24 = .ok (.invokespecial 227, 3) := by decide +kernel
theorem dX9_accountAt_27 : decode cX9_accountAt 27 = .ok (.athrow, 1) := by decide +kernel
theorem dX9_accountAt_28 : decode cX9_accountAt 28 = .ok (.aload_n 0, 1) := by decide +kernel
theorem dX9_accountAt_29 : decode cX9_accountAt 29 = .ok (.getfield 10, 3) := by decide +kernel
theorem dX9_accountAt_32 : decode cX9_accountAt 32 = .ok (.getfield 148, 3) := by decide +kernel
theorem dX9_accountAt_35 : decode cX9_accountAt 35 = .ok (.iload_n 1, 1) := by decide +kernel
theorem dX9_accountAt_36 : decode cX9_accountAt 36 = .ok (.invokevirtual 228, 3) := by decide +kernel
theorem dX9_accountAt_39 : decode cX9_accountAt 39 = .ok (.checkcast 42, 3) := by decide +kernel
theorem dX9_accountAt_42 : decode cX9_accountAt 42 = .ok (.areturn, 1) := by decide +kernel
def ch_wsX9_lineAt : List (List Cond) := [wsX9_lineAt_r1, wsX9_lineAt_r2, wsX90, wsX30, wsJx4a65c0]
theorem chm_wsX9_lineAt : ∀ c ∈ ch_wsX9_lineAt, ∀ w ∈ c, w ∈ wsX9_lineAt := List.forall_mem_cons.mpr ⟨(fun w h => (List.mem_cons_of_mem _ (List.mem_append_left _ (List.mem_append_left _ (List.mem_append_left _ (List.mem_append_left _ (List.mem_append_left _ h))))))), List.forall_mem_cons.mpr ⟨(fun w h => (List.mem_cons_of_mem _ (List.mem_append_left _ (List.mem_append_left _ (List.mem_append_left _ (List.mem_append_left _ (List.mem_append_right _ h))))))), List.forall_mem_cons.mpr ⟨(fun w h => (List.mem_cons_of_mem _ (List.mem_append_left _ (List.mem_append_left _ (List.mem_append_left _ (List.mem_append_right _ h)))))), List.forall_mem_cons.mpr ⟨(fun w h => (List.mem_cons_of_mem _ (List.mem_append_left _ (List.mem_append_left _ (List.mem_append_right _ h))))), List.forall_mem_cons.mpr ⟨(fun w h => (List.mem_cons_of_mem _ (List.mem_append_left _ (List.mem_append_right _ h)))), fun _ h => absurd h List.not_mem_nil⟩⟩⟩⟩⟩
set_option maxRecDepth 100000 in
set_option maxHeartbeats 4000000 in
theorem ggX9_lineAt_Jx4a65c_size_8abf5 : GoodIn wsX9_lineAt wsJx4a65c_size_8abf5 := goodIn_k ch_wsX9_lineAt chm_wsX9_lineAt _ [(0, 9), (0, 10), (4, 0), (4, 1), (4, 2)] (by rfl) (by decide +kernel)
set_option maxRecDepth 20000 in
theorem gX9_lineAt_Jx4a65c_size_8abf5 : GoodIn wsX9_lineAt (wsV RX9 73 RJx4a65c yJx4a65c_size_8abf5 wsJx4a65c_size_8abf5) := goodIn_app (goodIn_of _ (by decide +kernel)) ggX9_lineAt_Jx4a65c_size_8abf5
set_option maxRecDepth 100000 in
set_option maxHeartbeats 4000000 in
theorem ggX9_lineAt_Jx4a65c_get_915e3 : GoodIn wsX9_lineAt wsJx4a65c_get_915e3 := goodIn_k ch_wsX9_lineAt chm_wsX9_lineAt _ [(0, 14), (0, 10), (0, 15), (0, 16), (0, 17), (0, 18), (0, 19), (0, 20), (0, 21), (0, 22), (0, 23), (1, 0), (1, 1), (0, 8), (1, 2), (1, 3), (4, 0), (4, 1), (4, 2)] (by rfl) (by decide +kernel)
set_option maxRecDepth 20000 in
theorem gX9_lineAt_Jx4a65c_get_915e3 : GoodIn wsX9_lineAt (wsV RX9 228 RJx4a65c yJx4a65c_get_915e3 wsJx4a65c_get_915e3) := goodIn_app (goodIn_of _ (by decide +kernel)) ggX9_lineAt_Jx4a65c_get_915e3
theorem dX9_lineAt_0 : decode cX9_lineAt 0 = .ok (.iload_n 1, 1) := by decide +kernel
theorem dX9_lineAt_1 : decode cX9_lineAt 1 = .ok (.ifCond .lt 17, 3) := by decide +kernel
theorem dX9_lineAt_4 : decode cX9_lineAt 4 = .ok (.iload_n 1, 1) := by decide +kernel
theorem dX9_lineAt_5 : decode cX9_lineAt 5 = .ok (.aload_n 0, 1) := by decide +kernel
theorem dX9_lineAt_6 : decode cX9_lineAt 6 = .ok (.getfield 10, 3) := by decide +kernel
theorem dX9_lineAt_9 : decode cX9_lineAt 9 = .ok (.getfield 69, 3) := by decide +kernel
theorem dX9_lineAt_12 : decode cX9_lineAt 12 = .ok (.invokevirtual 73, 3) := by decide +kernel
theorem dX9_lineAt_15 : decode cX9_lineAt 15 = .ok (.if_icmp .lt 13, 3) := by decide +kernel
theorem dX9_lineAt_18 : decode cX9_lineAt 18 = .ok (.new 223, 3) := by decide +kernel
theorem dX9_lineAt_21 : decode cX9_lineAt 21 = .ok (.dup, 1) := by decide +kernel
theorem dX9_lineAt_22 : decode cX9_lineAt 22 = .ok (.ldc 232, 2) := by decide +kernel
theorem dX9_lineAt_24 : decode cX9_lineAt 24 = .ok (.invokespecial 227, 3) := by decide +kernel
theorem dX9_lineAt_27 : decode cX9_lineAt 27 = .ok (.athrow, 1) := by decide +kernel
theorem dX9_lineAt_28 : decode cX9_lineAt 28 = .ok (.aload_n 0, 1) := by decide +kernel
theorem dX9_lineAt_29 : decode cX9_lineAt 29 = .ok (.getfield 10, 3) := by decide +kernel
theorem dX9_lineAt_32 : decode cX9_lineAt 32 = .ok (.getfield 69, 3) := by decide +kernel
theorem dX9_lineAt_35 : decode cX9_lineAt 35 = .ok (.iload_n 1, 1) := by decide +kernel
theorem dX9_lineAt_36 : decode cX9_lineAt 36 = .ok (.invokevirtual 228, 3) := by decide +kernel
theorem dX9_lineAt_39 : decode cX9_lineAt 39 = .ok (.checkcast 177, 3) := by decide +kernel
theorem dX9_lineAt_42 : decode cX9_lineAt 42 = .ok (.areturn, 1) := by decide +kernel
def ch_wsX9_flowAt : List (List Cond) := [wsX9_flowAt_r1, wsX9_flowAt_r2, wsX90, wsX30, wsJx4a65c0]
theorem chm_wsX9_flowAt : ∀ c ∈ ch_wsX9_flowAt, ∀ w ∈ c, w ∈ wsX9_flowAt := List.forall_mem_cons.mpr ⟨(fun w h => (List.mem_cons_of_mem _ (List.mem_append_left _ (List.mem_append_left _ (List.mem_append_left _ (List.mem_append_left _ (List.mem_append_left _ h))))))), List.forall_mem_cons.mpr ⟨(fun w h => (List.mem_cons_of_mem _ (List.mem_append_left _ (List.mem_append_left _ (List.mem_append_left _ (List.mem_append_left _ (List.mem_append_right _ h))))))), List.forall_mem_cons.mpr ⟨(fun w h => (List.mem_cons_of_mem _ (List.mem_append_left _ (List.mem_append_left _ (List.mem_append_left _ (List.mem_append_right _ h)))))), List.forall_mem_cons.mpr ⟨(fun w h => (List.mem_cons_of_mem _ (List.mem_append_left _ (List.mem_append_left _ (List.mem_append_right _ h))))), List.forall_mem_cons.mpr ⟨(fun w h => (List.mem_cons_of_mem _ (List.mem_append_left _ (List.mem_append_right _ h)))), fun _ h => absurd h List.not_mem_nil⟩⟩⟩⟩⟩
set_option maxRecDepth 100000 in
set_option maxHeartbeats 4000000 in
theorem ggX9_flowAt_Jx4a65c_size_8abf5 : GoodIn wsX9_flowAt wsJx4a65c_size_8abf5 := goodIn_k ch_wsX9_flowAt chm_wsX9_flowAt _ [(0, 9), (0, 10), (4, 0), (4, 1), (4, 2)] (by rfl) (by decide +kernel)
set_option maxRecDepth 20000 in
theorem gX9_flowAt_Jx4a65c_size_8abf5 : GoodIn wsX9_flowAt (wsV RX9 73 RJx4a65c yJx4a65c_size_8abf5 wsJx4a65c_size_8abf5) := goodIn_app (goodIn_of _ (by decide +kernel)) ggX9_flowAt_Jx4a65c_size_8abf5
set_option maxRecDepth 100000 in
set_option maxHeartbeats 4000000 in
theorem ggX9_flowAt_Jx4a65c_get_915e3 : GoodIn wsX9_flowAt wsJx4a65c_get_915e3 := goodIn_k ch_wsX9_flowAt chm_wsX9_flowAt _ [(0, 14), (0, 10), (0, 15), (0, 16), (0, 17), (0, 18), (0, 19), (0, 20), (0, 21), (0, 22), (0, 23), (1, 0), (1, 1), (0, 8), (1, 2), (1, 3), (4, 0), (4, 1), (4, 2)] (by rfl) (by decide +kernel)
set_option maxRecDepth 20000 in
theorem gX9_flowAt_Jx4a65c_get_915e3 : GoodIn wsX9_flowAt (wsV RX9 228 RJx4a65c yJx4a65c_get_915e3 wsJx4a65c_get_915e3) := goodIn_app (goodIn_of _ (by decide +kernel)) ggX9_flowAt_Jx4a65c_get_915e3
theorem dX9_flowAt_0 : decode cX9_flowAt 0 = .ok (.iload_n 1, 1) := by decide +kernel
theorem dX9_flowAt_1 : decode cX9_flowAt 1 = .ok (.ifCond .lt 17, 3) := by decide +kernel
theorem dX9_flowAt_4 : decode cX9_flowAt 4 = .ok (.iload_n 1, 1) := by decide +kernel
theorem dX9_flowAt_5 : decode cX9_flowAt 5 = .ok (.aload_n 0, 1) := by decide +kernel
theorem dX9_flowAt_6 : decode cX9_flowAt 6 = .ok (.getfield 10, 3) := by decide +kernel
theorem dX9_flowAt_9 : decode cX9_flowAt 9 = .ok (.getfield 123, 3) := by decide +kernel
theorem dX9_flowAt_12 : decode cX9_flowAt 12 = .ok (.invokevirtual 73, 3) := by decide +kernel
theorem dX9_flowAt_15 : decode cX9_flowAt 15 = .ok (.if_icmp .lt 13, 3) := by decide +kernel
theorem dX9_flowAt_18 : decode cX9_flowAt 18 = .ok (.new 223, 3) := by decide +kernel
theorem dX9_flowAt_21 : decode cX9_flowAt 21 = .ok (.dup, 1) := by decide +kernel
theorem dX9_flowAt_22 : decode cX9_flowAt 22 = .ok (.ldc 234, 2) := by decide +kernel
theorem dX9_flowAt_24 : decode cX9_flowAt 24 = .ok (.invokespecial 227, 3) := by decide +kernel
theorem dX9_flowAt_27 : decode cX9_flowAt 27 = .ok (.athrow, 1) := by decide +kernel
theorem dX9_flowAt_28 : decode cX9_flowAt 28 = .ok (.aload_n 0, 1) := by decide +kernel
theorem dX9_flowAt_29 : decode cX9_flowAt 29 = .ok (.getfield 10, 3) := by decide +kernel
theorem dX9_flowAt_32 : decode cX9_flowAt 32 = .ok (.getfield 123, 3) := by decide +kernel
theorem dX9_flowAt_35 : decode cX9_flowAt 35 = .ok (.iload_n 1, 1) := by decide +kernel
theorem dX9_flowAt_36 : decode cX9_flowAt 36 = .ok (.invokevirtual 228, 3) := by decide +kernel
theorem dX9_flowAt_39 : decode cX9_flowAt 39 = .ok (.checkcast 128, 3) := by decide +kernel
theorem dX9_flowAt_42 : decode cX9_flowAt 42 = .ok (.areturn, 1) := by decide +kernel
def ch_wsX9_bankAt : List (List Cond) := [wsX9_bankAt_r1, wsX9_bankAt_r2, wsX90, wsX30, wsJx4a65c0]
theorem chm_wsX9_bankAt : ∀ c ∈ ch_wsX9_bankAt, ∀ w ∈ c, w ∈ wsX9_bankAt := List.forall_mem_cons.mpr ⟨(fun w h => (List.mem_cons_of_mem _ (List.mem_append_left _ (List.mem_append_left _ (List.mem_append_left _ (List.mem_append_left _ (List.mem_append_left _ h))))))), List.forall_mem_cons.mpr ⟨(fun w h => (List.mem_cons_of_mem _ (List.mem_append_left _ (List.mem_append_left _ (List.mem_append_left _ (List.mem_append_left _ (List.mem_append_right _ h))))))), List.forall_mem_cons.mpr ⟨(fun w h => (List.mem_cons_of_mem _ (List.mem_append_left _ (List.mem_append_left _ (List.mem_append_left _ (List.mem_append_right _ h)))))), List.forall_mem_cons.mpr ⟨(fun w h => (List.mem_cons_of_mem _ (List.mem_append_left _ (List.mem_append_left _ (List.mem_append_right _ h))))), List.forall_mem_cons.mpr ⟨(fun w h => (List.mem_cons_of_mem _ (List.mem_append_left _ (List.mem_append_right _ h)))), fun _ h => absurd h List.not_mem_nil⟩⟩⟩⟩⟩
set_option maxRecDepth 100000 in
set_option maxHeartbeats 4000000 in
theorem ggX9_bankAt_Jx4a65c_size_8abf5 : GoodIn wsX9_bankAt wsJx4a65c_size_8abf5 := goodIn_k ch_wsX9_bankAt chm_wsX9_bankAt _ [(0, 9), (0, 10), (4, 0), (4, 1), (4, 2)] (by rfl) (by decide +kernel)
set_option maxRecDepth 20000 in
theorem gX9_bankAt_Jx4a65c_size_8abf5 : GoodIn wsX9_bankAt (wsV RX9 73 RJx4a65c yJx4a65c_size_8abf5 wsJx4a65c_size_8abf5) := goodIn_app (goodIn_of _ (by decide +kernel)) ggX9_bankAt_Jx4a65c_size_8abf5
set_option maxRecDepth 100000 in
set_option maxHeartbeats 4000000 in
theorem ggX9_bankAt_Jx4a65c_get_915e3 : GoodIn wsX9_bankAt wsJx4a65c_get_915e3 := goodIn_k ch_wsX9_bankAt chm_wsX9_bankAt _ [(0, 14), (0, 10), (0, 15), (0, 16), (0, 17), (0, 18), (0, 19), (0, 20), (0, 21), (0, 22), (0, 23), (1, 0), (1, 1), (0, 8), (1, 2), (1, 3), (4, 0), (4, 1), (4, 2)] (by rfl) (by decide +kernel)
set_option maxRecDepth 20000 in
theorem gX9_bankAt_Jx4a65c_get_915e3 : GoodIn wsX9_bankAt (wsV RX9 228 RJx4a65c yJx4a65c_get_915e3 wsJx4a65c_get_915e3) := goodIn_app (goodIn_of _ (by decide +kernel)) ggX9_bankAt_Jx4a65c_get_915e3
theorem dX9_bankAt_0 : decode cX9_bankAt 0 = .ok (.iload_n 1, 1) := by decide +kernel
theorem dX9_bankAt_1 : decode cX9_bankAt 1 = .ok (.ifCond .lt 17, 3) := by decide +kernel
theorem dX9_bankAt_4 : decode cX9_bankAt 4 = .ok (.iload_n 1, 1) := by decide +kernel
theorem dX9_bankAt_5 : decode cX9_bankAt 5 = .ok (.aload_n 0, 1) := by decide +kernel
theorem dX9_bankAt_6 : decode cX9_bankAt 6 = .ok (.getfield 10, 3) := by decide +kernel
theorem dX9_bankAt_9 : decode cX9_bankAt 9 = .ok (.getfield 236, 3) := by decide +kernel
theorem dX9_bankAt_12 : decode cX9_bankAt 12 = .ok (.invokevirtual 73, 3) := by decide +kernel
theorem dX9_bankAt_15 : decode cX9_bankAt 15 = .ok (.if_icmp .lt 13, 3) := by decide +kernel
theorem dX9_bankAt_18 : decode cX9_bankAt 18 = .ok (.new 212, 3) := by decide +kernel
theorem dX9_bankAt_21 : decode cX9_bankAt 21 = .ok (.dup, 1) := by decide +kernel
theorem dX9_bankAt_22 : decode cX9_bankAt 22 = .ok (.ldc 239, 2) := by decide +kernel
theorem dX9_bankAt_24 : decode cX9_bankAt 24 = .ok (.invokespecial 216, 3) := by decide +kernel
theorem dX9_bankAt_27 : decode cX9_bankAt 27 = .ok (.athrow, 1) := by decide +kernel
theorem dX9_bankAt_28 : decode cX9_bankAt 28 = .ok (.aload_n 0, 1) := by decide +kernel
theorem dX9_bankAt_29 : decode cX9_bankAt 29 = .ok (.getfield 10, 3) := by decide +kernel
theorem dX9_bankAt_32 : decode cX9_bankAt 32 = .ok (.getfield 236, 3) := by decide +kernel
theorem dX9_bankAt_35 : decode cX9_bankAt 35 = .ok (.iload_n 1, 1) := by decide +kernel
theorem dX9_bankAt_36 : decode cX9_bankAt 36 = .ok (.invokevirtual 228, 3) := by decide +kernel
theorem dX9_bankAt_39 : decode cX9_bankAt 39 = .ok (.checkcast 87, 3) := by decide +kernel
theorem dX9_bankAt_42 : decode cX9_bankAt 42 = .ok (.areturn, 1) := by decide +kernel
theorem dJ9_max_7cf53_0 : decode cJ9_max_7cf53 0 = .ok (.iload_n 0, 1) := by decide +kernel
theorem dJ9_max_7cf53_1 : decode cJ9_max_7cf53 1 = .ok (.iload_n 1, 1) := by decide +kernel
theorem dJ9_max_7cf53_2 : decode cJ9_max_7cf53 2 = .ok (.if_icmp .lt 7, 3) := by decide +kernel
theorem dJ9_max_7cf53_5 : decode cJ9_max_7cf53 5 = .ok (.iload_n 0, 1) := by decide +kernel
theorem dJ9_max_7cf53_6 : decode cJ9_max_7cf53 6 = .ok (.goto 4, 3) := by decide +kernel
theorem dJ9_max_7cf53_9 : decode cJ9_max_7cf53 9 = .ok (.iload_n 1, 1) := by decide +kernel
theorem dJ9_max_7cf53_10 : decode cJ9_max_7cf53 10 = .ok (.ireturn, 1) := by decide +kernel
theorem dJ9_max_f86c9_0 : decode cJ9_max_f86c9 0 = .ok (.lload_n 0, 1) := by decide +kernel
theorem dJ9_max_f86c9_1 : decode cJ9_max_f86c9 1 = .ok (.lload_n 2, 1) := by decide +kernel
theorem dJ9_max_f86c9_2 : decode cJ9_max_f86c9 2 = .ok (.lcmp, 1) := by decide +kernel
theorem dJ9_max_f86c9_3 : decode cJ9_max_f86c9 3 = .ok (.ifCond .lt 7, 3) := by decide +kernel
theorem dJ9_max_f86c9_6 : decode cJ9_max_f86c9 6 = .ok (.lload_n 0, 1) := by decide +kernel
theorem dJ9_max_f86c9_7 : decode cJ9_max_f86c9 7 = .ok (.goto 4, 3) := by decide +kernel
theorem dJ9_max_f86c9_10 : decode cJ9_max_f86c9 10 = .ok (.lload_n 2, 1) := by decide +kernel
theorem dJ9_max_f86c9_11 : decode cJ9_max_f86c9 11 = .ok (.lreturn, 1) := by decide +kernel
theorem dJ9_min_7cf53_0 : decode cJ9_min_7cf53 0 = .ok (.iload_n 0, 1) := by decide +kernel
theorem dJ9_min_7cf53_1 : decode cJ9_min_7cf53 1 = .ok (.iload_n 1, 1) := by decide +kernel
theorem dJ9_min_7cf53_2 : decode cJ9_min_7cf53 2 = .ok (.if_icmp .gt 7, 3) := by decide +kernel
theorem dJ9_min_7cf53_5 : decode cJ9_min_7cf53 5 = .ok (.iload_n 0, 1) := by decide +kernel
theorem dJ9_min_7cf53_6 : decode cJ9_min_7cf53 6 = .ok (.goto 4, 3) := by decide +kernel
theorem dJ9_min_7cf53_9 : decode cJ9_min_7cf53 9 = .ok (.iload_n 1, 1) := by decide +kernel
theorem dJ9_min_7cf53_10 : decode cJ9_min_7cf53 10 = .ok (.ireturn, 1) := by decide +kernel
theorem dJ9_min_f86c9_0 : decode cJ9_min_f86c9 0 = .ok (.lload_n 0, 1) := by decide +kernel
theorem dJ9_min_f86c9_1 : decode cJ9_min_f86c9 1 = .ok (.lload_n 2, 1) := by decide +kernel
theorem dJ9_min_f86c9_2 : decode cJ9_min_f86c9 2 = .ok (.lcmp, 1) := by decide +kernel
theorem dJ9_min_f86c9_3 : decode cJ9_min_f86c9 3 = .ok (.ifCond .gt 7, 3) := by decide +kernel
theorem dJ9_min_f86c9_6 : decode cJ9_min_f86c9 6 = .ok (.lload_n 0, 1) := by decide +kernel
theorem dJ9_min_f86c9_7 : decode cJ9_min_f86c9 7 = .ok (.goto 4, 3) := by decide +kernel
theorem dJ9_min_f86c9_10 : decode cJ9_min_f86c9 10 = .ok (.lload_n 2, 1) := by decide +kernel
theorem dJ9_min_f86c9_11 : decode cJ9_min_f86c9 11 = .ok (.lreturn, 1) := by decide +kernel
theorem dJxa1e45_init_da8c8_0 : decode cJxa1e45_init_da8c8 0 = .ok (.aload_n 0, 1) := by decide +kernel
theorem dJxa1e45_init_da8c8_1 : decode cJxa1e45_init_da8c8 1 = .ok (.invokespecial 1, 3) := by decide +kernel
theorem dJxa1e45_init_da8c8_4 : decode cJxa1e45_init_da8c8 4 = .ok (.return_, 1) := by decide +kernel
set_option maxRecDepth 20000 in
theorem ggJxc12de_init_da8c8_Jxa1e45_init_da8c8 : GoodIn wsJxc12de_init_da8c8 wsJxa1e45_init_da8c8 := goodIn_r _ [5, 6, 7, 8] (by decide +kernel) (by decide +kernel)
set_option maxRecDepth 20000 in
theorem gJxc12de_init_da8c8_Jxa1e45_init_da8c8 : GoodIn wsJxc12de_init_da8c8 (wsJxa1e45_init_da8c8) := ggJxc12de_init_da8c8_Jxa1e45_init_da8c8
theorem dJxc12de_init_da8c8_0 : decode cJxc12de_init_da8c8 0 = .ok (.aload_n 0, 1) := by decide +kernel
theorem dJxc12de_init_da8c8_1 : decode cJxc12de_init_da8c8 1 = .ok (.invokespecial 1, 3) := by decide +kernel
theorem dJxc12de_init_da8c8_4 : decode cJxc12de_init_da8c8 4 = .ok (.aload_n 0, 1) := by decide +kernel
theorem dJxc12de_init_da8c8_5 : decode cJxc12de_init_da8c8 5 = .ok (.iconst 0, 1) := by decide +kernel
theorem dJxc12de_init_da8c8_6 : decode cJxc12de_init_da8c8 6 = .ok (.putfield 7, 3) := by decide +kernel
theorem dJxc12de_init_da8c8_9 : decode cJxc12de_init_da8c8 9 = .ok (.return_, 1) := by decide +kernel
set_option maxRecDepth 20000 in
theorem ggJx4a65c_init_da8c8_Jxc12de_init_da8c8 : GoodIn wsJx4a65c_init_da8c8 wsJxc12de_init_da8c8 := goodIn_r _ [6, 7, 8, 9, 10, 11, 12, 13, 14, 15, 16, 17] (by decide +kernel) (by decide +kernel)
set_option maxRecDepth 20000 in
theorem gJx4a65c_init_da8c8_Jxc12de_init_da8c8 : GoodIn wsJx4a65c_init_da8c8 (wsJxc12de_init_da8c8) := ggJx4a65c_init_da8c8_Jxc12de_init_da8c8
theorem dJx4a65c_init_da8c8_0 : decode cJx4a65c_init_da8c8 0 = .ok (.aload_n 0, 1) := by decide +kernel
theorem dJx4a65c_init_da8c8_1 : decode cJx4a65c_init_da8c8 1 = .ok (.invokespecial 1, 3) := by decide +kernel
theorem dJx4a65c_init_da8c8_4 : decode cJx4a65c_init_da8c8 4 = .ok (.aload_n 0, 1) := by decide +kernel
theorem dJx4a65c_init_da8c8_5 : decode cJx4a65c_init_da8c8 5 = .ok (.getstatic 39, 3) := by decide +kernel
theorem dJx4a65c_init_da8c8_8 : decode cJx4a65c_init_da8c8 8 = .ok (.putfield 9, 3) := by decide +kernel
theorem dJx4a65c_init_da8c8_11 : decode cJx4a65c_init_da8c8 11 = .ok (.return_, 1) := by decide +kernel
def ch_wsJx4a65c_grow_92f84 : List (List Cond) := [wsJx4a65c_grow_92f84_r1, wsJx4a65c_grow_92f84_r2, wsJx4a65c0]
theorem chm_wsJx4a65c_grow_92f84 : ∀ c ∈ ch_wsJx4a65c_grow_92f84, ∀ w ∈ c, w ∈ wsJx4a65c_grow_92f84 := List.forall_mem_cons.mpr ⟨(fun w h => (List.mem_cons_of_mem _ (List.mem_append_left _ (List.mem_append_left _ h)))), List.forall_mem_cons.mpr ⟨(fun w h => (List.mem_cons_of_mem _ (List.mem_append_left _ (List.mem_append_right _ h)))), List.forall_mem_cons.mpr ⟨(fun w h => (List.mem_cons_of_mem _ (List.mem_append_right _ h))), fun _ h => absurd h List.not_mem_nil⟩⟩⟩
set_option maxRecDepth 100000 in
set_option maxHeartbeats 4000000 in
theorem ggJx4a65c_grow_92f84_J8_newLength_cabcc : GoodIn wsJx4a65c_grow_92f84 wsJ8_newLength_cabcc := goodIn_k ch_wsJx4a65c_grow_92f84 chm_wsJx4a65c_grow_92f84 _ [(0, 10), (0, 11), (0, 3), (0, 4), (0, 5), (0, 12), (0, 13), (0, 14), (0, 9), (0, 15)] (by rfl) (by decide +kernel)
set_option maxRecDepth 20000 in
theorem gJx4a65c_grow_92f84_J8_newLength_cabcc : GoodIn wsJx4a65c_grow_92f84 (va_wsS RJx4a65c 73 yJ8_newLength_cabcc wsJ8_newLength_cabcc) := goodIn_app (goodIn_of _ (by decide +kernel)) ggJx4a65c_grow_92f84_J8_newLength_cabcc
set_option maxRecDepth 100000 in
set_option maxHeartbeats 4000000 in
theorem ggJx4a65c_grow_92f84_J7_copyOf_1904c : GoodIn wsJx4a65c_grow_92f84 wsJ7_copyOf_1904c := goodIn_k ch_wsJx4a65c_grow_92f84 chm_wsJx4a65c_grow_92f84 _ [(0, 19), (0, 20), (0, 21), (0, 22), (0, 23), (1, 0), (1, 1), (0, 18), (1, 2), (1, 3), (1, 4), (1, 5), (1, 6), (0, 4), (1, 7), (1, 8), (1, 9), (1, 10), (1, 11)] (by rfl) (by decide +kernel)
set_option maxRecDepth 20000 in
theorem gJx4a65c_grow_92f84_J7_copyOf_1904c : GoodIn wsJx4a65c_grow_92f84 (va_wsS RJx4a65c 66 yJ7_copyOf_1904c wsJ7_copyOf_1904c) := goodIn_app (goodIn_of _ (by decide +kernel)) ggJx4a65c_grow_92f84_J7_copyOf_1904c
theorem dJx4a65c_grow_92f84_0 : decode cJx4a65c_grow_92f84 0 = .ok (.aload_n 0, 1) := by decide +kernel
theorem dJx4a65c_grow_92f84_1 : decode cJx4a65c_grow_92f84 1 = .ok (.getfield 9, 3) := by decide +kernel
theorem dJx4a65c_grow_92f84_4 : decode cJx4a65c_grow_92f84 4 = .ok (.arraylength, 1) := by decide +kernel
theorem dJx4a65c_grow_92f84_5 : decode cJx4a65c_grow_92f84 5 = .ok (.istore_n 2, 1) := by decide +kernel
theorem dJx4a65c_grow_92f84_6 : decode cJx4a65c_grow_92f84 6 = .ok (.iload_n 2, 1) := by decide +kernel
theorem dJx4a65c_grow_92f84_7 : decode cJx4a65c_grow_92f84 7 = .ok (.ifCond .gt 13, 3) := by decide +kernel
theorem dJx4a65c_grow_92f84_10 : decode cJx4a65c_grow_92f84 10 = .ok (.aload_n 0, 1) := by decide +kernel
theorem dJx4a65c_grow_92f84_11 : decode cJx4a65c_grow_92f84 11 = .ok (.getfield 9, 3) := by decide +kernel
theorem dJx4a65c_grow_92f84_14 : decode cJx4a65c_grow_92f84 14 = .ok (.getstatic 39, 3) := by decide +kernel
theorem dJx4a65c_grow_92f84_17 : decode cJx4a65c_grow_92f84 17 = .ok (.if_acmp .eq 28, 3) := by decide +kernel
theorem dJx4a65c_grow_92f84_20 : decode cJx4a65c_grow_92f84 20 = .ok (.iload_n 2, 1) := by decide +kernel
theorem dJx4a65c_grow_92f84_21 : decode cJx4a65c_grow_92f84 21 = .ok (.iload_n 1, 1) := by decide +kernel
theorem dJx4a65c_grow_92f84_22 : decode cJx4a65c_grow_92f84 22 = .ok (.iload_n 2, 1) := by decide +kernel
theorem dJx4a65c_grow_92f84_23 : decode cJx4a65c_grow_92f84 23 = .ok (.isub, 1) := by decide +kernel
theorem dJx4a65c_grow_92f84_24 : decode cJx4a65c_grow_92f84 24 = .ok (.iload_n 2, 1) := by decide +kernel
theorem dJx4a65c_grow_92f84_25 : decode cJx4a65c_grow_92f84 25 = .ok (.iconst 1, 1) := by decide +kernel
theorem dJx4a65c_grow_92f84_26 : decode cJx4a65c_grow_92f84 26 = .ok (.ishr, 1) := by decide +kernel
theorem dJx4a65c_grow_92f84_27 : decode cJx4a65c_grow_92f84 27 = .ok (.invokestatic 73, 3) := by decide +kernel
theorem dJx4a65c_grow_92f84_30 : decode cJx4a65c_grow_92f84 30 = .ok (.istore_n 3, 1) := by decide +kernel
theorem dJx4a65c_grow_92f84_31 : decode cJx4a65c_grow_92f84 31 = .ok (.aload_n 0, 1) := by decide +kernel
theorem dJx4a65c_grow_92f84_32 : decode cJx4a65c_grow_92f84 32 = .ok (.aload_n 0, 1) := by decide +kernel
theorem dJx4a65c_grow_92f84_33 : decode cJx4a65c_grow_92f84 33 = .ok (.getfield 9, 3) := by decide +kernel
theorem dJx4a65c_grow_92f84_36 : decode cJx4a65c_grow_92f84 36 = .ok (.iload_n 3, 1) := by decide +kernel
theorem dJx4a65c_grow_92f84_37 : decode cJx4a65c_grow_92f84 37 = .ok (.invokestatic 66, 3) := by decide +kernel
theorem dJx4a65c_grow_92f84_40 : decode cJx4a65c_grow_92f84 40 = .ok (.dup_x1, 1) := by decide +kernel
theorem dJx4a65c_grow_92f84_41 : decode cJx4a65c_grow_92f84 41 = .ok (.putfield 9, 3) := by decide +kernel
theorem dJx4a65c_grow_92f84_44 : decode cJx4a65c_grow_92f84 44 = .ok (.areturn, 1) := by decide +kernel
theorem dJx4a65c_grow_92f84_45 : decode cJx4a65c_grow_92f84 45 = .ok (.aload_n 0, 1) := by decide +kernel
theorem dJx4a65c_grow_92f84_46 : decode cJx4a65c_grow_92f84 46 = .ok (.bipush 10, 2) := by decide +kernel
theorem dJx4a65c_grow_92f84_48 : decode cJx4a65c_grow_92f84 48 = .ok (.iload_n 1, 1) := by decide +kernel
theorem dJx4a65c_grow_92f84_49 : decode cJx4a65c_grow_92f84 49 = .ok (.invokestatic 79, 3) := by decide +kernel
theorem dJx4a65c_grow_92f84_52 : decode cJx4a65c_grow_92f84 52 = .ok (.anewarray 7, 3) := by decide +kernel
theorem dJx4a65c_grow_92f84_55 : decode cJx4a65c_grow_92f84 55 = .ok (.dup_x1, 1) := by decide +kernel
theorem dJx4a65c_grow_92f84_56 : decode cJx4a65c_grow_92f84 56 = .ok (.putfield 9, 3) := by decide +kernel
theorem dJx4a65c_grow_92f84_59 : decode cJx4a65c_grow_92f84 59 = .ok (.areturn, 1) := by decide +kernel
def ch_wsJx4a65c_grow_d5877 : List (List Cond) := [wsJx4a65c_grow_d5877_r1, wsJx4a65c_grow_d5877_r2, wsJx4a65c0]
theorem chm_wsJx4a65c_grow_d5877 : ∀ c ∈ ch_wsJx4a65c_grow_d5877, ∀ w ∈ c, w ∈ wsJx4a65c_grow_d5877 := List.forall_mem_cons.mpr ⟨(fun w h => (List.mem_cons_of_mem _ (List.mem_append_left _ (List.mem_append_left _ h)))), List.forall_mem_cons.mpr ⟨(fun w h => (List.mem_cons_of_mem _ (List.mem_append_left _ (List.mem_append_right _ h)))), List.forall_mem_cons.mpr ⟨(fun w h => (List.mem_cons_of_mem _ (List.mem_append_right _ h))), fun _ h => absurd h List.not_mem_nil⟩⟩⟩
set_option maxRecDepth 100000 in
set_option maxHeartbeats 4000000 in
theorem ggJx4a65c_grow_d5877_Jx4a65c_grow_92f84 : GoodIn wsJx4a65c_grow_d5877 wsJx4a65c_grow_92f84 := goodIn_k ch_wsJx4a65c_grow_d5877 chm_wsJx4a65c_grow_d5877 _ [(0, 5), (0, 6), (0, 7), (0, 8), (0, 9), (0, 10), (0, 11), (0, 12), (0, 13), (0, 14), (0, 15), (0, 16), (0, 17), (0, 18), (0, 19), (0, 20), (0, 21), (0, 22), (0, 23), (1, 0), (1, 1), (1, 2), (1, 3), (1, 4), (1, 5), (1, 6), (1, 7), (1, 8), (1, 9), (1, 10), (1, 11), (1, 12), (1, 13), (1, 14), (1, 15), (1, 16), (1, 17), (2, 0), (2, 1), (2, 2)] (by rfl) (by decide +kernel)
set_option maxRecDepth 20000 in
theorem gJx4a65c_grow_d5877_Jx4a65c_grow_92f84 : GoodIn wsJx4a65c_grow_d5877 (wsV RJx4a65c 69 RJx4a65c yJx4a65c_grow_92f84 wsJx4a65c_grow_92f84) := goodIn_app (goodIn_of _ (by decide +kernel)) ggJx4a65c_grow_d5877_Jx4a65c_grow_92f84
theorem dJx4a65c_grow_d5877_0 : decode cJx4a65c_grow_d5877 0 = .ok (.aload_n 0, 1) := by decide +kernel
theorem dJx4a65c_grow_d5877_1 : decode cJx4a65c_grow_d5877 1 = .ok (.aload_n 0, 1) := by decide +kernel
theorem dJx4a65c_grow_d5877_2 : decode cJx4a65c_grow_d5877 2 = .ok (.getfield 48, 3) := by decide +kernel
theorem dJx4a65c_grow_d5877_5 : decode cJx4a65c_grow_d5877 5 = .ok (.iconst 1, 1) := by decide +kernel
theorem dJx4a65c_grow_d5877_6 : decode cJx4a65c_grow_d5877 6 = .ok (.iadd, 1) := by decide +kernel
theorem dJx4a65c_grow_d5877_7 : decode cJx4a65c_grow_d5877 7 = .ok (.invokevirtual 69, 3) := by decide +kernel
theorem dJx4a65c_grow_d5877_10 : decode cJx4a65c_grow_d5877 10 = .ok (.areturn, 1) := by decide +kernel
theorem dJx4a65c_size_8abf5_0 : decode cJx4a65c_size_8abf5 0 = .ok (.aload_n 0, 1) := by decide +kernel
theorem dJx4a65c_size_8abf5_1 : decode cJx4a65c_size_8abf5 1 = .ok (.getfield 48, 3) := by decide +kernel
theorem dJx4a65c_size_8abf5_4 : decode cJx4a65c_size_8abf5 4 = .ok (.ireturn, 1) := by decide +kernel
theorem dJx4a65c_elementData_915e3_0 : decode cJx4a65c_elementData_915e3 0 = .ok (.aload_n 0, 1) := by decide +kernel
theorem dJx4a65c_elementData_915e3_1 : decode cJx4a65c_elementData_915e3 1 = .ok (.getfield 9, 3) := by decide +kernel
theorem dJx4a65c_elementData_915e3_4 : decode cJx4a65c_elementData_915e3 4 = .ok (.iload_n 1, 1) := by decide +kernel
theorem dJx4a65c_elementData_915e3_5 : decode cJx4a65c_elementData_915e3 5 = .ok (.aaload, 1) := by decide +kernel
theorem dJx4a65c_elementData_915e3_6 : decode cJx4a65c_elementData_915e3 6 = .ok (.areturn, 1) := by decide +kernel
set_option maxRecDepth 20000 in
theorem ggJx4a65c_get_915e3_J15_checkIndex_7cf53 : GoodIn wsJx4a65c_get_915e3 wsJ15_checkIndex_7cf53 := goodIn_r _ [5, 6, 7, 8, 9] (by decide +kernel) (by decide +kernel)
set_option maxRecDepth 20000 in
theorem gJx4a65c_get_915e3_J15_checkIndex_7cf53 : GoodIn wsJx4a65c_get_915e3 (va_wsS RJx4a65c 118 yJ15_checkIndex_7cf53 wsJ15_checkIndex_7cf53) := goodIn_app (goodIn_of _ (by decide +kernel)) ggJx4a65c_get_915e3_J15_checkIndex_7cf53
set_option maxRecDepth 20000 in
theorem ggJx4a65c_get_915e3_Jx4a65c_elementData_915e3 : GoodIn wsJx4a65c_get_915e3 wsJx4a65c_elementData_915e3 := goodIn_r _ [14, 15, 16, 17, 18] (by decide +kernel) (by decide +kernel)
set_option maxRecDepth 20000 in
theorem gJx4a65c_get_915e3_Jx4a65c_elementData_915e3 : GoodIn wsJx4a65c_get_915e3 (wsV RJx4a65c 123 RJx4a65c yJx4a65c_elementData_915e3 wsJx4a65c_elementData_915e3) := goodIn_app (goodIn_of _ (by decide +kernel)) ggJx4a65c_get_915e3_Jx4a65c_elementData_915e3
theorem dJx4a65c_get_915e3_0 : decode cJx4a65c_get_915e3 0 = .ok (.iload_n 1, 1) := by decide +kernel
theorem dJx4a65c_get_915e3_1 : decode cJx4a65c_get_915e3 1 = .ok (.aload_n 0, 1) := by decide +kernel
theorem dJx4a65c_get_915e3_2 : decode cJx4a65c_get_915e3 2 = .ok (.getfield 48, 3) := by decide +kernel
theorem dJx4a65c_get_915e3_5 : decode cJx4a65c_get_915e3 5 = .ok (.invokestatic 118, 3) := by decide +kernel
theorem dJx4a65c_get_915e3_8 : decode cJx4a65c_get_915e3 8 = .ok (.pop, 1) := by decide +kernel
theorem dJx4a65c_get_915e3_9 : decode cJx4a65c_get_915e3 9 = .ok (.aload_n 0, 1) := by decide +kernel
theorem dJx4a65c_get_915e3_10 : decode cJx4a65c_get_915e3 10 = .ok (.iload_n 1, 1) := by decide +kernel
theorem dJx4a65c_get_915e3_11 : decode cJx4a65c_get_915e3 11 = .ok (.invokevirtual 123, 3) := by decide +kernel
theorem dJx4a65c_get_915e3_14 : decode cJx4a65c_get_915e3 14 = .ok (.areturn, 1) := by decide +kernel
def ch_wsJx4a65c_add_72be8 : List (List Cond) := [wsJx4a65c_add_72be8_r1, wsJx4a65c_add_72be8_r2, wsJx4a65c0]
theorem chm_wsJx4a65c_add_72be8 : ∀ c ∈ ch_wsJx4a65c_add_72be8, ∀ w ∈ c, w ∈ wsJx4a65c_add_72be8 := List.forall_mem_cons.mpr ⟨(fun w h => (List.mem_cons_of_mem _ (List.mem_append_left _ (List.mem_append_left _ h)))), List.forall_mem_cons.mpr ⟨(fun w h => (List.mem_cons_of_mem _ (List.mem_append_left _ (List.mem_append_right _ h)))), List.forall_mem_cons.mpr ⟨(fun w h => (List.mem_cons_of_mem _ (List.mem_append_right _ h))), fun _ h => absurd h List.not_mem_nil⟩⟩⟩
set_option maxRecDepth 100000 in
set_option maxHeartbeats 4000000 in
theorem ggJx4a65c_add_72be8_Jx4a65c_grow_d5877 : GoodIn wsJx4a65c_add_72be8 wsJx4a65c_grow_d5877 := goodIn_k ch_wsJx4a65c_add_72be8 chm_wsJx4a65c_add_72be8 _ [(0, 5), (0, 0), (0, 6), (0, 7), (0, 8), (0, 4), (0, 9), (0, 10), (0, 11), (0, 12), (0, 13), (0, 14), (0, 15), (0, 16), (0, 17), (0, 18), (0, 19), (0, 20), (0, 21), (0, 22), (0, 23), (1, 0), (1, 1), (1, 2), (1, 3), (1, 4), (1, 5), (1, 6), (1, 7), (1, 8), (1, 9), (1, 10), (1, 11), (1, 12), (1, 13), (1, 14), (1, 15), (1, 16), (1, 17), (1, 18), (1, 19), (1, 20), (1, 21), (2, 0), (2, 1), (2, 2)] (by rfl) (by decide +kernel)
set_option maxRecDepth 20000 in
theorem gJx4a65c_add_72be8_Jx4a65c_grow_d5877 : GoodIn wsJx4a65c_add_72be8 (wsV RJx4a65c 129 RJx4a65c yJx4a65c_grow_d5877 wsJx4a65c_grow_d5877) := goodIn_app (goodIn_of _ (by decide +kernel)) ggJx4a65c_add_72be8_Jx4a65c_grow_d5877
theorem dJx4a65c_add_72be8_0 : decode cJx4a65c_add_72be8 0 = .ok (.iload_n 3, 1) := by decide +kernel
theorem dJx4a65c_add_72be8_1 : decode cJx4a65c_add_72be8 1 = .ok (.aload_n 2, 1) := by decide +kernel
theorem dJx4a65c_add_72be8_2 : decode cJx4a65c_add_72be8 2 = .ok (.arraylength, 1) := by decide +kernel
theorem dJx4a65c_add_72be8_3 : decode cJx4a65c_add_72be8 3 = .ok (.if_icmp .ne 8, 3) := by decide +kernel
theorem dJx4a65c_add_72be8_6 : decode cJx4a65c_add_72be8 6 = .ok (.aload_n 0, 1) := by decide +kernel
theorem dJx4a65c_add_72be8_7 : decode cJx4a65c_add_72be8 7 = .ok (.invokevirtual 129, 3) := by decide +kernel
theorem dJx4a65c_add_72be8_10 : decode cJx4a65c_add_72be8 10 = .ok (.astore_n 2, 1) := by decide +kernel
theorem dJx4a65c_add_72be8_11 : decode cJx4a65c_add_72be8 11 = .ok (.aload_n 2, 1) := by decide +kernel
theorem dJx4a65c_add_72be8_12 : decode cJx4a65c_add_72be8 12 = .ok (.iload_n 3, 1) := by decide +kernel
theorem dJx4a65c_add_72be8_13 : decode cJx4a65c_add_72be8 13 = .ok (.aload_n 1, 1) := by decide +kernel
theorem dJx4a65c_add_72be8_14 : decode cJx4a65c_add_72be8 14 = .ok (.aastore, 1) := by decide +kernel
theorem dJx4a65c_add_72be8_15 : decode cJx4a65c_add_72be8 15 = .ok (.aload_n 0, 1) := by decide +kernel
theorem dJx4a65c_add_72be8_16 : decode cJx4a65c_add_72be8 16 = .ok (.iload_n 3, 1) := by decide +kernel
theorem dJx4a65c_add_72be8_17 : decode cJx4a65c_add_72be8 17 = .ok (.iconst 1, 1) := by decide +kernel
theorem dJx4a65c_add_72be8_18 : decode cJx4a65c_add_72be8 18 = .ok (.iadd, 1) := by decide +kernel
theorem dJx4a65c_add_72be8_19 : decode cJx4a65c_add_72be8 19 = .ok (.putfield 48, 3) := by decide +kernel
theorem dJx4a65c_add_72be8_22 : decode cJx4a65c_add_72be8 22 = .ok (.return_, 1) := by decide +kernel
def ch_wsJx4a65c_add_9ea2d : List (List Cond) := [wsJx4a65c_add_9ea2d_r1, wsJx4a65c_add_9ea2d_r2, wsJx4a65c_add_9ea2d_r3, wsJx4a65c0]
theorem chm_wsJx4a65c_add_9ea2d : ∀ c ∈ ch_wsJx4a65c_add_9ea2d, ∀ w ∈ c, w ∈ wsJx4a65c_add_9ea2d := List.forall_mem_cons.mpr ⟨(fun w h => (List.mem_cons_of_mem _ (List.mem_append_left _ (List.mem_append_left _ h)))), List.forall_mem_cons.mpr ⟨(fun w h => (List.mem_cons_of_mem _ (List.mem_append_left _ (List.mem_append_right _ (List.mem_append_left _ h))))), List.forall_mem_cons.mpr ⟨(fun w h => (List.mem_cons_of_mem _ (List.mem_append_left _ (List.mem_append_right _ (List.mem_append_right _ h))))), List.forall_mem_cons.mpr ⟨(fun w h => (List.mem_cons_of_mem _ (List.mem_append_right _ h))), fun _ h => absurd h List.not_mem_nil⟩⟩⟩⟩
set_option maxRecDepth 100000 in
set_option maxHeartbeats 4000000 in
theorem ggJx4a65c_add_9ea2d_Jx4a65c_add_72be8 : GoodIn wsJx4a65c_add_9ea2d wsJx4a65c_add_72be8 := goodIn_k ch_wsJx4a65c_add_9ea2d chm_wsJx4a65c_add_9ea2d _ [(0, 8), (0, 3), (0, 9), (0, 10), (0, 11), (0, 7), (0, 12), (0, 13), (0, 14), (0, 15), (0, 16), (0, 2), (0, 17), (0, 18), (0, 19), (0, 20), (0, 21), (0, 22), (0, 23), (1, 0), (1, 1), (1, 2), (1, 3), (1, 4), (1, 5), (1, 6), (1, 7), (1, 8), (1, 9), (1, 10), (1, 11), (1, 12), (1, 13), (1, 14), (1, 15), (1, 16), (1, 17), (1, 18), (1, 19), (1, 20), (1, 21), (1, 22), (1, 23), (2, 0), (2, 1), (2, 2), (2, 3), (3, 0), (3, 1), (3, 2)] (by rfl) (by decide +kernel)
set_option maxRecDepth 20000 in
theorem gJx4a65c_add_9ea2d_Jx4a65c_add_72be8 : GoodIn wsJx4a65c_add_9ea2d (wsV RJx4a65c 131 RJx4a65c yJx4a65c_add_72be8 wsJx4a65c_add_72be8) := goodIn_app (goodIn_of _ (by decide +kernel)) ggJx4a65c_add_9ea2d_Jx4a65c_add_72be8
theorem dJx4a65c_add_9ea2d_0 : decode cJx4a65c_add_9ea2d 0 = .ok (.aload_n 0, 1) := by decide +kernel
theorem dJx4a65c_add_9ea2d_1 : decode cJx4a65c_add_9ea2d 1 = .ok (.dup, 1) := by decide +kernel
theorem dJx4a65c_add_9ea2d_2 : decode cJx4a65c_add_9ea2d 2 = .ok (.getfield 63, 3) := by decide +kernel
theorem dJx4a65c_add_9ea2d_5 : decode cJx4a65c_add_9ea2d 5 = .ok (.iconst 1, 1) := by decide +kernel
theorem dJx4a65c_add_9ea2d_6 : decode cJx4a65c_add_9ea2d 6 = .ok (.iadd, 1) := by decide +kernel
theorem dJx4a65c_add_9ea2d_7 : decode cJx4a65c_add_9ea2d 7 = .ok (.putfield 63, 3) := by decide +kernel
theorem dJx4a65c_add_9ea2d_10 : decode cJx4a65c_add_9ea2d 10 = .ok (.aload_n 0, 1) := by decide +kernel
theorem dJx4a65c_add_9ea2d_11 : decode cJx4a65c_add_9ea2d 11 = .ok (.aload_n 1, 1) := by decide +kernel
theorem dJx4a65c_add_9ea2d_12 : decode cJx4a65c_add_9ea2d 12 = .ok (.aload_n 0, 1) := by decide +kernel
theorem dJx4a65c_add_9ea2d_13 : decode cJx4a65c_add_9ea2d 13 = .ok (.getfield 9, 3) := by decide +kernel
theorem dJx4a65c_add_9ea2d_16 : decode cJx4a65c_add_9ea2d 16 = .ok (.aload_n 0, 1) := by decide +kernel
theorem dJx4a65c_add_9ea2d_17 : decode cJx4a65c_add_9ea2d 17 = .ok (.getfield 48, 3) := by decide +kernel
theorem dJx4a65c_add_9ea2d_20 : decode cJx4a65c_add_9ea2d 20 = .ok (.invokevirtual 131, 3) := by decide +kernel
theorem dJx4a65c_add_9ea2d_23 : decode cJx4a65c_add_9ea2d 23 = .ok (.iconst 1, 1) := by decide +kernel
theorem dJx4a65c_add_9ea2d_24 : decode cJx4a65c_add_9ea2d 24 = .ok (.ireturn, 1) := by decide +kernel
def ch_wsJx4a65c_add_7a177 : List (List Cond) := [wsJx4a65c_add_7a177_r1, wsJx4a65c_add_7a177_r2, wsJx4a65c_add_7a177_r3, wsJx4a65c0]
theorem chm_wsJx4a65c_add_7a177 : ∀ c ∈ ch_wsJx4a65c_add_7a177, ∀ w ∈ c, w ∈ wsJx4a65c_add_7a177 := List.forall_mem_cons.mpr ⟨(fun w h => (List.mem_cons_of_mem _ (List.mem_append_left _ (List.mem_append_left _ h)))), List.forall_mem_cons.mpr ⟨(fun w h => (List.mem_cons_of_mem _ (List.mem_append_left _ (List.mem_append_right _ (List.mem_append_left _ h))))), List.forall_mem_cons.mpr ⟨(fun w h => (List.mem_cons_of_mem _ (List.mem_append_left _ (List.mem_append_right _ (List.mem_append_right _ h))))), List.forall_mem_cons.mpr ⟨(fun w h => (List.mem_cons_of_mem _ (List.mem_append_right _ h))), fun _ h => absurd h List.not_mem_nil⟩⟩⟩⟩
set_option maxRecDepth 100000 in
set_option maxHeartbeats 4000000 in
theorem ggJx4a65c_add_7a177_Jx4a65c_rangeCheckForAdd_d00df : GoodIn wsJx4a65c_add_7a177 wsJx4a65c_rangeCheckForAdd_d00df := goodIn_k ch_wsJx4a65c_add_7a177 chm_wsJx4a65c_add_7a177 _ [(0, 12), (0, 2), (3, 0), (3, 1), (3, 2)] (by rfl) (by decide +kernel)
set_option maxRecDepth 20000 in
theorem gJx4a65c_add_7a177_Jx4a65c_rangeCheckForAdd_d00df : GoodIn wsJx4a65c_add_7a177 (wsV RJx4a65c 135 RJx4a65c yJx4a65c_rangeCheckForAdd_d00df wsJx4a65c_rangeCheckForAdd_d00df) := goodIn_app (goodIn_of _ (by decide +kernel)) ggJx4a65c_add_7a177_Jx4a65c_rangeCheckForAdd_d00df
set_option maxRecDepth 100000 in
set_option maxHeartbeats 4000000 in
theorem ggJx4a65c_add_7a177_Jx4a65c_grow_d5877 : GoodIn wsJx4a65c_add_7a177 wsJx4a65c_grow_d5877 := goodIn_k ch_wsJx4a65c_add_7a177 chm_wsJx4a65c_add_7a177 _ [(0, 16), (0, 2), (0, 17), (0, 18), (0, 19), (0, 11), (0, 20), (0, 3), (0, 21), (0, 22), (0, 23), (1, 0), (1, 1), (1, 2), (1, 3), (1, 4), (1, 5), (1, 6), (1, 7), (1, 8), (1, 9), (1, 10), (1, 11), (1, 12), (1, 13), (1, 14), (1, 15), (1, 16), (1, 17), (1, 18), (1, 19), (1, 20), (1, 21), (1, 22), (1, 23), (2, 0), (2, 1), (2, 2), (2, 3), (2, 4), (0, 5), (0, 6), (0, 7), (3, 0), (3, 1), (3, 2)] (by rfl) (by decide +kernel)
set_option maxRecDepth 20000 in
theorem gJx4a65c_add_7a177_Jx4a65c_grow_d5877 : GoodIn wsJx4a65c_add_7a177 (wsV RJx4a65c 129 RJx4a65c yJx4a65c_grow_d5877 wsJx4a65c_grow_d5877) := goodIn_app (goodIn_of _ (by decide +kernel)) ggJx4a65c_add_7a177_Jx4a65c_grow_d5877
theorem dJx4a65c_add_7a177_0 : decode cJx4a65c_add_7a177 0 = .ok (.aload_n 0, 1) := by decide +kernel
theorem dJx4a65c_add_7a177_1 : decode cJx4a65c_add_7a177 1 = .ok (.iload_n 1, 1) := by decide +kernel
theorem dJx4a65c_add_7a177_2 : decode cJx4a65c_add_7a177 2 = .ok (.invokevirtual 135, 3) := by decide +kernel
theorem dJx4a65c_add_7a177_5 : decode cJx4a65c_add_7a177 5 = .ok (.aload_n 0, 1) := by decide +kernel
theorem dJx4a65c_add_7a177_6 : decode cJx4a65c_add_7a177 6 = .ok (.dup, 1) := by decide +kernel
theorem dJx4a65c_add_7a177_7 : decode cJx4a65c_add_7a177 7 = .ok (.getfield 63, 3) := by decide +kernel
theorem dJx4a65c_add_7a177_10 : decode cJx4a65c_add_7a177 10 = .ok (.iconst 1, 1) := by decide +kernel
theorem dJx4a65c_add_7a177_11 : decode cJx4a65c_add_7a177 11 = .ok (.iadd, 1) := by decide +kernel
theorem dJx4a65c_add_7a177_12 : decode cJx4a65c_add_7a177 12 = .ok (.putfield 63, 3) := by decide +kernel
theorem dJx4a65c_add_7a177_15 : decode cJx4a65c_add_7a177 15 = .ok (.aload_n 0, 1) := by decide +kernel
theorem dJx4a65c_add_7a177_16 : decode cJx4a65c_add_7a177 16 = .ok (.getfield 48, 3) := by decide +kernel
theorem dJx4a65c_add_7a177_19 : decode cJx4a65c_add_7a177 19 = .ok (.dup, 1) := by decide +kernel
theorem dJx4a65c_add_7a177_20 : decode cJx4a65c_add_7a177 20 = .ok (.istore_n 3, 1) := by decide +kernel
theorem dJx4a65c_add_7a177_21 : decode cJx4a65c_add_7a177 21 = .ok (.aload_n 0, 1) := by decide +kernel
theorem dJx4a65c_add_7a177_22 : decode cJx4a65c_add_7a177 22 = .ok (.getfield 9, 3) := by decide +kernel
theorem dJx4a65c_add_7a177_25 : decode cJx4a65c_add_7a177 25 = .ok (.dup, 1) := by decide +kernel
theorem dJx4a65c_add_7a177_26 : decode cJx4a65c_add_7a177 26 = .ok (.astore 4, 2) := by decide +kernel
theorem dJx4a65c_add_7a177_28 : decode cJx4a65c_add_7a177 28 = .ok (.arraylength, 1) := by decide +kernel
theorem dJx4a65c_add_7a177_29 : decode cJx4a65c_add_7a177 29 = .ok (.if_icmp .ne 9, 3) := by decide +kernel
theorem dJx4a65c_add_7a177_32 : decode cJx4a65c_add_7a177 32 = .ok (.aload_n 0, 1) := by decide +kernel
theorem dJx4a65c_add_7a177_33 : decode cJx4a65c_add_7a177 33 = .ok (.invokevirtual 129, 3) := by decide +kernel
theorem dJx4a65c_add_7a177_36 : decode cJx4a65c_add_7a177 36 = .ok (.astore 4, 2) := by decide +kernel
theorem dJx4a65c_add_7a177_38 : decode cJx4a65c_add_7a177 38 = .ok (.aload 4, 2) := by decide +kernel
theorem dJx4a65c_add_7a177_40 : decode cJx4a65c_add_7a177 40 = .ok (.iload_n 1, 1) := by decide +kernel
theorem dJx4a65c_add_7a177_41 : decode cJx4a65c_add_7a177 41 = .ok (.aload 4, 2) := by decide +kernel
theorem dJx4a65c_add_7a177_43 : decode cJx4a65c_add_7a177 43 = .ok (.iload_n 1, 1) := by decide +kernel
theorem dJx4a65c_add_7a177_44 : decode cJx4a65c_add_7a177 44 = .ok (.iconst 1, 1) := by decide +kernel
theorem dJx4a65c_add_7a177_45 : decode cJx4a65c_add_7a177 45 = .ok (.iadd, 1) := by decide +kernel
theorem dJx4a65c_add_7a177_46 : decode cJx4a65c_add_7a177 46 = .ok (.iload_n 3, 1) := by decide +kernel
theorem dJx4a65c_add_7a177_47 : decode cJx4a65c_add_7a177 47 = .ok (.iload_n 1, 1) := by decide +kernel
theorem dJx4a65c_add_7a177_48 : decode cJx4a65c_add_7a177 48 = .ok (.isub, 1) := by decide +kernel
theorem dJx4a65c_add_7a177_49 : decode cJx4a65c_add_7a177 49 = .ok (.invokestatic 112, 3) := by decide +kernel
theorem dJx4a65c_add_7a177_52 : decode cJx4a65c_add_7a177 52 = .ok (.aload 4, 2) := by decide +kernel
theorem dJx4a65c_add_7a177_54 : decode cJx4a65c_add_7a177 54 = .ok (.iload_n 1, 1) := by decide +kernel
theorem dJx4a65c_add_7a177_55 : decode cJx4a65c_add_7a177 55 = .ok (.aload_n 2, 1) := by decide +kernel
theorem dJx4a65c_add_7a177_56 : decode cJx4a65c_add_7a177 56 = .ok (.aastore, 1) := by decide +kernel
theorem dJx4a65c_add_7a177_57 : decode cJx4a65c_add_7a177 57 = .ok (.aload_n 0, 1) := by decide +kernel
theorem dJx4a65c_add_7a177_58 : decode cJx4a65c_add_7a177 58 = .ok (.iload_n 3, 1) := by decide +kernel
theorem dJx4a65c_add_7a177_59 : decode cJx4a65c_add_7a177 59 = .ok (.iconst 1, 1) := by decide +kernel
theorem dJx4a65c_add_7a177_60 : decode cJx4a65c_add_7a177 60 = .ok (.iadd, 1) := by decide +kernel
theorem dJx4a65c_add_7a177_61 : decode cJx4a65c_add_7a177 61 = .ok (.putfield 48, 3) := by decide +kernel
theorem dJx4a65c_add_7a177_64 : decode cJx4a65c_add_7a177 64 = .ok (.return_, 1) := by decide +kernel
theorem dJx4a65c_rangeCheckForAdd_d00df_0 : decode cJx4a65c_rangeCheckForAdd_d00df 0 = .ok (.iload_n 1, 1) := by decide +kernel
theorem dJx4a65c_rangeCheckForAdd_d00df_1 : decode cJx4a65c_rangeCheckForAdd_d00df 1 = .ok (.aload_n 0, 1) := by decide +kernel
theorem dJx4a65c_rangeCheckForAdd_d00df_2 : decode cJx4a65c_rangeCheckForAdd_d00df 2 = .ok (.getfield 48, 3) := by decide +kernel
theorem dJx4a65c_rangeCheckForAdd_d00df_5 : decode cJx4a65c_rangeCheckForAdd_d00df 5 = .ok (.if_icmp .gt 7, 3) := by decide +kernel
theorem dJx4a65c_rangeCheckForAdd_d00df_8 : decode cJx4a65c_rangeCheckForAdd_d00df 8 = .ok (.iload_n 1, 1) := by decide +kernel
theorem dJx4a65c_rangeCheckForAdd_d00df_9 : decode cJx4a65c_rangeCheckForAdd_d00df 9 = .ok (.ifCond .ge 16, 3) := by decide +kernel
theorem dJx4a65c_rangeCheckForAdd_d00df_12 : decode cJx4a65c_rangeCheckForAdd_d00df 12 = .ok (.new 187, 3) := by decide +kernel
theorem dJx4a65c_rangeCheckForAdd_d00df_15 : decode cJx4a65c_rangeCheckForAdd_d00df 15 = .ok (.dup, 1) := by decide +kernel
theorem dJx4a65c_rangeCheckForAdd_d00df_16 : decode cJx4a65c_rangeCheckForAdd_d00df 16 = .ok (.aload_n 0, 1) := by decide +kernel
theorem dJx4a65c_rangeCheckForAdd_d00df_17 : decode cJx4a65c_rangeCheckForAdd_d00df 17 = .ok (.iload_n 1, 1) := by decide +kernel
theorem dJx4a65c_rangeCheckForAdd_d00df_18 : decode cJx4a65c_rangeCheckForAdd_d00df 18 = .ok (.invokevirtual 198, 3) := by decide +kernel
theorem dJx4a65c_rangeCheckForAdd_d00df_21 : decode cJx4a65c_rangeCheckForAdd_d00df 21 = .ok (.invokespecial 193, 3) := by decide +kernel
theorem dJx4a65c_rangeCheckForAdd_d00df_24 : decode cJx4a65c_rangeCheckForAdd_d00df 24 = .ok (.athrow, 1) := by decide +kernel
theorem dJx4a65c_rangeCheckForAdd_d00df_25 : decode cJx4a65c_rangeCheckForAdd_d00df 25 = .ok (.return_, 1) := by decide +kernel
set_option maxRecDepth 20000 in
theorem ggJ7_copyOf_1904c_J7_copyOf_6403c : GoodIn wsJ7_copyOf_1904c wsJ7_copyOf_6403c := goodIn_r _ [8, 9, 10, 11, 12, 13, 14, 15, 16, 17, 18] (by decide +kernel) (by decide +kernel)
set_option maxRecDepth 20000 in
theorem gJ7_copyOf_1904c_J7_copyOf_6403c : GoodIn wsJ7_copyOf_1904c (va_wsS RJ7 300 yJ7_copyOf_6403c wsJ7_copyOf_6403c) := goodIn_app (goodIn_of _ (by decide +kernel)) ggJ7_copyOf_1904c_J7_copyOf_6403c
theorem dJ7_copyOf_1904c_0 : decode cJ7_copyOf_1904c 0 = .ok (.aload_n 0, 1) := by decide +kernel
theorem dJ7_copyOf_1904c_1 : decode cJ7_copyOf_1904c 1 = .ok (.iload_n 1, 1) := by decide +kernel
theorem dJ7_copyOf_1904c_2 : decode cJ7_copyOf_1904c 2 = .ok (.aload_n 0, 1) := by decide +kernel
theorem dJ7_copyOf_1904c_3 : decode cJ7_copyOf_1904c 3 = .ok (.invokevirtual 86, 3) := by decide +kernel
theorem dJ7_copyOf_1904c_6 : decode cJ7_copyOf_1904c 6 = .ok (.invokestatic 300, 3) := by decide +kernel
theorem dJ7_copyOf_1904c_9 : decode cJ7_copyOf_1904c 9 = .ok (.areturn, 1) := by decide +kernel
theorem dJ7_copyOf_6403c_0 : decode cJ7_copyOf_6403c 0 = .ok (.aload_n 2, 1) := by decide +kernel
theorem dJ7_copyOf_6403c_1 : decode cJ7_copyOf_6403c 1 = .ok (.ldc 110, 2) := by decide +kernel
theorem dJ7_copyOf_6403c_3 : decode cJ7_copyOf_6403c 3 = .ok (.if_acmp .ne 10, 3) := by decide +kernel
theorem dJ7_copyOf_6403c_6 : decode cJ7_copyOf_6403c 6 = .ok (.iload_n 1, 1) := by decide +kernel
theorem dJ7_copyOf_6403c_7 : decode cJ7_copyOf_6403c 7 = .ok (.anewarray 2, 3) := by decide +kernel
theorem dJ7_copyOf_6403c_10 : decode cJ7_copyOf_6403c 10 = .ok (.goto 14, 3) := by decide +kernel
theorem dJ7_copyOf_6403c_13 : decode cJ7_copyOf_6403c 13 = .ok (.aload_n 2, 1) := by decide +kernel
theorem dJ7_copyOf_6403c_14 : decode cJ7_copyOf_6403c 14 = .ok (.invokevirtual 90, 3) := by decide +kernel
theorem dJ7_copyOf_6403c_17 : decode cJ7_copyOf_6403c 17 = .ok (.iload_n 1, 1) := by decide +kernel
theorem dJ7_copyOf_6403c_18 : decode cJ7_copyOf_6403c 18 = .ok (.invokestatic 95, 3) := by decide +kernel
theorem dJ7_copyOf_6403c_21 : decode cJ7_copyOf_6403c 21 = .ok (.checkcast 110, 3) := by decide +kernel
theorem dJ7_copyOf_6403c_24 : decode cJ7_copyOf_6403c 24 = .ok (.astore_n 3, 1) := by decide +kernel
theorem dJ7_copyOf_6403c_25 : decode cJ7_copyOf_6403c 25 = .ok (.aload_n 0, 1) := by decide +kernel
theorem dJ7_copyOf_6403c_26 : decode cJ7_copyOf_6403c 26 = .ok (.iconst 0, 1) := by decide +kernel
theorem dJ7_copyOf_6403c_27 : decode cJ7_copyOf_6403c 27 = .ok (.aload_n 3, 1) := by decide +kernel
theorem dJ7_copyOf_6403c_28 : decode cJ7_copyOf_6403c 28 = .ok (.iconst 0, 1) := by decide +kernel
theorem dJ7_copyOf_6403c_29 : decode cJ7_copyOf_6403c 29 = .ok (.aload_n 0, 1) := by decide +kernel
theorem dJ7_copyOf_6403c_30 : decode cJ7_copyOf_6403c 30 = .ok (.arraylength, 1) := by decide +kernel
theorem dJ7_copyOf_6403c_31 : decode cJ7_copyOf_6403c 31 = .ok (.iload_n 1, 1) := by decide +kernel
theorem dJ7_copyOf_6403c_32 : decode cJ7_copyOf_6403c 32 = .ok (.invokestatic 304, 3) := by decide +kernel
theorem dJ7_copyOf_6403c_35 : decode cJ7_copyOf_6403c 35 = .ok (.invokestatic 150, 3) := by decide +kernel
theorem dJ7_copyOf_6403c_38 : decode cJ7_copyOf_6403c 38 = .ok (.aload_n 3, 1) := by decide +kernel
theorem dJ7_copyOf_6403c_39 : decode cJ7_copyOf_6403c 39 = .ok (.areturn, 1) := by decide +kernel
set_option maxRecDepth 20000 in
theorem ggJ15_checkIndex_7cf53_J3_checkIndex_8e157 : GoodIn wsJ15_checkIndex_7cf53 wsJ3_checkIndex_8e157 := goodIn_r _ [4] (by decide +kernel) (by decide +kernel)
set_option maxRecDepth 20000 in
theorem gJ15_checkIndex_7cf53_J3_checkIndex_8e157 : GoodIn wsJ15_checkIndex_7cf53 (va_wsS RJ15 105 yJ3_checkIndex_8e157 wsJ3_checkIndex_8e157) := goodIn_app (goodIn_of _ (by decide +kernel)) ggJ15_checkIndex_7cf53_J3_checkIndex_8e157
theorem dJ15_checkIndex_7cf53_0 : decode cJ15_checkIndex_7cf53 0 = .ok (.iload_n 0, 1) := by decide +kernel
theorem dJ15_checkIndex_7cf53_1 : decode cJ15_checkIndex_7cf53 1 = .ok (.iload_n 1, 1) := by decide +kernel
theorem dJ15_checkIndex_7cf53_2 : decode cJ15_checkIndex_7cf53 2 = .ok (.aconst_null, 1) := by decide +kernel
theorem dJ15_checkIndex_7cf53_3 : decode cJ15_checkIndex_7cf53 3 = .ok (.invokestatic 105, 3) := by decide +kernel
theorem dJ15_checkIndex_7cf53_6 : decode cJ15_checkIndex_7cf53 6 = .ok (.ireturn, 1) := by decide +kernel
set_option maxRecDepth 20000 in
theorem ggJ8_newLength_cabcc_J8_hugeLength_7cf53 : GoodIn wsJ8_newLength_cabcc wsJ8_hugeLength_7cf53 := goodIn_r _ [9, 5] (by decide +kernel) (by decide +kernel)
set_option maxRecDepth 20000 in
theorem gJ8_newLength_cabcc_J8_hugeLength_7cf53 : GoodIn wsJ8_newLength_cabcc (va_wsS RJ8 201 yJ8_hugeLength_7cf53 wsJ8_hugeLength_7cf53) := goodIn_app (goodIn_of _ (by decide +kernel)) ggJ8_newLength_cabcc_J8_hugeLength_7cf53
theorem dJ8_newLength_cabcc_0 : decode cJ8_newLength_cabcc 0 = .ok (.iload_n 0, 1) := by decide +kernel
theorem dJ8_newLength_cabcc_1 : decode cJ8_newLength_cabcc 1 = .ok (.iload_n 1, 1) := by decide +kernel
theorem dJ8_newLength_cabcc_2 : decode cJ8_newLength_cabcc 2 = .ok (.iload_n 2, 1) := by decide +kernel
theorem dJ8_newLength_cabcc_3 : decode cJ8_newLength_cabcc 3 = .ok (.invokestatic 194, 3) := by decide +kernel
theorem dJ8_newLength_cabcc_6 : decode cJ8_newLength_cabcc 6 = .ok (.iadd, 1) := by decide +kernel
theorem dJ8_newLength_cabcc_7 : decode cJ8_newLength_cabcc 7 = .ok (.istore_n 3, 1) := by decide +kernel
theorem dJ8_newLength_cabcc_8 : decode cJ8_newLength_cabcc 8 = .ok (.iconst 0, 1) := by decide +kernel
theorem dJ8_newLength_cabcc_9 : decode cJ8_newLength_cabcc 9 = .ok (.iload_n 3, 1) := by decide +kernel
theorem dJ8_newLength_cabcc_10 : decode cJ8_newLength_cabcc 10 = .ok (.if_icmp .ge 11, 3) := by decide +kernel
theorem dJ8_newLength_cabcc_13 : decode cJ8_newLength_cabcc 13 = .ok (.iload_n 3, 1) := by decide +kernel
theorem dJ8_newLength_cabcc_14 : decode cJ8_newLength_cabcc 14 = .ok (.ldc 200, 2) := by decide +kernel
theorem dJ8_newLength_cabcc_16 : decode cJ8_newLength_cabcc 16 = .ok (.if_icmp .gt 5, 3) := by decide +kernel
theorem dJ8_newLength_cabcc_19 : decode cJ8_newLength_cabcc 19 = .ok (.iload_n 3, 1) := by decide +kernel
theorem dJ8_newLength_cabcc_20 : decode cJ8_newLength_cabcc 20 = .ok (.ireturn, 1) := by decide +kernel
theorem dJ8_newLength_cabcc_21 : decode cJ8_newLength_cabcc 21 = .ok (.iload_n 0, 1) := by decide +kernel
theorem dJ8_newLength_cabcc_22 : decode cJ8_newLength_cabcc 22 = .ok (.iload_n 1, 1) := by decide +kernel
theorem dJ8_newLength_cabcc_23 : decode cJ8_newLength_cabcc 23 = .ok (.invokestatic 201, 3) := by decide +kernel
theorem dJ8_newLength_cabcc_26 : decode cJ8_newLength_cabcc 26 = .ok (.ireturn, 1) := by decide +kernel
theorem dJ8_hugeLength_7cf53_0 : decode cJ8_hugeLength_7cf53 0 = .ok (.iload_n 0, 1) := by decide +kernel
theorem dJ8_hugeLength_7cf53_1 : decode cJ8_hugeLength_7cf53 1 = .ok (.iload_n 1, 1) := by decide +kernel
theorem dJ8_hugeLength_7cf53_2 : decode cJ8_hugeLength_7cf53 2 = .ok (.iadd, 1) := by decide +kernel
theorem dJ8_hugeLength_7cf53_3 : decode cJ8_hugeLength_7cf53 3 = .ok (.istore_n 2, 1) := by decide +kernel
theorem dJ8_hugeLength_7cf53_4 : decode cJ8_hugeLength_7cf53 4 = .ok (.iload_n 2, 1) := by decide +kernel
theorem dJ8_hugeLength_7cf53_5 : decode cJ8_hugeLength_7cf53 5 = .ok (.ifCond .ge 44, 3) := by decide +kernel
theorem dJ8_hugeLength_7cf53_8 : decode cJ8_hugeLength_7cf53 8 = .ok (.new 204, 3) := by decide +kernel
theorem dJ8_hugeLength_7cf53_11 : decode cJ8_hugeLength_7cf53 11 = .ok (.dup, 1) := by decide +kernel
theorem dJ8_hugeLength_7cf53_12 : decode cJ8_hugeLength_7cf53 12 = .ok (.new 89, 3) := by decide +kernel
theorem dJ8_hugeLength_7cf53_15 : decode cJ8_hugeLength_7cf53 15 = .ok (.dup, 1) := by decide +kernel
theorem dJ8_hugeLength_7cf53_16 : decode cJ8_hugeLength_7cf53 16 = .ok (.invokespecial 91, 3) := by decide +kernel
theorem dJ8_hugeLength_7cf53_19 : decode cJ8_hugeLength_7cf53 19 = .ok (.ldc 206, 2) := by decide +kernel
theorem dJ8_hugeLength_7cf53_21 : decode cJ8_hugeLength_7cf53 21 = .ok (.invokevirtual 94, 3) := by decide +kernel
theorem dJ8_hugeLength_7cf53_24 : decode cJ8_hugeLength_7cf53 24 = .ok (.iload_n 0, 1) := by decide +kernel
theorem dJ8_hugeLength_7cf53_25 : decode cJ8_hugeLength_7cf53 25 = .ok (.invokevirtual 98, 3) := by decide +kernel
theorem dJ8_hugeLength_7cf53_28 : decode cJ8_hugeLength_7cf53 28 = .ok (.ldc 208, 2) := by decide +kernel
theorem dJ8_hugeLength_7cf53_30 : decode cJ8_hugeLength_7cf53 30 = .ok (.invokevirtual 94, 3) := by decide +kernel
theorem dJ8_hugeLength_7cf53_33 : decode cJ8_hugeLength_7cf53 33 = .ok (.iload_n 1, 1) := by decide +kernel
theorem dJ8_hugeLength_7cf53_34 : decode cJ8_hugeLength_7cf53 34 = .ok (.invokevirtual 98, 3) := by decide +kernel
theorem dJ8_hugeLength_7cf53_37 : decode cJ8_hugeLength_7cf53 37 = .ok (.ldc 210, 2) := by decide +kernel
theorem dJ8_hugeLength_7cf53_39 : decode cJ8_hugeLength_7cf53 39 = .ok (.invokevirtual 94, 3) := by decide +kernel
theorem dJ8_hugeLength_7cf53_42 : decode cJ8_hugeLength_7cf53 42 = .ok (.invokevirtual 101, 3) := by decide +kernel
theorem dJ8_hugeLength_7cf53_45 : decode cJ8_hugeLength_7cf53 45 = .ok (.invokespecial 212, 3) := by decide +kernel
theorem dJ8_hugeLength_7cf53_48 : decode cJ8_hugeLength_7cf53 48 = .ok (.athrow, 1) := by decide +kernel
theorem dJ8_hugeLength_7cf53_49 : decode cJ8_hugeLength_7cf53 49 = .ok (.iload_n 2, 1) := by decide +kernel
theorem dJ8_hugeLength_7cf53_50 : decode cJ8_hugeLength_7cf53 50 = .ok (.ldc 200, 2) := by decide +kernel
theorem dJ8_hugeLength_7cf53_52 : decode cJ8_hugeLength_7cf53 52 = .ok (.if_icmp .gt 6, 3) := by decide +kernel
theorem dJ8_hugeLength_7cf53_55 : decode cJ8_hugeLength_7cf53 55 = .ok (.ldc 200, 2) := by decide +kernel
theorem dJ8_hugeLength_7cf53_57 : decode cJ8_hugeLength_7cf53 57 = .ok (.ireturn, 1) := by decide +kernel
theorem dJ8_hugeLength_7cf53_58 : decode cJ8_hugeLength_7cf53 58 = .ok (.iload_n 2, 1) := by decide +kernel
theorem dJ8_hugeLength_7cf53_59 : decode cJ8_hugeLength_7cf53 59 = .ok (.ireturn, 1) := by decide +kernel
theorem dJ3_checkIndex_8e157_0 : decode cJ3_checkIndex_8e157 0 = .ok (.iload_n 0, 1) := by decide +kernel
theorem dJ3_checkIndex_8e157_1 : decode cJ3_checkIndex_8e157 1 = .ok (.ifCond .lt 8, 3) := by decide +kernel
theorem dJ3_checkIndex_8e157_4 : decode cJ3_checkIndex_8e157 4 = .ok (.iload_n 0, 1) := by decide +kernel
theorem dJ3_checkIndex_8e157_5 : decode cJ3_checkIndex_8e157 5 = .ok (.iload_n 1, 1) := by decide +kernel
theorem dJ3_checkIndex_8e157_6 : decode cJ3_checkIndex_8e157 6 = .ok (.if_icmp .lt 10, 3) := by decide +kernel
theorem dJ3_checkIndex_8e157_9 : decode cJ3_checkIndex_8e157 9 = .ok (.aload_n 2, 1) := by decide +kernel
theorem dJ3_checkIndex_8e157_10 : decode cJ3_checkIndex_8e157 10 = .ok (.iload_n 0, 1) := by decide +kernel
theorem dJ3_checkIndex_8e157_11 : decode cJ3_checkIndex_8e157 11 = .ok (.iload_n 1, 1) := by decide +kernel
theorem dJ3_checkIndex_8e157_12 : decode cJ3_checkIndex_8e157 12 = .ok (.invokestatic 95, 3) := by decide +kernel
theorem dJ3_checkIndex_8e157_15 : decode cJ3_checkIndex_8e157 15 = .ok (.athrow, 1) := by decide +kernel
theorem dJ3_checkIndex_8e157_16 : decode cJ3_checkIndex_8e157 16 = .ok (.iload_n 0, 1) := by decide +kernel
theorem dJ3_checkIndex_8e157_17 : decode cJ3_checkIndex_8e157 17 = .ok (.ireturn, 1) := by decide +kernel
theorem dL_draw_0 : decode cL_draw 0 = .ok (.iload_n 1, 1) := by decide +kernel
theorem dL_draw_1 : decode cL_draw 1 = .ok (.aload_n 0, 1) := by decide +kernel
theorem dL_draw_2 : decode cL_draw 2 = .ok (.arraylength, 1) := by decide +kernel
theorem dL_draw_3 : decode cL_draw 3 = .ok (.if_icmp .ge 9, 3) := by decide +kernel
theorem dL_draw_6 : decode cL_draw 6 = .ok (.aload_n 0, 1) := by decide +kernel
theorem dL_draw_7 : decode cL_draw 7 = .ok (.iload_n 1, 1) := by decide +kernel
theorem dL_draw_8 : decode cL_draw 8 = .ok (.iaload, 1) := by decide +kernel
theorem dL_draw_9 : decode cL_draw 9 = .ok (.goto 13, 3) := by decide +kernel
theorem dL_draw_12 : decode cL_draw 12 = .ok (.ldc 7, 2) := by decide +kernel
theorem dL_draw_14 : decode cL_draw 14 = .ok (.iload_n 1, 1) := by decide +kernel
theorem dL_draw_15 : decode cL_draw 15 = .ok (.bipush 11, 2) := by decide +kernel
theorem dL_draw_17 : decode cL_draw 17 = .ok (.iadd, 1) := by decide +kernel
theorem dL_draw_18 : decode cL_draw 18 = .ok (.imul, 1) := by decide +kernel
theorem dL_draw_19 : decode cL_draw 19 = .ok (.ldc 8, 2) := by decide +kernel
theorem dL_draw_21 : decode cL_draw 21 = .ok (.iadd, 1) := by decide +kernel
theorem dL_draw_22 : decode cL_draw 22 = .ok (.istore_n 3, 1) := by decide +kernel
theorem dL_draw_23 : decode cL_draw 23 = .ok (.iload_n 3, 1) := by decide +kernel
theorem dL_draw_24 : decode cL_draw 24 = .ok (.ldc 9, 2) := by decide +kernel
theorem dL_draw_26 : decode cL_draw 26 = .ok (.iand, 1) := by decide +kernel
theorem dL_draw_27 : decode cL_draw 27 = .ok (.iload_n 2, 1) := by decide +kernel
theorem dL_draw_28 : decode cL_draw 28 = .ok (.irem, 1) := by decide +kernel
theorem dL_draw_29 : decode cL_draw 29 = .ok (.ireturn, 1) := by decide +kernel
theorem dL_parent_0 : decode cL_parent 0 = .ok (.aload_n 0, 1) := by decide +kernel
theorem dL_parent_1 : decode cL_parent 1 = .ok (.iconst 2, 1) := by decide +kernel
theorem dL_parent_2 : decode cL_parent 2 = .ok (.iload_n 1, 1) := by decide +kernel
theorem dL_parent_3 : decode cL_parent 3 = .ok (.imul, 1) := by decide +kernel
theorem dL_parent_4 : decode cL_parent 4 = .ok (.iconst 3, 1) := by decide +kernel
theorem dL_parent_5 : decode cL_parent 5 = .ok (.iadd, 1) := by decide +kernel
theorem dL_parent_6 : decode cL_parent 6 = .ok (.iaload, 1) := by decide +kernel
theorem dL_parent_7 : decode cL_parent 7 = .ok (.ireturn, 1) := by decide +kernel
set_option maxRecDepth 20000 in
theorem ggL_top_L_parent : GoodIn wsL_top wsL_parent := goodIn_r _ [4] (by decide +kernel) (by decide +kernel)
set_option maxRecDepth 20000 in
theorem gL_top_L_parent : GoodIn wsL_top (va_wsS RL 10 yL_parent wsL_parent) := goodIn_app (goodIn_of _ (by decide +kernel)) ggL_top_L_parent
theorem dL_top_0 : decode cL_top 0 = .ok (.iload_n 1, 1) := by decide +kernel
theorem dL_top_1 : decode cL_top 1 = .ok (.istore_n 2, 1) := by decide +kernel
theorem dL_top_2 : decode cL_top 2 = .ok (.aload_n 0, 1) := by decide +kernel
theorem dL_top_3 : decode cL_top 3 = .ok (.iload_n 2, 1) := by decide +kernel
theorem dL_top_4 : decode cL_top 4 = .ok (.invokestatic 10, 3) := by decide +kernel
theorem dL_top_7 : decode cL_top 7 = .ok (.ifCond .lt 12, 3) := by decide +kernel
theorem dL_top_10 : decode cL_top 10 = .ok (.aload_n 0, 1) := by decide +kernel
theorem dL_top_11 : decode cL_top 11 = .ok (.iload_n 2, 1) := by decide +kernel
theorem dL_top_12 : decode cL_top 12 = .ok (.invokestatic 10, 3) := by decide +kernel
theorem dL_top_15 : decode cL_top 15 = .ok (.istore_n 2, 1) := by decide +kernel
theorem dL_top_16 : decode cL_top 16 = .ok (.goto (-14), 3) := by decide +kernel
theorem dL_top_19 : decode cL_top 19 = .ok (.iload_n 2, 1) := by decide +kernel
theorem dL_top_20 : decode cL_top 20 = .ok (.ireturn, 1) := by decide +kernel
def ch_wsL_areSums : List (List Cond) := [wsL_areSums_r1, wsL_areSums_r2, wsL_areSums_r3, wsL_areSums_r4, wsL_areSums_r5, wsL_areSums_r6, wsL_areSums_r7, wsL_areSums_r8, wsL_areSums_r9, wsL_areSums_r10, wsX90, wsX30, wsJx4a65c0, wsX00, wsX60, wsX70, wsX50, wsX40]
theorem chm_wsL_areSums : ∀ c ∈ ch_wsL_areSums, ∀ w ∈ c, w ∈ wsL_areSums := List.forall_mem_cons.mpr ⟨(fun w h => (List.mem_cons_of_mem _ (List.mem_append_left _ (List.mem_append_left _ (List.mem_append_left _ (List.mem_append_left _ (List.mem_append_left _ (List.mem_append_left _ (List.mem_append_left _ (List.mem_append_left _ (List.mem_append_left _ (List.mem_append_left _ (List.mem_append_left _ h))))))))))))), List.forall_mem_cons.mpr ⟨(fun w h => (List.mem_cons_of_mem _ (List.mem_append_left _ (List.mem_append_left _ (List.mem_append_left _ (List.mem_append_left _ (List.mem_append_left _ (List.mem_append_left _ (List.mem_append_left _ (List.mem_append_left _ (List.mem_append_left _ (List.mem_append_left _ (List.mem_append_right _ (List.mem_append_left _ h)))))))))))))), List.forall_mem_cons.mpr ⟨(fun w h => (List.mem_cons_of_mem _ (List.mem_append_left _ (List.mem_append_left _ (List.mem_append_left _ (List.mem_append_left _ (List.mem_append_left _ (List.mem_append_left _ (List.mem_append_left _ (List.mem_append_left _ (List.mem_append_left _ (List.mem_append_left _ (List.mem_append_right _ (List.mem_append_right _ (List.mem_append_left _ h))))))))))))))), List.forall_mem_cons.mpr ⟨(fun w h => (List.mem_cons_of_mem _ (List.mem_append_left _ (List.mem_append_left _ (List.mem_append_left _ (List.mem_append_left _ (List.mem_append_left _ (List.mem_append_left _ (List.mem_append_left _ (List.mem_append_left _ (List.mem_append_left _ (List.mem_append_left _ (List.mem_append_right _ (List.mem_append_right _ (List.mem_append_right _ (List.mem_append_left _ h)))))))))))))))), List.forall_mem_cons.mpr ⟨(fun w h => (List.mem_cons_of_mem _ (List.mem_append_left _ (List.mem_append_left _ (List.mem_append_left _ (List.mem_append_left _ (List.mem_append_left _ (List.mem_append_left _ (List.mem_append_left _ (List.mem_append_left _ (List.mem_append_left _ (List.mem_append_left _ (List.mem_append_right _ (List.mem_append_right _ (List.mem_append_right _ (List.mem_append_right _ (List.mem_append_left _ h))))))))))))))))), List.forall_mem_cons.mpr ⟨(fun w h => (List.mem_cons_of_mem _ (List.mem_append_left _ (List.mem_append_left _ (List.mem_append_left _ (List.mem_append_left _ (List.mem_append_left _ (List.mem_append_left _ (List.mem_append_left _ (List.mem_append_left _ (List.mem_append_left _ (List.mem_append_left _ (List.mem_append_right _ (List.mem_append_right _ (List.mem_append_right _ (List.mem_append_right _ (List.mem_append_right _ (List.mem_append_left _ h)))))))))))))))))), List.forall_mem_cons.mpr ⟨(fun w h => (List.mem_cons_of_mem _ (List.mem_append_left _ (List.mem_append_left _ (List.mem_append_left _ (List.mem_append_left _ (List.mem_append_left _ (List.mem_append_left _ (List.mem_append_left _ (List.mem_append_left _ (List.mem_append_left _ (List.mem_append_left _ (List.mem_append_right _ (List.mem_append_right _ (List.mem_append_right _ (List.mem_append_right _ (List.mem_append_right _ (List.mem_append_right _ (List.mem_append_left _ h))))))))))))))))))), List.forall_mem_cons.mpr ⟨(fun w h => (List.mem_cons_of_mem _ (List.mem_append_left _ (List.mem_append_left _ (List.mem_append_left _ (List.mem_append_left _ (List.mem_append_left _ (List.mem_append_left _ (List.mem_append_left _ (List.mem_append_left _ (List.mem_append_left _ (List.mem_append_left _ (List.mem_append_right _ (List.mem_append_right _ (List.mem_append_right _ (List.mem_append_right _ (List.mem_append_right _ (List.mem_append_right _ (List.mem_append_right _ (List.mem_append_left _ h)))))))))))))))))))), List.forall_mem_cons.mpr ⟨(fun w h => (List.mem_cons_of_mem _ (List.mem_append_left _ (List.mem_append_left _ (List.mem_append_left _ (List.mem_append_left _ (List.mem_append_left _ (List.mem_append_left _ (List.mem_append_left _ (List.mem_append_left _ (List.mem_append_left _ (List.mem_append_left _ (List.mem_append_right _ (List.mem_append_right _ (List.mem_append_right _ (List.mem_append_right _ (List.mem_append_right _ (List.mem_append_right _ (List.mem_append_right _ (List.mem_append_right _ (List.mem_append_left _ h))))))))))))))))))))), List.forall_mem_cons.mpr ⟨(fun w h => (List.mem_cons_of_mem _ (List.mem_append_left _ (List.mem_append_left _ (List.mem_append_left _ (List.mem_append_left _ (List.mem_append_left _ (List.mem_append_left _ (List.mem_append_left _ (List.mem_append_left _ (List.mem_append_left _ (List.mem_append_left _ (List.mem_append_right _ (List.mem_append_right _ (List.mem_append_right _ (List.mem_append_right _ (List.mem_append_right _ (List.mem_append_right _ (List.mem_append_right _ (List.mem_append_right _ (List.mem_append_right _ h))))))))))))))))))))), List.forall_mem_cons.mpr ⟨(fun w h => (List.mem_cons_of_mem _ (List.mem_append_left _ (List.mem_append_left _ (List.mem_append_left _ (List.mem_append_left _ (List.mem_append_left _ (List.mem_append_left _ (List.mem_append_left _ (List.mem_append_left _ (List.mem_append_left _ (List.mem_append_right _ h)))))))))))), List.forall_mem_cons.mpr ⟨(fun w h => (List.mem_cons_of_mem _ (List.mem_append_left _ (List.mem_append_left _ (List.mem_append_left _ (List.mem_append_left _ (List.mem_append_left _ (List.mem_append_left _ (List.mem_append_left _ (List.mem_append_left _ (List.mem_append_right _ h))))))))))), List.forall_mem_cons.mpr ⟨(fun w h => (List.mem_cons_of_mem _ (List.mem_append_left _ (List.mem_append_left _ (List.mem_append_left _ (List.mem_append_left _ (List.mem_append_left _ (List.mem_append_left _ (List.mem_append_left _ (List.mem_append_right _ h)))))))))), List.forall_mem_cons.mpr ⟨(fun w h => (List.mem_cons_of_mem _ (List.mem_append_left _ (List.mem_append_left _ (List.mem_append_left _ (List.mem_append_left _ (List.mem_append_left _ (List.mem_append_left _ (List.mem_append_right _ h))))))))), List.forall_mem_cons.mpr ⟨(fun w h => (List.mem_cons_of_mem _ (List.mem_append_left _ (List.mem_append_left _ (List.mem_append_left _ (List.mem_append_left _ (List.mem_append_left _ (List.mem_append_right _ h)))))))), List.forall_mem_cons.mpr ⟨(fun w h => (List.mem_cons_of_mem _ (List.mem_append_left _ (List.mem_append_left _ (List.mem_append_left _ (List.mem_append_left _ (List.mem_append_right _ h))))))), List.forall_mem_cons.mpr ⟨(fun w h => (List.mem_cons_of_mem _ (List.mem_append_left _ (List.mem_append_left _ (List.mem_append_left _ (List.mem_append_right _ h)))))), List.forall_mem_cons.mpr ⟨(fun w h => (List.mem_cons_of_mem _ (List.mem_append_left _ (List.mem_append_left _ (List.mem_append_right _ h))))), fun _ h => absurd h List.not_mem_nil⟩⟩⟩⟩⟩⟩⟩⟩⟩⟩⟩⟩⟩⟩⟩⟩⟩⟩
set_option maxRecDepth 100000 in
set_option maxHeartbeats 4000000 in
theorem ggL_areSums_X9_accounts : GoodIn wsL_areSums wsX9_accounts := goodIn_k ch_wsL_areSums chm_wsL_areSums _ [(0, 4), (0, 5), (0, 6), (0, 7), (0, 8), (0, 9), (0, 10), (0, 11), (0, 12), (10, 0), (11, 0), (11, 1), (11, 2), (11, 3), (11, 4), (11, 5), (11, 6), (11, 7), (12, 0), (12, 1), (12, 2)] (by rfl) (by decide +kernel)
set_option maxRecDepth 20000 in
theorem gL_areSums_X9_accounts : GoodIn wsL_areSums (wsV RL 16 RX9 yX9_accounts wsX9_accounts) := goodIn_app (goodIn_of _ (by decide +kernel)) ggL_areSums_X9_accounts
set_option maxRecDepth 100000 in
set_option maxHeartbeats 4000000 in
theorem ggL_areSums_X9_balance : GoodIn wsL_areSums wsX9_balance := goodIn_ca (goodIn_k ch_wsL_areSums chm_wsL_areSums _ [(0, 16), (0, 17), (0, 18), (0, 19), (0, 20), (0, 3), (0, 21), (0, 22), (0, 23), (0, 5), (0, 6), (1, 0), (0, 7), (0, 8), (0, 9), (0, 10), (0, 11), (0, 12), (1, 1), (1, 2), (1, 3), (1, 4), (1, 5), (1, 6), (1, 7), (1, 8), (1, 9), (1, 10), (1, 11), (1, 12), (1, 13), (1, 14), (1, 15), (1, 16), (1, 17), (13, 0), (13, 1), (13, 2), (13, 3), (13, 4), (13, 5), (13, 6), (13, 7), (13, 8), (13, 9), (13, 10), (13, 11), (10, 0), (11, 0), (11, 1), (11, 2), (11, 3), (11, 4), (11, 5), (11, 6), (11, 7), (12, 0), (12, 1), (12, 2)] (by rfl) (by decide +kernel)) (goodIn_sub (fun _ h => List.mem_cons_of_mem _ (List.mem_append_left _ (List.mem_append_right _ h))) (by decide +kernel))
set_option maxRecDepth 20000 in
theorem gL_areSums_X9_balance : GoodIn wsL_areSums (wsV RL 22 RX9 yX9_balance wsX9_balance) := goodIn_app (goodIn_of _ (by decide +kernel)) ggL_areSums_X9_balance
set_option maxRecDepth 100000 in
set_option maxHeartbeats 4000000 in
theorem ggL_areSums_L_parent : GoodIn wsL_areSums wsL_parent := goodIn_k ch_wsL_areSums chm_wsL_areSums _ [(1, 21)] (by rfl) (by decide +kernel)
set_option maxRecDepth 20000 in
theorem gL_areSums_L_parent : GoodIn wsL_areSums (va_wsS RL 10 yL_parent wsL_parent) := goodIn_app (goodIn_of _ (by decide +kernel)) ggL_areSums_L_parent
set_option maxRecDepth 100000 in
set_option maxHeartbeats 4000000 in
theorem ggL_areSums_X9_total : GoodIn wsL_areSums wsX9_total := goodIn_ca (goodIn_k ch_wsL_areSums chm_wsL_areSums _ [(2, 1), (0, 18), (0, 19), (0, 20), (0, 3), (0, 21), (0, 22), (0, 23), (0, 5), (0, 6), (1, 0), (0, 7), (0, 8), (0, 9), (0, 10), (0, 11), (0, 12), (1, 1), (1, 2), (1, 3), (1, 4), (1, 5), (1, 6), (1, 7), (1, 8), (1, 9), (1, 10), (1, 11), (1, 12), (1, 13), (1, 14), (1, 15), (1, 16), (1, 17), (2, 2), (2, 3), (2, 4), (2, 5), (2, 6), (2, 7), (2, 8), (2, 9), (2, 10), (10, 0), (11, 0), (11, 1), (11, 2), (11, 3), (11, 4), (11, 5), (11, 6), (11, 7), (12, 0), (12, 1), (12, 2), (13, 0), (13, 1), (13, 2), (13, 3), (13, 4), (13, 5), (13, 6), (13, 7), (13, 8), (13, 9), (13, 10), (13, 11)] (by rfl) (by decide +kernel)) (goodIn_sub (fun _ h => List.mem_cons_of_mem _ (List.mem_append_left _ (List.mem_append_right _ h))) (by decide +kernel))
set_option maxRecDepth 20000 in
theorem gL_areSums_X9_total : GoodIn wsL_areSums (wsV RL 26 RX9 yX9_total wsX9_total) := goodIn_app (goodIn_of _ (by decide +kernel)) ggL_areSums_X9_total
set_option maxRecDepth 100000 in
set_option maxHeartbeats 4000000 in
theorem ggL_areSums_L_top : GoodIn wsL_areSums wsL_top := goodIn_k ch_wsL_areSums chm_wsL_areSums _ [(2, 13), (1, 18), (1, 19), (1, 20), (1, 21)] (by rfl) (by decide +kernel)
set_option maxRecDepth 20000 in
theorem gL_areSums_L_top : GoodIn wsL_areSums (va_wsS RL 29 yL_top wsL_top) := goodIn_app (goodIn_of _ (by decide +kernel)) ggL_areSums_L_top
set_option maxRecDepth 100000 in
set_option maxHeartbeats 4000000 in
theorem ggL_areSums_X9_afterSweep : GoodIn wsL_areSums wsX9_afterSweep := goodIn_ca (goodIn_k ch_wsL_areSums chm_wsL_areSums _ [(2, 17), (0, 18), (0, 19), (0, 20), (0, 3), (0, 21), (0, 22), (0, 23), (0, 5), (0, 6), (1, 0), (0, 7), (0, 8), (0, 9), (0, 10), (0, 11), (0, 12), (1, 1), (1, 2), (1, 3), (1, 4), (1, 5), (1, 6), (1, 7), (1, 8), (1, 9), (1, 10), (1, 11), (1, 12), (1, 13), (1, 14), (1, 15), (1, 16), (1, 17), (2, 18), (2, 19), (2, 3), (2, 20), (2, 21), (2, 22), (2, 23), (3, 0), (3, 1), (2, 6), (2, 7), (3, 2), (3, 3), (3, 4), (3, 5), (3, 6), (3, 7), (3, 8), (3, 9), (3, 10), (3, 11), (2, 5), (2, 8), (2, 9), (3, 12), (3, 13), (3, 14), (3, 15), (3, 16), (3, 17), (3, 18), (3, 19), (3, 20), (3, 21), (3, 22), (3, 23), (4, 0), (4, 1), (4, 2), (4, 3), (10, 0), (11, 0), (11, 1), (11, 2), (11, 3), (11, 4), (11, 5), (11, 6), (11, 7), (12, 0), (12, 1), (12, 2), (13, 0), (13, 1), (13, 2), (13, 3), (13, 4), (13, 5), (13, 6), (13, 7), (13, 8), (13, 9), (13, 10), (13, 11)] (by rfl) (by decide +kernel)) (goodIn_sub (fun _ h => List.mem_cons_of_mem _ (List.mem_append_left _ (List.mem_append_right _ h))) (by decide +kernel))
set_option maxRecDepth 20000 in
theorem gL_areSums_X9_afterSweep : GoodIn wsL_areSums (wsV RL 32 RX9 yX9_afterSweep wsX9_afterSweep) := goodIn_app (goodIn_of _ (by decide +kernel)) ggL_areSums_X9_afterSweep
set_option maxRecDepth 100000 in
set_option maxHeartbeats 4000000 in
theorem ggL_areSums_X9_interestOf : GoodIn wsL_areSums wsX9_interestOf := goodIn_ca (goodIn_k ch_wsL_areSums chm_wsL_areSums _ [(4, 7), (4, 8), (0, 18), (0, 19), (0, 20), (0, 3), (0, 21), (0, 22), (0, 23), (0, 5), (0, 6), (1, 0), (0, 7), (0, 8), (0, 9), (0, 10), (0, 11), (0, 12), (1, 1), (1, 2), (1, 3), (1, 4), (1, 5), (1, 6), (1, 7), (1, 8), (1, 9), (1, 10), (1, 11), (1, 12), (1, 13), (1, 14), (1, 15), (1, 16), (1, 17), (13, 0), (13, 1), (13, 2), (13, 3), (13, 4), (13, 5), (13, 6), (13, 7), (13, 8), (13, 9), (13, 10), (13, 11), (10, 0), (11, 0), (11, 1), (11, 2), (11, 3), (11, 4), (11, 5), (11, 6), (11, 7), (12, 0), (12, 1), (12, 2)] (by rfl) (by decide +kernel)) (goodIn_sub (fun _ h => List.mem_cons_of_mem _ (List.mem_append_left _ (List.mem_append_right _ h))) (by decide +kernel))
set_option maxRecDepth 20000 in
theorem gL_areSums_X9_interestOf : GoodIn wsL_areSums (wsV RL 35 RX9 yX9_interestOf wsX9_interestOf) := goodIn_app (goodIn_of _ (by decide +kernel)) ggL_areSums_X9_interestOf
set_option maxRecDepth 100000 in
set_option maxHeartbeats 4000000 in
theorem ggL_areSums_X9_poolOf : GoodIn wsL_areSums wsX9_poolOf := goodIn_ca (goodIn_k ch_wsL_areSums chm_wsL_areSums _ [(4, 12), (4, 13), (4, 14), (0, 18), (0, 19), (0, 20), (0, 3), (0, 21), (0, 22), (0, 23), (0, 5), (0, 6), (1, 0), (0, 7), (0, 8), (0, 9), (0, 10), (0, 11), (0, 12), (1, 1), (1, 2), (1, 3), (1, 4), (1, 5), (1, 6), (1, 7), (1, 8), (1, 9), (1, 10), (1, 11), (1, 12), (1, 13), (1, 14), (1, 15), (1, 16), (1, 17), (13, 0), (13, 1), (13, 2), (13, 3), (13, 4), (13, 5), (13, 6), (13, 7), (13, 8), (13, 9), (13, 10), (13, 11), (14, 0), (14, 1), (14, 2), (14, 3), (14, 4), (10, 0), (11, 0), (11, 1), (11, 2), (11, 3), (11, 4), (11, 5), (11, 6), (11, 7), (12, 0), (12, 1), (12, 2)] (by rfl) (by decide +kernel)) (goodIn_sub (fun _ h => List.mem_cons_of_mem _ (List.mem_append_left _ (List.mem_append_right _ h))) (by decide +kernel))
set_option maxRecDepth 20000 in
theorem gL_areSums_X9_poolOf : GoodIn wsL_areSums (wsV RL 38 RX9 yX9_poolOf wsX9_poolOf) := goodIn_app (goodIn_of _ (by decide +kernel)) ggL_areSums_X9_poolOf
set_option maxRecDepth 100000 in
set_option maxHeartbeats 4000000 in
theorem ggL_areSums_X9_afterSweepByMoves : GoodIn wsL_areSums wsX9_afterSweepByMoves := goodIn_ca (goodIn_k ch_wsL_areSums chm_wsL_areSums _ [(4, 18), (0, 5), (0, 17), (0, 18), (0, 19), (0, 20), (0, 3), (0, 21), (0, 22), (0, 23), (0, 6), (1, 0), (0, 7), (0, 8), (0, 9), (0, 10), (0, 11), (0, 12), (1, 1), (1, 2), (1, 3), (1, 4), (1, 5), (1, 6), (1, 7), (1, 8), (1, 9), (1, 10), (1, 11), (1, 12), (1, 13), (1, 14), (1, 15), (1, 16), (1, 17), (4, 19), (4, 20), (4, 21), (4, 22), (4, 23), (5, 0), (5, 1), (5, 2), (5, 3), (5, 4), (5, 5), (5, 6), (5, 7), (5, 8), (5, 9), (5, 10), (5, 11), (5, 12), (5, 13), (5, 14), (3, 15), (5, 15), (5, 16), (5, 17), (5, 18), (5, 19), (5, 20), (5, 21), (5, 22), (5, 23), (6, 0), (6, 1), (6, 2), (6, 3), (6, 4), (6, 5), (6, 6), (6, 7), (6, 8), (6, 9), (6, 10), (6, 11), (6, 12), (6, 13), (6, 14), (6, 15), (6, 16), (6, 17), (6, 18), (6, 19), (6, 20), (6, 21), (6, 22), (6, 23), (7, 0), (7, 1), (7, 2), (7, 3), (7, 4), (7, 5), (7, 6), (7, 7), (7, 8), (7, 9), (7, 10), (7, 11), (7, 12), (7, 13), (7, 14), (7, 15), (7, 16), (7, 17), (7, 18), (7, 19), (2, 3), (7, 20), (7, 21), (7, 22), (7, 23), (2, 6), (2, 7), (2, 5), (3, 5), (3, 6), (3, 7), (3, 8), (3, 0), (2, 8), (2, 9), (3, 12), (3, 13), (3, 14), (3, 16), (3, 17), (3, 18), (3, 19), (3, 20), (3, 21), (3, 22), (8, 0), (8, 1), (8, 2), (3, 23), (4, 0), (4, 1), (4, 2), (4, 3), (8, 3), (8, 4), (8, 5), (8, 6), (8, 7), (8, 8), (8, 9), (8, 10), (8, 11), (8, 12), (8, 13), (8, 14), (8, 15), (8, 16), (8, 17), (8, 18), (8, 19), (8, 20), (8, 21), (8, 22), (8, 23), (9, 0), (9, 1), (9, 2), (10, 0), (13, 0), (13, 1), (13, 2), (13, 3), (13, 4), (13, 5), (13, 6), (13, 7), (13, 8), (13, 9), (13, 10), (13, 11), (11, 0), (11, 1), (11, 2), (11, 3), (11, 4), (11, 5), (11, 6), (11, 7), (12, 0), (12, 1), (12, 2), (14, 0), (14, 1), (14, 2), (14, 3), (14, 4), (15, 0), (15, 1), (15, 2), (15, 3), (15, 4), (15, 5), (15, 6), (15, 7), (15, 8), (15, 9), (16, 0), (16, 1), (16, 2), (16, 3), (16, 4), (16, 5), (16, 6), (16, 7), (16, 8), (17, 0), (17, 1), (17, 2), (17, 3), (17, 4), (17, 5), (17, 6)] (by rfl) (by decide +kernel)) (goodIn_sub (fun _ h => List.mem_cons_of_mem _ (List.mem_append_left _ (List.mem_append_right _ h))) (by decide +kernel))
set_option maxRecDepth 20000 in
theorem gL_areSums_X9_afterSweepByMoves : GoodIn wsL_areSums (wsV RL 42 RX9 yX9_afterSweepByMoves wsX9_afterSweepByMoves) := goodIn_app (goodIn_of _ (by decide +kernel)) ggL_areSums_X9_afterSweepByMoves
set_option maxRecDepth 100000 in
set_option maxHeartbeats 4000000 in
theorem ggL_areSums_X9_poolInterest : GoodIn wsL_areSums wsX9_poolInterest := goodIn_ca (goodIn_ca (goodIn_k ch_wsL_areSums chm_wsL_areSums _ [(9, 6), (4, 13), (9, 7), (9, 8), (9, 9), (0, 18), (0, 19), (0, 20), (0, 3), (0, 21), (0, 22), (0, 23), (0, 5), (0, 6), (1, 0), (0, 7), (0, 8), (0, 9), (0, 10), (0, 11), (0, 12), (1, 1), (1, 2), (1, 3), (1, 4), (1, 5), (1, 6), (1, 7), (1, 8), (1, 9), (1, 10), (1, 11), (1, 12), (1, 13), (1, 14), (1, 15), (1, 16), (1, 17), (9, 10), (9, 11), (9, 12), (9, 13), (9, 14), (9, 15), (13, 0), (13, 1), (13, 2), (13, 3), (13, 4), (13, 5), (13, 6), (13, 7), (13, 8), (13, 9), (13, 10), (13, 11), (14, 0), (14, 1), (14, 2), (14, 3), (14, 4), (15, 0), (15, 1), (15, 2), (15, 3), (15, 4), (15, 5), (15, 6), (15, 7), (15, 8), (15, 9), (10, 0), (11, 0), (11, 1), (11, 2), (11, 3), (11, 4), (11, 5), (11, 6), (11, 7), (12, 0), (12, 1), (12, 2)] (by rfl) (by decide +kernel)) (goodIn_sub (fun _ h => List.mem_cons_of_mem _ (List.mem_append_left _ (List.mem_append_right _ h))) (by decide +kernel))) (goodIn_sub (fun _ h => List.mem_cons_of_mem _ (List.mem_append_right _ h)) (by decide +kernel))
set_option maxRecDepth 20000 in
theorem gL_areSums_X9_poolInterest : GoodIn wsL_areSums (wsV RL 45 RX9 yX9_poolInterest wsX9_poolInterest) := goodIn_app (goodIn_of _ (by decide +kernel)) ggL_areSums_X9_poolInterest
theorem dL_areSums_0 : decode cL_areSums 0 = .ok (.aload_n 0, 1) := by decide +kernel
theorem dL_areSums_1 : decode cL_areSums 1 = .ok (.invokevirtual 16, 3) := by decide +kernel
theorem dL_areSums_4 : decode cL_areSums 4 = .ok (.aload_n 1, 1) := by decide +kernel
theorem dL_areSums_5 : decode cL_areSums 5 = .ok (.iconst 0, 1) := by decide +kernel
theorem dL_areSums_6 : decode cL_areSums 6 = .ok (.iaload, 1) := by decide +kernel
theorem dL_areSums_7 : decode cL_areSums 7 = .ok (.if_icmp .ne 7, 3) := by decide +kernel
theorem dL_areSums_10 : decode cL_areSums 10 = .ok (.iconst 1, 1) := by decide +kernel
theorem dL_areSums_11 : decode cL_areSums 11 = .ok (.goto 4, 3) := by decide +kernel
theorem dL_areSums_14 : decode cL_areSums 14 = .ok (.iconst 0, 1) := by decide +kernel
theorem dL_areSums_15 : decode cL_areSums 15 = .ok (.istore_n 2, 1) := by decide +kernel
theorem dL_areSums_16 : decode cL_areSums 16 = .ok (.iconst 0, 1) := by decide +kernel
theorem dL_areSums_17 : decode cL_areSums 17 = .ok (.istore_n 3, 1) := by decide +kernel
theorem dL_areSums_18 : decode cL_areSums 18 = .ok (.iload_n 3, 1) := by decide +kernel
theorem dL_areSums_19 : decode cL_areSums 19 = .ok (.aload_n 1, 1) := by decide +kernel
theorem dL_areSums_20 : decode cL_areSums 20 = .ok (.iconst 0, 1) := by decide +kernel
theorem dL_areSums_21 : decode cL_areSums 21 = .ok (.iaload, 1) := by decide +kernel
theorem dL_areSums_22 : decode cL_areSums 22 = .ok (.if_icmp .ge 206, 3) := by decide +kernel
theorem dL_areSums_25 : decode cL_areSums 25 = .ok (.iload_n 2, 1) := by decide +kernel
theorem dL_areSums_26 : decode cL_areSums 26 = .ok (.ifCond .eq 202, 3) := by decide +kernel
theorem dL_areSums_29 : decode cL_areSums 29 = .ok (.aload_n 0, 1) := by decide +kernel
theorem dL_areSums_30 : decode cL_areSums 30 = .ok (.iload_n 3, 1) := by decide +kernel
theorem dL_areSums_31 : decode cL_areSums 31 = .ok (.invokevirtual 22, 3) := by decide +kernel
theorem dL_areSums_34 : decode cL_areSums 34 = .ok (.lstore 4, 2) := by decide +kernel
theorem dL_areSums_36 : decode cL_areSums 36 = .ok (.lconst 0, 1) := by decide +kernel
theorem dL_areSums_37 : decode cL_areSums 37 = .ok (.lstore 6, 2) := by decide +kernel
theorem dL_areSums_39 : decode cL_areSums 39 = .ok (.lconst 0, 1) := by decide +kernel
theorem dL_areSums_40 : decode cL_areSums 40 = .ok (.lstore 8, 2) := by decide +kernel
theorem dL_areSums_42 : decode cL_areSums 42 = .ok (.lconst 0, 1) := by decide +kernel
theorem dL_areSums_43 : decode cL_areSums 43 = .ok (.lstore 10, 2) := by decide +kernel
theorem dL_areSums_45 : decode cL_areSums 45 = .ok (.iconst 0, 1) := by decide +kernel
theorem dL_areSums_46 : decode cL_areSums 46 = .ok (.istore 12, 2) := by decide +kernel
theorem dL_areSums_48 : decode cL_areSums 48 = .ok (.iload 12, 2) := by decide +kernel
theorem dL_areSums_50 : decode cL_areSums 50 = .ok (.aload_n 1, 1) := by decide +kernel
theorem dL_areSums_51 : decode cL_areSums 51 = .ok (.iconst 0, 1) := by decide +kernel
theorem dL_areSums_52 : decode cL_areSums 52 = .ok (.iaload, 1) := by decide +kernel
theorem dL_areSums_53 : decode cL_areSums 53 = .ok (.if_icmp .ge 77, 3) := by decide +kernel
theorem dL_areSums_56 : decode cL_areSums 56 = .ok (.lload 4, 2) := by decide +kernel
theorem dL_areSums_58 : decode cL_areSums 58 = .ok (.aload_n 1, 1) := by decide +kernel
theorem dL_areSums_59 : decode cL_areSums 59 = .ok (.iload 12, 2) := by decide +kernel
theorem dL_areSums_61 : decode cL_areSums 61 = .ok (.invokestatic 10, 3) := by decide +kernel
theorem dL_areSums_64 : decode cL_areSums 64 = .ok (.iload_n 3, 1) := by decide +kernel
theorem dL_areSums_65 : decode cL_areSums 65 = .ok (.if_icmp .ne 12, 3) := by decide +kernel
theorem dL_areSums_68 : decode cL_areSums 68 = .ok (.aload_n 0, 1) := by decide +kernel
theorem dL_areSums_69 : decode cL_areSums 69 = .ok (.iload 12, 2) := by decide +kernel
theorem dL_areSums_71 : decode cL_areSums 71 = .ok (.invokevirtual 26, 3) := by decide +kernel
theorem dL_areSums_74 : decode cL_areSums 74 = .ok (.goto 4, 3) := by decide +kernel
theorem dL_areSums_77 : decode cL_areSums 77 = .ok (.lconst 0, 1) := by decide +kernel
theorem dL_areSums_78 : decode cL_areSums 78 = .ok (.ladd, 1) := by decide +kernel
theorem dL_areSums_79 : decode cL_areSums 79 = .ok (.lstore 4, 2) := by decide +kernel
theorem dL_areSums_81 : decode cL_areSums 81 = .ok (.aload_n 1, 1) := by decide +kernel
theorem dL_areSums_82 : decode cL_areSums 82 = .ok (.iload 12, 2) := by decide +kernel
theorem dL_areSums_84 : decode cL_areSums 84 = .ok (.invokestatic 29, 3) := by decide +kernel
theorem dL_areSums_87 : decode cL_areSums 87 = .ok (.iload_n 3, 1) := by decide +kernel
theorem dL_areSums_88 : decode cL_areSums 88 = .ok (.if_icmp .ne 36, 3) := by decide +kernel
theorem dL_areSums_91 : decode cL_areSums 91 = .ok (.lload 6, 2) := by decide +kernel
theorem dL_areSums_93 : decode cL_areSums 93 = .ok (.aload_n 0, 1) := by decide +kernel
theorem dL_areSums_94 : decode cL_areSums 94 = .ok (.iload 12, 2) := by decide +kernel
theorem dL_areSums_96 : decode cL_areSums 96 = .ok (.invokevirtual 22, 3) := by decide +kernel
theorem dL_areSums_99 : decode cL_areSums 99 = .ok (.ladd, 1) := by decide +kernel
theorem dL_areSums_100 : decode cL_areSums 100 = .ok (.lstore 6, 2) := by decide +kernel
theorem dL_areSums_102 : decode cL_areSums 102 = .ok (.lload 8, 2) := by decide +kernel
theorem dL_areSums_104 : decode cL_areSums 104 = .ok (.aload_n 0, 1) := by decide +kernel
theorem dL_areSums_105 : decode cL_areSums 105 = .ok (.iload 12, 2) := by decide +kernel
theorem dL_areSums_107 : decode cL_areSums 107 = .ok (.invokevirtual 32, 3) := by decide +kernel
theorem dL_areSums_110 : decode cL_areSums 110 = .ok (.ladd, 1) := by decide +kernel
theorem dL_areSums_111 : decode cL_areSums 111 = .ok (.lstore 8, 2) := by decide +kernel
theorem dL_areSums_113 : decode cL_areSums 113 = .ok (.lload 10, 2) := by decide +kernel
theorem dL_areSums_115 : decode cL_areSums 115 = .ok (.aload_n 0, 1) := by decide +kernel
theorem dL_areSums_116 : decode cL_areSums 116 = .ok (.iload 12, 2) := by decide +kernel
theorem dL_areSums_118 : decode cL_areSums 118 = .ok (.invokevirtual 35, 3) := by decide +kernel
theorem dL_areSums_121 : decode cL_areSums 121 = .ok (.ladd, 1) := by decide +kernel
theorem dL_areSums_122 : decode cL_areSums 122 = .ok (.lstore 10, 2) := by decide +kernel
theorem dL_areSums_124 : decode cL_areSums 124 = .ok (.iinc 12 1, 3) := by decide +kernel
theorem dL_areSums_127 : decode cL_areSums 127 = .ok (.goto (-79), 3) := by decide +kernel
theorem dL_areSums_130 : decode cL_areSums 130 = .ok (.aload_n 0, 1) := by decide +kernel
theorem dL_areSums_131 : decode cL_areSums 131 = .ok (.iload_n 3, 1) := by decide +kernel
theorem dL_areSums_132 : decode cL_areSums 132 = .ok (.invokevirtual 26, 3) := by decide +kernel
theorem dL_areSums_135 : decode cL_areSums 135 = .ok (.lload 4, 2) := by decide +kernel
theorem dL_areSums_137 : decode cL_areSums 137 = .ok (.lcmp, 1) := by decide +kernel
theorem dL_areSums_138 : decode cL_areSums 138 = .ok (.ifCond .ne 34, 3) := by decide +kernel
theorem dL_areSums_141 : decode cL_areSums 141 = .ok (.aload_n 0, 1) := by decide +kernel
theorem dL_areSums_142 : decode cL_areSums 142 = .ok (.iload_n 3, 1) := by decide +kernel
theorem dL_areSums_143 : decode cL_areSums 143 = .ok (.invokevirtual 38, 3) := by decide +kernel
theorem dL_areSums_146 : decode cL_areSums 146 = .ok (.aload_n 1, 1) := by decide +kernel
theorem dL_areSums_147 : decode cL_areSums 147 = .ok (.iload_n 3, 1) := by decide +kernel
theorem dL_areSums_148 : decode cL_areSums 148 = .ok (.invokestatic 29, 3) := by decide +kernel
theorem dL_areSums_151 : decode cL_areSums 151 = .ok (.if_icmp .ne 21, 3) := by decide +kernel
theorem dL_areSums_154 : decode cL_areSums 154 = .ok (.aload_n 0, 1) := by decide +kernel
theorem dL_areSums_155 : decode cL_areSums 155 = .ok (.iload_n 3, 1) := by decide +kernel
theorem dL_areSums_156 : decode cL_areSums 156 = .ok (.invokevirtual 32, 3) := by decide +kernel
theorem dL_areSums_159 : decode cL_areSums 159 = .ok (.aload_n 0, 1) := by decide +kernel
theorem dL_areSums_160 : decode cL_areSums 160 = .ok (.iload_n 3, 1) := by decide +kernel
theorem dL_areSums_161 : decode cL_areSums 161 = .ok (.invokevirtual 42, 3) := by decide +kernel
theorem dL_areSums_164 : decode cL_areSums 164 = .ok (.lcmp, 1) := by decide +kernel
theorem dL_areSums_165 : decode cL_areSums 165 = .ok (.ifCond .ne 7, 3) := by decide +kernel
theorem dL_areSums_168 : decode cL_areSums 168 = .ok (.iconst 1, 1) := by decide +kernel
theorem dL_areSums_169 : decode cL_areSums 169 = .ok (.goto 4, 3) := by decide +kernel
theorem dL_areSums_172 : decode cL_areSums 172 = .ok (.iconst 0, 1) := by decide +kernel
theorem dL_areSums_173 : decode cL_areSums 173 = .ok (.istore_n 2, 1) := by decide +kernel
theorem dL_areSums_174 : decode cL_areSums 174 = .ok (.iload_n 2, 1) := by decide +kernel
theorem dL_areSums_175 : decode cL_areSums 175 = .ok (.ifCond .eq 45, 3) := by decide +kernel
theorem dL_areSums_178 : decode cL_areSums 178 = .ok (.aload_n 1, 1) := by decide +kernel
theorem dL_areSums_179 : decode cL_areSums 179 = .ok (.iload_n 3, 1) := by decide +kernel
theorem dL_areSums_180 : decode cL_areSums 180 = .ok (.invokestatic 10, 3) := by decide +kernel
theorem dL_areSums_183 : decode cL_areSums 183 = .ok (.ifCond .ge 33, 3) := by decide +kernel
theorem dL_areSums_186 : decode cL_areSums 186 = .ok (.aload_n 0, 1) := by decide +kernel
theorem dL_areSums_187 : decode cL_areSums 187 = .ok (.iload_n 3, 1) := by decide +kernel
theorem dL_areSums_188 : decode cL_areSums 188 = .ok (.invokevirtual 26, 3) := by decide +kernel
theorem dL_areSums_191 : decode cL_areSums 191 = .ok (.lload 6, 2) := by decide +kernel
theorem dL_areSums_193 : decode cL_areSums 193 = .ok (.lcmp, 1) := by decide +kernel
theorem dL_areSums_194 : decode cL_areSums 194 = .ok (.ifCond .ne 26, 3) := by decide +kernel
theorem dL_areSums_197 : decode cL_areSums 197 = .ok (.lload 8, 2) := by decide +kernel
theorem dL_areSums_199 : decode cL_areSums 199 = .ok (.lload 6, 2) := by decide +kernel
theorem dL_areSums_201 : decode cL_areSums 201 = .ok (.lcmp, 1) := by decide +kernel
theorem dL_areSums_202 : decode cL_areSums 202 = .ok (.ifCond .ne 18, 3) := by decide +kernel
theorem dL_areSums_205 : decode cL_areSums 205 = .ok (.aload_n 0, 1) := by decide +kernel
theorem dL_areSums_206 : decode cL_areSums 206 = .ok (.iload_n 3, 1) := by decide +kernel
theorem dL_areSums_207 : decode cL_areSums 207 = .ok (.invokevirtual 45, 3) := by decide +kernel
theorem dL_areSums_210 : decode cL_areSums 210 = .ok (.lload 10, 2) := by decide +kernel
theorem dL_areSums_212 : decode cL_areSums 212 = .ok (.lcmp, 1) := by decide +kernel
theorem dL_areSums_213 : decode cL_areSums 213 = .ok (.ifCond .ne 7, 3) := by decide +kernel
theorem dL_areSums_216 : decode cL_areSums 216 = .ok (.iconst 1, 1) := by decide +kernel
theorem dL_areSums_217 : decode cL_areSums 217 = .ok (.goto 4, 3) := by decide +kernel
theorem dL_areSums_220 : decode cL_areSums 220 = .ok (.iconst 0, 1) := by decide +kernel
theorem dL_areSums_221 : decode cL_areSums 221 = .ok (.istore_n 2, 1) := by decide +kernel
theorem dL_areSums_222 : decode cL_areSums 222 = .ok (.iinc 3 1, 3) := by decide +kernel
theorem dL_areSums_225 : decode cL_areSums 225 = .ok (.goto (-207), 3) := by decide +kernel
theorem dL_areSums_228 : decode cL_areSums 228 = .ok (.iload_n 2, 1) := by decide +kernel
theorem dL_areSums_229 : decode cL_areSums 229 = .ok (.ireturn, 1) := by decide +kernel
def ch_wsL_areExposed : List (List Cond) := [wsL_areExposed_r1, wsL_areExposed_r2, wsL_areExposed_r3, wsX00, wsX90, wsX30, wsJx4a65c0, wsX10]
theorem chm_wsL_areExposed : ∀ c ∈ ch_wsL_areExposed, ∀ w ∈ c, w ∈ wsL_areExposed := List.forall_mem_cons.mpr ⟨(fun w h => (List.mem_cons_of_mem _ (List.mem_append_left _ (List.mem_append_left _ (List.mem_append_left _ (List.mem_append_left _ (List.mem_append_left _ (List.mem_append_left _ (List.mem_append_left _ (List.mem_append_left _ h)))))))))), List.forall_mem_cons.mpr ⟨(fun w h => (List.mem_cons_of_mem _ (List.mem_append_left _ (List.mem_append_left _ (List.mem_append_left _ (List.mem_append_left _ (List.mem_append_left _ (List.mem_append_left _ (List.mem_append_left _ (List.mem_append_right _ (List.mem_append_left _ h))))))))))), List.forall_mem_cons.mpr ⟨(fun w h => (List.mem_cons_of_mem _ (List.mem_append_left _ (List.mem_append_left _ (List.mem_append_left _ (List.mem_append_left _ (List.mem_append_left _ (List.mem_append_left _ (List.mem_append_left _ (List.mem_append_right _ (List.mem_append_right _ h))))))))))), List.forall_mem_cons.mpr ⟨(fun w h => (List.mem_cons_of_mem _ (List.mem_append_left _ (List.mem_append_left _ (List.mem_append_left _ (List.mem_append_left _ (List.mem_append_left _ (List.mem_append_left _ (List.mem_append_right _ h))))))))), List.forall_mem_cons.mpr ⟨(fun w h => (List.mem_cons_of_mem _ (List.mem_append_left _ (List.mem_append_left _ (List.mem_append_left _ (List.mem_append_left _ (List.mem_append_left _ (List.mem_append_right _ h)))))))), List.forall_mem_cons.mpr ⟨(fun w h => (List.mem_cons_of_mem _ (List.mem_append_left _ (List.mem_append_left _ (List.mem_append_left _ (List.mem_append_left _ (List.mem_append_right _ h))))))), List.forall_mem_cons.mpr ⟨(fun w h => (List.mem_cons_of_mem _ (List.mem_append_left _ (List.mem_append_left _ (List.mem_append_left _ (List.mem_append_right _ h)))))), List.forall_mem_cons.mpr ⟨(fun w h => (List.mem_cons_of_mem _ (List.mem_append_left _ (List.mem_append_left _ (List.mem_append_right _ h))))), fun _ h => absurd h List.not_mem_nil⟩⟩⟩⟩⟩⟩⟩⟩
set_option maxRecDepth 100000 in
set_option maxHeartbeats 4000000 in
theorem ggL_areExposed_X9_balance : GoodIn wsL_areExposed wsX9_balance := goodIn_ca (goodIn_k ch_wsL_areExposed chm_wsL_areExposed _ [(0, 4), (0, 5), (0, 6), (0, 7), (0, 8), (0, 3), (0, 9), (0, 10), (0, 11), (0, 12), (0, 13), (0, 14), (0, 15), (0, 16), (0, 17), (0, 18), (0, 19), (0, 20), (0, 21), (0, 22), (0, 23), (1, 0), (1, 1), (1, 2), (1, 3), (1, 4), (1, 5), (1, 6), (1, 7), (1, 8), (1, 9), (1, 10), (1, 11), (1, 12), (1, 13), (3, 0), (3, 1), (3, 2), (3, 3), (3, 4), (3, 5), (3, 6), (3, 7), (3, 8), (3, 9), (3, 10), (3, 11), (4, 0), (5, 0), (5, 1), (5, 2), (5, 3), (5, 4), (5, 5), (5, 6), (5, 7), (6, 0), (6, 1), (6, 2)] (by rfl) (by decide +kernel)) (goodIn_sub (fun _ h => List.mem_cons_of_mem _ (List.mem_append_left _ (List.mem_append_right _ h))) (by decide +kernel))
set_option maxRecDepth 20000 in
theorem gL_areExposed_X9_balance : GoodIn wsL_areExposed (wsV RL 22 RX9 yX9_balance wsX9_balance) := goodIn_app (goodIn_of _ (by decide +kernel)) ggL_areExposed_X9_balance
set_option maxRecDepth 100000 in
set_option maxHeartbeats 4000000 in
theorem ggL_areExposed_X9_exposure : GoodIn wsL_areExposed wsX9_exposure := goodIn_ca (goodIn_k ch_wsL_areExposed chm_wsL_areExposed _ [(1, 17), (0, 12), (1, 18), (1, 19), (1, 20), (1, 21), (0, 3), (1, 22), (1, 23), (2, 0), (2, 1), (2, 2), (0, 15), (0, 16), (0, 17), (0, 18), (0, 19), (0, 20), (0, 21), (0, 22), (0, 23), (1, 0), (1, 1), (1, 2), (1, 3), (1, 4), (1, 5), (1, 6), (1, 7), (1, 8), (1, 9), (1, 10), (1, 11), (1, 12), (1, 13), (2, 3), (2, 4), (2, 5), (2, 6), (2, 7), (2, 8), (2, 9), (2, 10), (2, 11), (2, 12), (2, 13), (2, 14), (2, 15), (2, 16), (2, 17), (2, 18), (2, 19), (2, 20), (4, 0), (7, 0), (7, 1), (7, 2), (5, 0), (5, 1), (5, 2), (5, 3), (5, 4), (5, 5), (5, 6), (5, 7), (6, 0), (6, 1), (6, 2), (3, 0), (3, 1), (3, 2), (3, 3), (3, 4), (3, 5), (3, 6), (3, 7), (3, 8), (3, 9), (3, 10), (3, 11)] (by rfl) (by decide +kernel)) (goodIn_sub (fun _ h => List.mem_cons_of_mem _ (List.mem_append_right _ h)) (by decide +kernel))
set_option maxRecDepth 20000 in
theorem gL_areExposed_X9_exposure : GoodIn wsL_areExposed (wsV RL 48 RX9 yX9_exposure wsX9_exposure) := goodIn_app (goodIn_of _ (by decide +kernel)) ggL_areExposed_X9_exposure
theorem dL_areExposed_0 : decode cL_areExposed 0 = .ok (.iconst 1, 1) := by decide +kernel
theorem dL_areExposed_1 : decode cL_areExposed 1 = .ok (.istore_n 2, 1) := by decide +kernel
theorem dL_areExposed_2 : decode cL_areExposed 2 = .ok (.iconst 0, 1) := by decide +kernel
theorem dL_areExposed_3 : decode cL_areExposed 3 = .ok (.istore_n 3, 1) := by decide +kernel
theorem dL_areExposed_4 : decode cL_areExposed 4 = .ok (.iload_n 3, 1) := by decide +kernel
theorem dL_areExposed_5 : decode cL_areExposed 5 = .ok (.iconst 4, 1) := by decide +kernel
theorem dL_areExposed_6 : decode cL_areExposed 6 = .ok (.if_icmp .ge 88, 3) := by decide +kernel
theorem dL_areExposed_9 : decode cL_areExposed 9 = .ok (.lconst 0, 1) := by decide +kernel
theorem dL_areExposed_10 : decode cL_areExposed 10 = .ok (.lstore 4, 2) := by decide +kernel
theorem dL_areExposed_12 : decode cL_areExposed 12 = .ok (.iconst 0, 1) := by decide +kernel
theorem dL_areExposed_13 : decode cL_areExposed 13 = .ok (.istore 6, 2) := by decide +kernel
theorem dL_areExposed_15 : decode cL_areExposed 15 = .ok (.iload 6, 2) := by decide +kernel
theorem dL_areExposed_17 : decode cL_areExposed 17 = .ok (.aload_n 1, 1) := by decide +kernel
theorem dL_areExposed_18 : decode cL_areExposed 18 = .ok (.iconst 0, 1) := by decide +kernel
theorem dL_areExposed_19 : decode cL_areExposed 19 = .ok (.iaload, 1) := by decide +kernel
theorem dL_areExposed_20 : decode cL_areExposed 20 = .ok (.if_icmp .ge 47, 3) := by decide +kernel
theorem dL_areExposed_23 : decode cL_areExposed 23 = .ok (.lload 4, 2) := by decide +kernel
theorem dL_areExposed_25 : decode cL_areExposed 25 = .ok (.aload_n 1, 1) := by decide +kernel
theorem dL_areExposed_26 : decode cL_areExposed 26 = .ok (.iconst 2, 1) := by decide +kernel
theorem dL_areExposed_27 : decode cL_areExposed 27 = .ok (.iload 6, 2) := by decide +kernel
theorem dL_areExposed_29 : decode cL_areExposed 29 = .ok (.imul, 1) := by decide +kernel
theorem dL_areExposed_30 : decode cL_areExposed 30 = .ok (.iconst 2, 1) := by decide +kernel
theorem dL_areExposed_31 : decode cL_areExposed 31 = .ok (.iadd, 1) := by decide +kernel
theorem dL_areExposed_32 : decode cL_areExposed 32 = .ok (.iaload, 1) := by decide +kernel
theorem dL_areExposed_33 : decode cL_areExposed 33 = .ok (.iload_n 3, 1) := by decide +kernel
theorem dL_areExposed_34 : decode cL_areExposed 34 = .ok (.if_icmp .ne 23, 3) := by decide +kernel
theorem dL_areExposed_37 : decode cL_areExposed 37 = .ok (.aload_n 0, 1) := by decide +kernel
theorem dL_areExposed_38 : decode cL_areExposed 38 = .ok (.iload 6, 2) := by decide +kernel
theorem dL_areExposed_40 : decode cL_areExposed 40 = .ok (.invokevirtual 22, 3) := by decide +kernel
theorem dL_areExposed_43 : decode cL_areExposed 43 = .ok (.lconst 0, 1) := by decide +kernel
theorem dL_areExposed_44 : decode cL_areExposed 44 = .ok (.lcmp, 1) := by decide +kernel
theorem dL_areExposed_45 : decode cL_areExposed 45 = .ok (.ifCond .le 12, 3) := by decide +kernel
theorem dL_areExposed_48 : decode cL_areExposed 48 = .ok (.aload_n 0, 1) := by decide +kernel
theorem dL_areExposed_49 : decode cL_areExposed 49 = .ok (.iload 6, 2) := by decide +kernel
theorem dL_areExposed_51 : decode cL_areExposed 51 = .ok (.invokevirtual 22, 3) := by decide +kernel
theorem dL_areExposed_54 : decode cL_areExposed 54 = .ok (.goto 4, 3) := by decide +kernel
theorem dL_areExposed_57 : decode cL_areExposed 57 = .ok (.lconst 0, 1) := by decide +kernel
theorem dL_areExposed_58 : decode cL_areExposed 58 = .ok (.ladd, 1) := by decide +kernel
theorem dL_areExposed_59 : decode cL_areExposed 59 = .ok (.lstore 4, 2) := by decide +kernel
theorem dL_areExposed_61 : decode cL_areExposed 61 = .ok (.iinc 6 1, 3) := by decide +kernel
theorem dL_areExposed_64 : decode cL_areExposed 64 = .ok (.goto (-49), 3) := by decide +kernel
theorem dL_areExposed_67 : decode cL_areExposed 67 = .ok (.iload_n 2, 1) := by decide +kernel
theorem dL_areExposed_68 : decode cL_areExposed 68 = .ok (.ifCond .eq 18, 3) := by decide +kernel
theorem dL_areExposed_71 : decode cL_areExposed 71 = .ok (.aload_n 0, 1) := by decide +kernel
theorem dL_areExposed_72 : decode cL_areExposed 72 = .ok (.iload_n 3, 1) := by decide +kernel
theorem dL_areExposed_73 : decode cL_areExposed 73 = .ok (.invokevirtual 48, 3) := by decide +kernel
theorem dL_areExposed_76 : decode cL_areExposed 76 = .ok (.lload 4, 2) := by decide +kernel
theorem dL_areExposed_78 : decode cL_areExposed 78 = .ok (.lcmp, 1) := by decide +kernel
theorem dL_areExposed_79 : decode cL_areExposed 79 = .ok (.ifCond .ne 7, 3) := by decide +kernel
theorem dL_areExposed_82 : decode cL_areExposed 82 = .ok (.iconst 1, 1) := by decide +kernel
theorem dL_areExposed_83 : decode cL_areExposed 83 = .ok (.goto 4, 3) := by decide +kernel
