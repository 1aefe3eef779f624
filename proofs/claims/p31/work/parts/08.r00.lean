theorem goodIn_k {big : List Cond} (ch : List (List Cond)) (hc : ∀ c ∈ ch, ∀ w ∈ c, w ∈ big) (ws : List Cond) (ps : List (Nat × Nat)) (hp : ws = ps.filterMap (fun q => (ch.getD q.1 [])[q.2]?)) (h : ws.all goodWord = true) : GoodIn big ws := by
  intro w hw
  have h1 := List.all_eq_true.mp h w hw
  rw [hp] at hw
  obtain ⟨i, -, hi⟩ := List.mem_filterMap.mp hw
  refine ⟨?_, good_of_word h1⟩
  have hm : w ∈ ch.getD i.1 [] := List.mem_of_getElem? hi
  rw [List.getD_eq_getElem?_getD] at hm
  cases hq : ch[i.1]? with
  | none => rw [hq] at hm; exact absurd hm List.not_mem_nil
  | some c => rw [hq] at hm; exact hc c (List.mem_of_getElem? hq) w hm
def ch_wsX0_init : List (List Cond) := [wsX0_init_r1, wsX0_init_r2, wsJx4a65c0, wsX00]
theorem chm_wsX0_init : ∀ c ∈ ch_wsX0_init, ∀ w ∈ c, w ∈ wsX0_init := List.forall_mem_cons.mpr ⟨(fun w h => (List.mem_cons_of_mem _ (List.mem_append_left _ (List.mem_append_left _ (List.mem_append_left _ h))))), List.forall_mem_cons.mpr ⟨(fun w h => (List.mem_cons_of_mem _ (List.mem_append_left _ (List.mem_append_left _ (List.mem_append_right _ h))))), List.forall_mem_cons.mpr ⟨(fun w h => (List.mem_cons_of_mem _ (List.mem_append_left _ (List.mem_append_right _ h)))), List.forall_mem_cons.mpr ⟨(fun w h => (List.mem_cons_of_mem _ (List.mem_append_right _ h))), fun _ h => absurd h List.not_mem_nil⟩⟩⟩⟩
set_option maxRecDepth 100000 in
set_option maxHeartbeats 4000000 in
theorem ggX0_init_Jx4a65c_init_da8c8 : GoodIn wsX0_init wsJx4a65c_init_da8c8 := goodIn_k ch_wsX0_init chm_wsX0_init _ [(0, 13), (0, 14), (0, 15), (0, 16), (0, 17), (0, 18), (0, 19), (0, 20), (0, 21), (0, 22), (0, 23), (1, 0), (1, 1), (0, 1), (0, 2), (2, 0), (2, 1), (2, 2)] (by rfl) (by decide +kernel)
set_option maxRecDepth 20000 in
theorem gX0_init_Jx4a65c_init_da8c8 : GoodIn wsX0_init (wsJx4a65c_init_da8c8) := ggX0_init_Jx4a65c_init_da8c8
theorem dX0_init_0 : decode cX0_init 0 = .ok (.aload_n 0, 1) := by decide +kernel
theorem dX0_init_1 : decode cX0_init 1 = .ok (.invokespecial 1, 3) := by decide +kernel
theorem dX0_init_4 : decode cX0_init 4 = .ok (.aload_n 0, 1) := by decide +kernel
theorem dX0_init_5 : decode cX0_init 5 = .ok (.new 7, 3) := by decide +kernel
theorem dX0_init_8 : decode cX0_init 8 = .ok (.dup, 1) := by decide +kernel
theorem dX0_init_9 : decode cX0_init 9 = .ok (.invokespecial 9, 3) := by decide +kernel
theorem dX0_init_12 : decode cX0_init 12 = .ok (.putfield 10, 3) := by decide +kernel
theorem dX0_init_15 : decode cX0_init 15 = .ok (.aload_n 0, 1) := by decide +kernel
theorem dX0_init_16 : decode cX0_init 16 = .ok (.iload_n 1, 1) := by decide +kernel
theorem dX0_init_17 : decode cX0_init 17 = .ok (.putfield 16, 3) := by decide +kernel
theorem dX0_init_20 : decode cX0_init 20 = .ok (.aload_n 0, 1) := by decide +kernel
theorem dX0_init_21 : decode cX0_init 21 = .ok (.aload_n 2, 1) := by decide +kernel
theorem dX0_init_22 : decode cX0_init 22 = .ok (.putfield 20, 3) := by decide +kernel
theorem dX0_init_25 : decode cX0_init 25 = .ok (.aload_n 0, 1) := by decide +kernel
theorem dX0_init_26 : decode cX0_init 26 = .ok (.aload_n 3, 1) := by decide +kernel
theorem dX0_init_27 : decode cX0_init 27 = .ok (.putfield 24, 3) := by decide +kernel
theorem dX0_init_30 : decode cX0_init 30 = .ok (.aload_n 0, 1) := by decide +kernel
theorem dX0_init_31 : decode cX0_init 31 = .ok (.aload 4, 2) := by decide +kernel
theorem dX0_init_33 : decode cX0_init 33 = .ok (.putfield 28, 3) := by decide +kernel
theorem dX0_init_36 : decode cX0_init 36 = .ok (.return_, 1) := by decide +kernel
theorem dX0_surplusOf_0 : decode cX0_surplusOf 0 = .ok (.aload_n 0, 1) := by decide +kernel
theorem dX0_surplusOf_1 : decode cX0_surplusOf 1 = .ok (.getfield 32, 3) := by decide +kernel
theorem dX0_surplusOf_4 : decode cX0_surplusOf 4 = .ok (.tableswitch 60 1 3 #[28, 36, 48], 28) := by decide +kernel
theorem dX0_surplusOf_32 : decode cX0_surplusOf 32 = .ok (.lload_n 1, 1) := by decide +kernel
theorem dX0_surplusOf_33 : decode cX0_surplusOf 33 = .ok (.aload_n 0, 1) := by decide +kernel
theorem dX0_surplusOf_34 : decode cX0_surplusOf 34 = .ok (.getfield 35, 3) := by decide +kernel
theorem dX0_surplusOf_37 : decode cX0_surplusOf 37 = .ok (.i2l, 1) := by decide +kernel
theorem dX0_surplusOf_38 : decode cX0_surplusOf 38 = .ok (.lsub, 1) := by decide +kernel
theorem dX0_surplusOf_39 : decode cX0_surplusOf 39 = .ok (.lreturn, 1) := by decide +kernel
theorem dX0_surplusOf_40 : decode cX0_surplusOf 40 = .ok (.lload_n 1, 1) := by decide +kernel
theorem dX0_surplusOf_41 : decode cX0_surplusOf 41 = .ok (.aload_n 0, 1) := by decide +kernel
theorem dX0_surplusOf_42 : decode cX0_surplusOf 42 = .ok (.getfield 35, 3) := by decide +kernel
theorem dX0_surplusOf_45 : decode cX0_surplusOf 45 = .ok (.i2l, 1) := by decide +kernel
theorem dX0_surplusOf_46 : decode cX0_surplusOf 46 = .ok (.lsub, 1) := by decide +kernel
theorem dX0_surplusOf_47 : decode cX0_surplusOf 47 = .ok (.lconst 0, 1) := by decide +kernel
theorem dX0_surplusOf_48 : decode cX0_surplusOf 48 = .ok (.invokestatic 38, 3) := by decide +kernel
theorem dX0_surplusOf_51 : decode cX0_surplusOf 51 = .ok (.lreturn, 1) := by decide +kernel
theorem dX0_surplusOf_52 : decode cX0_surplusOf 52 = .ok (.lload_n 1, 1) := by decide +kernel
theorem dX0_surplusOf_53 : decode cX0_surplusOf 53 = .ok (.aload_n 0, 1) := by decide +kernel
theorem dX0_surplusOf_54 : decode cX0_surplusOf 54 = .ok (.getfield 35, 3) := by decide +kernel
theorem dX0_surplusOf_57 : decode cX0_surplusOf 57 = .ok (.i2l, 1) := by decide +kernel
theorem dX0_surplusOf_58 : decode cX0_surplusOf 58 = .ok (.lsub, 1) := by decide +kernel
theorem dX0_surplusOf_59 : decode cX0_surplusOf 59 = .ok (.lconst 0, 1) := by decide +kernel
theorem dX0_surplusOf_60 : decode cX0_surplusOf 60 = .ok (.invokestatic 44, 3) := by decide +kernel
theorem dX0_surplusOf_63 : decode cX0_surplusOf 63 = .ok (.lreturn, 1) := by decide +kernel
theorem dX0_surplusOf_64 : decode cX0_surplusOf 64 = .ok (.lconst 0, 1) := by decide +kernel
theorem dX0_surplusOf_65 : decode cX0_surplusOf 65 = .ok (.lreturn, 1) := by decide +kernel
theorem dX0_addInterest_0 : decode cX0_addInterest 0 = .ok (.aload_n 0, 1) := by decide +kernel
theorem dX0_addInterest_1 : decode cX0_addInterest 1 = .ok (.dup, 1) := by decide +kernel
theorem dX0_addInterest_2 : decode cX0_addInterest 2 = .ok (.getfield 47, 3) := by decide +kernel
theorem dX0_addInterest_5 : decode cX0_addInterest 5 = .ok (.lload_n 1, 1) := by decide +kernel
theorem dX0_addInterest_6 : decode cX0_addInterest 6 = .ok (.ladd, 1) := by decide +kernel
theorem dX0_addInterest_7 : decode cX0_addInterest 7 = .ok (.putfield 47, 3) := by decide +kernel
theorem dX0_addInterest_10 : decode cX0_addInterest 10 = .ok (.aload_n 0, 1) := by decide +kernel
theorem dX0_addInterest_11 : decode cX0_addInterest 11 = .ok (.dup, 1) := by decide +kernel
theorem dX0_addInterest_12 : decode cX0_addInterest 12 = .ok (.getfield 51, 3) := by decide +kernel
theorem dX0_addInterest_15 : decode cX0_addInterest 15 = .ok (.lload_n 1, 1) := by decide +kernel
theorem dX0_addInterest_16 : decode cX0_addInterest 16 = .ok (.ladd, 1) := by decide +kernel
theorem dX0_addInterest_17 : decode cX0_addInterest 17 = .ok (.putfield 51, 3) := by decide +kernel
theorem dX0_addInterest_20 : decode cX0_addInterest 20 = .ok (.return_, 1) := by decide +kernel
theorem dX0_keep_0 : decode cX0_keep 0 = .ok (.aload_n 0, 1) := by decide +kernel
theorem dX0_keep_1 : decode cX0_keep 1 = .ok (.aload_n 0, 1) := by decide +kernel
theorem dX0_keep_2 : decode cX0_keep 2 = .ok (.getfield 47, 3) := by decide +kernel
theorem dX0_keep_5 : decode cX0_keep 5 = .ok (.putfield 54, 3) := by decide +kernel
theorem dX0_keep_8 : decode cX0_keep 8 = .ok (.aload_n 0, 1) := by decide +kernel
theorem dX0_keep_9 : decode cX0_keep 9 = .ok (.aload_n 0, 1) := by decide +kernel
theorem dX0_keep_10 : decode cX0_keep 10 = .ok (.getfield 51, 3) := by decide +kernel
theorem dX0_keep_13 : decode cX0_keep 13 = .ok (.putfield 57, 3) := by decide +kernel
theorem dX0_keep_16 : decode cX0_keep 16 = .ok (.return_, 1) := by decide +kernel
theorem dX0_goBack_0 : decode cX0_goBack 0 = .ok (.aload_n 0, 1) := by decide +kernel
theorem dX0_goBack_1 : decode cX0_goBack 1 = .ok (.aload_n 0, 1) := by decide +kernel
theorem dX0_goBack_2 : decode cX0_goBack 2 = .ok (.getfield 54, 3) := by decide +kernel
theorem dX0_goBack_5 : decode cX0_goBack 5 = .ok (.putfield 47, 3) := by decide +kernel
theorem dX0_goBack_8 : decode cX0_goBack 8 = .ok (.aload_n 0, 1) := by decide +kernel
theorem dX0_goBack_9 : decode cX0_goBack 9 = .ok (.aload_n 0, 1) := by decide +kernel
theorem dX0_goBack_10 : decode cX0_goBack 10 = .ok (.getfield 57, 3) := by decide +kernel
theorem dX0_goBack_13 : decode cX0_goBack 13 = .ok (.putfield 51, 3) := by decide +kernel
theorem dX0_goBack_16 : decode cX0_goBack 16 = .ok (.return_, 1) := by decide +kernel
theorem dX1_init_0 : decode cX1_init 0 = .ok (.aload_n 0, 1) := by decide +kernel
theorem dX1_init_1 : decode cX1_init 1 = .ok (.invokespecial 3, 3) := by decide +kernel
theorem dX1_init_4 : decode cX1_init 4 = .ok (.aload_n 0, 1) := by decide +kernel
theorem dX1_init_5 : decode cX1_init 5 = .ok (.iconst (-1), 1) := by decide +kernel
theorem dX1_init_6 : decode cX1_init 6 = .ok (.putfield 9, 3) := by decide +kernel
theorem dX1_init_9 : decode cX1_init 9 = .ok (.aload_n 0, 1) := by decide +kernel
theorem dX1_init_10 : decode cX1_init 10 = .ok (.iload_n 1, 1) := by decide +kernel
theorem dX1_init_11 : decode cX1_init 11 = .ok (.putfield 15, 3) := by decide +kernel
theorem dX1_init_14 : decode cX1_init 14 = .ok (.return_, 1) := by decide +kernel
theorem dX1_excess_0 : decode cX1_excess 0 = .ok (.aload_n 0, 1) := by decide +kernel
theorem dX1_excess_1 : decode cX1_excess 1 = .ok (.getfield 9, 3) := by decide +kernel
theorem dX1_excess_4 : decode cX1_excess 4 = .ok (.iconst (-1), 1) := by decide +kernel
theorem dX1_excess_5 : decode cX1_excess 5 = .ok (.if_icmp .ne 7, 3) := by decide +kernel
theorem dX1_excess_8 : decode cX1_excess 8 = .ok (.lconst 0, 1) := by decide +kernel
theorem dX1_excess_9 : decode cX1_excess 9 = .ok (.goto 17, 3) := by decide +kernel
theorem dX1_excess_12 : decode cX1_excess 12 = .ok (.aload_n 0, 1) := by decide +kernel
theorem dX1_excess_13 : decode cX1_excess 13 = .ok (.getfield 18, 3) := by decide +kernel
theorem dX1_excess_16 : decode cX1_excess 16 = .ok (.aload_n 0, 1) := by decide +kernel
theorem dX1_excess_17 : decode cX1_excess 17 = .ok (.getfield 9, 3) := by decide +kernel
theorem dX1_excess_20 : decode cX1_excess 20 = .ok (.i2l, 1) := by decide +kernel
theorem dX1_excess_21 : decode cX1_excess 21 = .ok (.lsub, 1) := by decide +kernel
theorem dX1_excess_22 : decode cX1_excess 22 = .ok (.lconst 0, 1) := by decide +kernel
theorem dX1_excess_23 : decode cX1_excess 23 = .ok (.invokestatic 22, 3) := by decide +kernel
theorem dX1_excess_26 : decode cX1_excess 26 = .ok (.lreturn, 1) := by decide +kernel
theorem dX1_room_0 : decode cX1_room 0 = .ok (.aload_n 0, 1) := by decide +kernel
theorem dX1_room_1 : decode cX1_room 1 = .ok (.getfield 9, 3) := by decide +kernel
theorem dX1_room_4 : decode cX1_room 4 = .ok (.iconst (-1), 1) := by decide +kernel
theorem dX1_room_5 : decode cX1_room 5 = .ok (.if_icmp .ne 9, 3) := by decide +kernel
theorem dX1_room_8 : decode cX1_room 8 = .ok (.ldc2_w 28, 3) := by decide +kernel
theorem dX1_room_11 : decode cX1_room 11 = .ok (.goto 17, 3) := by decide +kernel
theorem dX1_room_14 : decode cX1_room 14 = .ok (.aload_n 0, 1) := by decide +kernel
theorem dX1_room_15 : decode cX1_room 15 = .ok (.getfield 9, 3) := by decide +kernel
theorem dX1_room_18 : decode cX1_room 18 = .ok (.i2l, 1) := by decide +kernel
theorem dX1_room_19 : decode cX1_room 19 = .ok (.aload_n 0, 1) := by decide +kernel
theorem dX1_room_20 : decode cX1_room 20 = .ok (.getfield 18, 3) := by decide +kernel
theorem dX1_room_23 : decode cX1_room 23 = .ok (.lsub, 1) := by decide +kernel
theorem dX1_room_24 : decode cX1_room 24 = .ok (.lconst 0, 1) := by decide +kernel
theorem dX1_room_25 : decode cX1_room 25 = .ok (.invokestatic 22, 3) := by decide +kernel
theorem dX1_room_28 : decode cX1_room 28 = .ok (.lreturn, 1) := by decide +kernel
theorem dX2_init_0 : decode cX2_init 0 = .ok (.aload_n 0, 1) := by decide +kernel
theorem dX2_init_1 : decode cX2_init 1 = .ok (.invokespecial 3, 3) := by decide +kernel
theorem dX2_init_4 : decode cX2_init 4 = .ok (.aload_n 0, 1) := by decide +kernel
theorem dX2_init_5 : decode cX2_init 5 = .ok (.sipush 451, 3) := by decide +kernel
theorem dX2_init_8 : decode cX2_init 8 = .ok (.newarray .boolean, 2) := by decide +kernel
theorem dX2_init_10 : decode cX2_init 10 = .ok (.putfield 9, 3) := by decide +kernel
theorem dX2_init_13 : decode cX2_init 13 = .ok (.return_, 1) := by decide +kernel
theorem dX2_markHoliday_0 : decode cX2_markHoliday 0 = .ok (.iload_n 1, 1) := by decide +kernel
theorem dX2_markHoliday_1 : decode cX2_markHoliday 1 = .ok (.ifCond .lt 19, 3) := by decide +kernel
theorem dX2_markHoliday_4 : decode cX2_markHoliday 4 = .ok (.iload_n 1, 1) := by decide +kernel
theorem dX2_markHoliday_5 : decode cX2_markHoliday 5 = .ok (.aload_n 0, 1) := by decide +kernel
theorem dX2_markHoliday_6 : decode cX2_markHoliday 6 = .ok (.getfield 9, 3) := by decide +kernel
theorem dX2_markHoliday_9 : decode cX2_markHoliday 9 = .ok (.arraylength, 1) := by decide +kernel
theorem dX2_markHoliday_10 : decode cX2_markHoliday 10 = .ok (.if_icmp .ge 10, 3) := by decide +kernel
theorem dX2_markHoliday_13 : decode cX2_markHoliday 13 = .ok (.aload_n 0, 1) := by decide +kernel
theorem dX2_markHoliday_14 : decode cX2_markHoliday 14 = .ok (.getfield 9, 3) := by decide +kernel
theorem dX2_markHoliday_17 : decode cX2_markHoliday 17 = .ok (.iload_n 1, 1) := by decide +kernel
theorem dX2_markHoliday_18 : decode cX2_markHoliday 18 = .ok (.iconst 1, 1) := by decide +kernel
theorem dX2_markHoliday_19 : decode cX2_markHoliday 19 = .ok (.bastore, 1) := by decide +kernel
theorem dX2_markHoliday_20 : decode cX2_markHoliday 20 = .ok (.return_, 1) := by decide +kernel
theorem dX2_settles_0 : decode cX2_settles 0 = .ok (.iload_n 1, 1) := by decide +kernel
theorem dX2_settles_1 : decode cX2_settles 1 = .ok (.ifCond .lt 25, 3) := by decide +kernel
theorem dX2_settles_4 : decode cX2_settles 4 = .ok (.iload_n 1, 1) := by decide +kernel
theorem dX2_settles_5 : decode cX2_settles 5 = .ok (.aload_n 0, 1) := by decide +kernel
theorem dX2_settles_6 : decode cX2_settles 6 = .ok (.getfield 9, 3) := by decide +kernel
theorem dX2_settles_9 : decode cX2_settles 9 = .ok (.arraylength, 1) := by decide +kernel
theorem dX2_settles_10 : decode cX2_settles 10 = .ok (.if_icmp .ge 16, 3) := by decide +kernel
theorem dX2_settles_13 : decode cX2_settles 13 = .ok (.aload_n 0, 1) := by decide +kernel
theorem dX2_settles_14 : decode cX2_settles 14 = .ok (.getfield 9, 3) := by decide +kernel
theorem dX2_settles_17 : decode cX2_settles 17 = .ok (.iload_n 1, 1) := by decide +kernel
theorem dX2_settles_18 : decode cX2_settles 18 = .ok (.baload, 1) := by decide +kernel
theorem dX2_settles_19 : decode cX2_settles 19 = .ok (.ifCond .eq 7, 3) := by decide +kernel
theorem dX2_settles_22 : decode cX2_settles 22 = .ok (.iconst 1, 1) := by decide +kernel
theorem dX2_settles_23 : decode cX2_settles 23 = .ok (.goto 4, 3) := by decide +kernel
theorem dX2_settles_26 : decode cX2_settles 26 = .ok (.iconst 0, 1) := by decide +kernel
theorem dX2_settles_27 : decode cX2_settles 27 = .ok (.istore_n 2, 1) := by decide +kernel
theorem dX2_settles_28 : decode cX2_settles 28 = .ok (.iload_n 1, 1) := by decide +kernel
theorem dX2_settles_29 : decode cX2_settles 29 = .ok (.bipush 7, 2) := by decide +kernel
theorem dX2_settles_31 : decode cX2_settles 31 = .ok (.irem, 1) := by decide +kernel
theorem dX2_settles_32 : decode cX2_settles 32 = .ok (.iconst 5, 1) := by decide +kernel
theorem dX2_settles_33 : decode cX2_settles 33 = .ok (.if_icmp .ge 11, 3) := by decide +kernel
theorem dX2_settles_36 : decode cX2_settles 36 = .ok (.iload_n 2, 1) := by decide +kernel
theorem dX2_settles_37 : decode cX2_settles 37 = .ok (.ifCond .ne 7, 3) := by decide +kernel
theorem dX2_settles_40 : decode cX2_settles 40 = .ok (.iconst 1, 1) := by decide +kernel
theorem dX2_settles_41 : decode cX2_settles 41 = .ok (.goto 4, 3) := by decide +kernel
theorem dX2_settles_44 : decode cX2_settles 44 = .ok (.iconst 0, 1) := by decide +kernel
theorem dX2_settles_45 : decode cX2_settles 45 = .ok (.ireturn, 1) := by decide +kernel
set_option maxRecDepth 20000 in
theorem ggX2_firstSettlingFrom_X2_settles : GoodIn wsX2_firstSettlingFrom wsX2_settles := goodIn_r _ [5, 6, 7] (by decide +kernel) (by decide +kernel)
set_option maxRecDepth 20000 in
theorem gX2_firstSettlingFrom_X2_settles : GoodIn wsX2_firstSettlingFrom (wsV RX2 15 RX2 yX2_settles wsX2_settles) := goodIn_app (goodIn_of _ (by decide +kernel)) ggX2_firstSettlingFrom_X2_settles
theorem dX2_firstSettlingFrom_0 : decode cX2_firstSettlingFrom 0 = .ok (.iload_n 1, 1) := by decide +kernel
theorem dX2_firstSettlingFrom_1 : decode cX2_firstSettlingFrom 1 = .ok (.istore_n 2, 1) := by decide +kernel
theorem dX2_firstSettlingFrom_2 : decode cX2_firstSettlingFrom 2 = .ok (.iload_n 2, 1) := by decide +kernel
theorem dX2_firstSettlingFrom_3 : decode cX2_firstSettlingFrom 3 = .ok (.sipush 450, 3) := by decide +kernel
theorem dX2_firstSettlingFrom_6 : decode cX2_firstSettlingFrom 6 = .ok (.if_icmp .gt 19, 3) := by decide +kernel
theorem dX2_firstSettlingFrom_9 : decode cX2_firstSettlingFrom 9 = .ok (.aload_n 0, 1) := by decide +kernel
theorem dX2_firstSettlingFrom_10 : decode cX2_firstSettlingFrom 10 = .ok (.iload_n 2, 1) := by decide +kernel
theorem dX2_firstSettlingFrom_11 : decode cX2_firstSettlingFrom 11 = .ok (.invokevirtual 15, 3) := by decide +kernel
theorem dX2_firstSettlingFrom_14 : decode cX2_firstSettlingFrom 14 = .ok (.ifCond .eq 5, 3) := by decide +kernel
theorem dX2_firstSettlingFrom_17 : decode cX2_firstSettlingFrom 17 = .ok (.iload_n 2, 1) := by decide +kernel
theorem dX2_firstSettlingFrom_18 : decode cX2_firstSettlingFrom 18 = .ok (.ireturn, 1) := by decide +kernel
theorem dX2_firstSettlingFrom_19 : decode cX2_firstSettlingFrom 19 = .ok (.iinc 2 1, 3) := by decide +kernel
theorem dX2_firstSettlingFrom_22 : decode cX2_firstSettlingFrom 22 = .ok (.goto (-20), 3) := by decide +kernel
theorem dX2_firstSettlingFrom_25 : decode cX2_firstSettlingFrom 25 = .ok (.iconst (-1), 1) := by decide +kernel
theorem dX2_firstSettlingFrom_26 : decode cX2_firstSettlingFrom 26 = .ok (.ireturn, 1) := by decide +kernel
set_option maxRecDepth 20000 in
theorem ggX2_countSettling_X2_settles : GoodIn wsX2_countSettling wsX2_settles := goodIn_r _ [5, 6, 7] (by decide +kernel) (by decide +kernel)
set_option maxRecDepth 20000 in
theorem gX2_countSettling_X2_settles : GoodIn wsX2_countSettling (wsV RX2 15 RX2 yX2_settles wsX2_settles) := goodIn_app (goodIn_of _ (by decide +kernel)) ggX2_countSettling_X2_settles
theorem dX2_countSettling_0 : decode cX2_countSettling 0 = .ok (.iconst 0, 1) := by decide +kernel
theorem dX2_countSettling_1 : decode cX2_countSettling 1 = .ok (.istore_n 1, 1) := by decide +kernel
theorem dX2_countSettling_2 : decode cX2_countSettling 2 = .ok (.iconst 0, 1) := by decide +kernel
theorem dX2_countSettling_3 : decode cX2_countSettling 3 = .ok (.istore_n 2, 1) := by decide +kernel
theorem dX2_countSettling_4 : decode cX2_countSettling 4 = .ok (.iload_n 2, 1) := by decide +kernel
theorem dX2_countSettling_5 : decode cX2_countSettling 5 = .ok (.sipush 450, 3) := by decide +kernel
theorem dX2_countSettling_8 : decode cX2_countSettling 8 = .ok (.if_icmp .gt 20, 3) := by decide +kernel
theorem dX2_countSettling_11 : decode cX2_countSettling 11 = .ok (.aload_n 0, 1) := by decide +kernel
theorem dX2_countSettling_12 : decode cX2_countSettling 12 = .ok (.iload_n 2, 1) := by decide +kernel
theorem dX2_countSettling_13 : decode cX2_countSettling 13 = .ok (.invokevirtual 15, 3) := by decide +kernel
theorem dX2_countSettling_16 : decode cX2_countSettling 16 = .ok (.ifCond .eq 6, 3) := by decide +kernel
theorem dX2_countSettling_19 : decode cX2_countSettling 19 = .ok (.iinc 1 1, 3) := by decide +kernel
theorem dX2_countSettling_22 : decode cX2_countSettling 22 = .ok (.iinc 2 1, 3) := by decide +kernel
theorem dX2_countSettling_25 : decode cX2_countSettling 25 = .ok (.goto (-21), 3) := by decide +kernel
theorem dX2_countSettling_28 : decode cX2_countSettling 28 = .ok (.iload_n 1, 1) := by decide +kernel
theorem dX2_countSettling_29 : decode cX2_countSettling 29 = .ok (.ireturn, 1) := by decide +kernel
def ch_wsX3_init : List (List Cond) := [wsX3_init_r1, wsX3_init_r2, wsX3_init_r3, wsX3_init_r4, wsX3_init_r5, wsJx4a65c0, wsX30, wsX20, wsX10]
theorem chm_wsX3_init : ∀ c ∈ ch_wsX3_init, ∀ w ∈ c, w ∈ wsX3_init := List.forall_mem_cons.mpr ⟨(fun w h => (List.mem_cons_of_mem _ (List.mem_append_left _ (List.mem_append_left _ (List.mem_append_left _ (List.mem_append_left _ (List.mem_append_left _ h))))))), List.forall_mem_cons.mpr ⟨(fun w h => (List.mem_cons_of_mem _ (List.mem_append_left _ (List.mem_append_left _ (List.mem_append_left _ (List.mem_append_left _ (List.mem_append_right _ (List.mem_append_left _ h)))))))), List.forall_mem_cons.mpr ⟨(fun w h => (List.mem_cons_of_mem _ (List.mem_append_left _ (List.mem_append_left _ (List.mem_append_left _ (List.mem_append_left _ (List.mem_append_right _ (List.mem_append_right _ (List.mem_append_left _ h))))))))), List.forall_mem_cons.mpr ⟨(fun w h => (List.mem_cons_of_mem _ (List.mem_append_left _ (List.mem_append_left _ (List.mem_append_left _ (List.mem_append_left _ (List.mem_append_right _ (List.mem_append_right _ (List.mem_append_right _ (List.mem_append_left _ h)))))))))), List.forall_mem_cons.mpr ⟨(fun w h => (List.mem_cons_of_mem _ (List.mem_append_left _ (List.mem_append_left _ (List.mem_append_left _ (List.mem_append_left _ (List.mem_append_right _ (List.mem_append_right _ (List.mem_append_right _ (List.mem_append_right _ h)))))))))), List.forall_mem_cons.mpr ⟨(fun w h => (List.mem_cons_of_mem _ (List.mem_append_left _ (List.mem_append_left _ (List.mem_append_left _ (List.mem_append_right _ h)))))), List.forall_mem_cons.mpr ⟨(fun w h => (List.mem_cons_of_mem _ (List.mem_append_left _ (List.mem_append_left _ (List.mem_append_right _ h))))), List.forall_mem_cons.mpr ⟨(fun w h => (List.mem_cons_of_mem _ (List.mem_append_left _ (List.mem_append_right _ h)))), List.forall_mem_cons.mpr ⟨(fun w h => (List.mem_cons_of_mem _ (List.mem_append_right _ h))), fun _ h => absurd h List.not_mem_nil⟩⟩⟩⟩⟩⟩⟩⟩⟩
set_option maxRecDepth 100000 in
set_option maxHeartbeats 4000000 in
theorem ggX3_init_Jx4a65c_init_da8c8 : GoodIn wsX3_init wsJx4a65c_init_da8c8 := goodIn_k ch_wsX3_init chm_wsX3_init _ [(0, 20), (0, 21), (0, 22), (0, 23), (1, 0), (1, 1), (1, 2), (1, 3), (1, 4), (1, 5), (1, 6), (1, 7), (1, 8), (0, 1), (0, 2), (5, 0), (5, 1), (5, 2)] (by rfl) (by decide +kernel)
set_option maxRecDepth 20000 in
theorem gX3_init_Jx4a65c_init_da8c8 : GoodIn wsX3_init (wsJx4a65c_init_da8c8) := ggX3_init_Jx4a65c_init_da8c8
set_option maxRecDepth 100000 in
set_option maxHeartbeats 4000000 in
theorem ggX3_init_X2_init : GoodIn wsX3_init wsX2_init := goodIn_k ch_wsX3_init chm_wsX3_init _ [(1, 10), (1, 11), (0, 1), (0, 2), (1, 12), (1, 13), (7, 0)] (by rfl) (by decide +kernel)
set_option maxRecDepth 20000 in
theorem gX3_init_X2_init_n32 : GoodIn wsX3_init (wsX2_init) := ggX3_init_X2_init
set_option maxRecDepth 100000 in
set_option maxHeartbeats 4000000 in
theorem ggX3_init_X1_init : GoodIn wsX3_init wsX1_init := goodIn_k ch_wsX3_init chm_wsX3_init _ [(1, 16), (1, 17), (0, 1), (0, 2), (1, 18), (1, 19), (8, 0), (8, 1), (8, 2)] (by rfl) (by decide +kernel)
set_option maxRecDepth 20000 in
theorem gX3_init_X1_init : GoodIn wsX3_init (wsX1_init) := ggX3_init_X1_init
set_option maxRecDepth 100000 in
set_option maxHeartbeats 4000000 in
theorem ggX3_init_Jx4a65c_add_9ea2d : GoodIn wsX3_init wsJx4a65c_add_9ea2d := goodIn_k ch_wsX3_init chm_wsX3_init _ [(1, 23), (2, 0), (2, 1), (0, 22), (2, 2), (2, 3), (2, 4), (2, 5), (0, 5), (2, 6), (2, 7), (2, 8), (2, 9), (2, 10), (2, 11), (2, 12), (2, 13), (2, 14), (0, 21), (2, 15), (2, 16), (2, 17), (2, 18), (2, 19), (2, 20), (2, 21), (2, 22), (2, 23), (3, 0), (3, 1), (3, 2), (3, 3), (3, 4), (3, 5), (3, 6), (3, 7), (3, 8), (3, 9), (3, 10), (3, 11), (3, 12), (3, 13), (3, 14), (3, 15), (3, 16), (3, 17), (3, 18), (3, 19), (3, 20), (3, 21), (3, 22), (3, 23), (4, 0), (5, 0), (5, 1), (5, 2)] (by rfl) (by decide +kernel)
set_option maxRecDepth 20000 in
theorem gX3_init_Jx4a65c_add_9ea2d : GoodIn wsX3_init (wsV RX3 42 RJx4a65c yJx4a65c_add_9ea2d wsJx4a65c_add_9ea2d) := goodIn_app (goodIn_of _ (by decide +kernel)) ggX3_init_Jx4a65c_add_9ea2d
theorem dX3_init_0 : decode cX3_init 0 = .ok (.aload_n 0, 1) := by decide +kernel
theorem dX3_init_1 : decode cX3_init 1 = .ok (.invokespecial 3, 3) := by decide +kernel
theorem dX3_init_4 : decode cX3_init 4 = .ok (.aload_n 0, 1) := by decide +kernel
theorem dX3_init_5 : decode cX3_init 5 = .ok (.new 9, 3) := by decide +kernel
theorem dX3_init_8 : decode cX3_init 8 = .ok (.dup, 1) := by decide +kernel
theorem dX3_init_9 : decode cX3_init 9 = .ok (.invokespecial 11, 3) := by decide +kernel
theorem dX3_init_12 : decode cX3_init 12 = .ok (.putfield 12, 3) := by decide +kernel
theorem dX3_init_15 : decode cX3_init 15 = .ok (.aload_n 0, 1) := by decide +kernel
theorem dX3_init_16 : decode cX3_init 16 = .ok (.new 9, 3) := by decide +kernel
theorem dX3_init_19 : decode cX3_init 19 = .ok (.dup, 1) := by decide +kernel
theorem dX3_init_20 : decode cX3_init 20 = .ok (.invokespecial 11, 3) := by decide +kernel
theorem dX3_init_23 : decode cX3_init 23 = .ok (.putfield 18, 3) := by decide +kernel
theorem dX3_init_26 : decode cX3_init 26 = .ok (.aload_n 0, 1) := by decide +kernel
theorem dX3_init_27 : decode cX3_init 27 = .ok (.new 9, 3) := by decide +kernel
theorem dX3_init_30 : decode cX3_init 30 = .ok (.dup, 1) := by decide +kernel
theorem dX3_init_31 : decode cX3_init 31 = .ok (.invokespecial 11, 3) := by decide +kernel
theorem dX3_init_34 : decode cX3_init 34 = .ok (.putfield 21, 3) := by decide +kernel
theorem dX3_init_37 : decode cX3_init 37 = .ok (.aload_n 0, 1) := by decide +kernel
theorem dX3_init_38 : decode cX3_init 38 = .ok (.new 9, 3) := by decide +kernel
theorem dX3_init_41 : decode cX3_init 41 = .ok (.dup, 1) := by decide +kernel
theorem dX3_init_42 : decode cX3_init 42 = .ok (.invokespecial 11, 3) := by decide +kernel
theorem dX3_init_45 : decode cX3_init 45 = .ok (.putfield 24, 3) := by decide +kernel
theorem dX3_init_48 : decode cX3_init 48 = .ok (.aload_n 0, 1) := by decide +kernel
theorem dX3_init_49 : decode cX3_init 49 = .ok (.new 9, 3) := by decide +kernel
theorem dX3_init_52 : decode cX3_init 52 = .ok (.dup, 1) := by decide +kernel
theorem dX3_init_53 : decode cX3_init 53 = .ok (.invokespecial 11, 3) := by decide +kernel
theorem dX3_init_56 : decode cX3_init 56 = .ok (.putfield 27, 3) := by decide +kernel
theorem dX3_init_59 : decode cX3_init 59 = .ok (.aload_n 0, 1) := by decide +kernel
theorem dX3_init_60 : decode cX3_init 60 = .ok (.new 30, 3) := by decide +kernel
theorem dX3_init_63 : decode cX3_init 63 = .ok (.dup, 1) := by decide +kernel
theorem dX3_init_64 : decode cX3_init 64 = .ok (.invokespecial 32, 3) := by decide +kernel
theorem dX3_init_67 : decode cX3_init 67 = .ok (.putfield 33, 3) := by decide +kernel
theorem dX3_init_70 : decode cX3_init 70 = .ok (.iconst 0, 1) := by decide +kernel
theorem dX3_init_71 : decode cX3_init 71 = .ok (.istore_n 1, 1) := by decide +kernel
theorem dX3_init_72 : decode cX3_init 72 = .ok (.iload_n 1, 1) := by decide +kernel
theorem dX3_init_73 : decode cX3_init 73 = .ok (.iconst 4, 1) := by decide +kernel
theorem dX3_init_74 : decode cX3_init 74 = .ok (.if_icmp .ge 25, 3) := by decide +kernel
theorem dX3_init_77 : decode cX3_init 77 = .ok (.aload_n 0, 1) := by decide +kernel
theorem dX3_init_78 : decode cX3_init 78 = .ok (.getfield 27, 3) := by decide +kernel
theorem dX3_init_81 : decode cX3_init 81 = .ok (.new 37, 3) := by decide +kernel
theorem dX3_init_84 : decode cX3_init 84 = .ok (.dup, 1) := by decide +kernel
theorem dX3_init_85 : decode cX3_init 85 = .ok (.iload_n 1, 1) := by decide +kernel
theorem dX3_init_86 : decode cX3_init 86 = .ok (.invokespecial 39, 3) := by decide +kernel
theorem dX3_init_89 : decode cX3_init 89 = .ok (.invokevirtual 42, 3) := by decide +kernel
theorem dX3_init_92 : decode cX3_init 92 = .ok (.pop, 1) := by decide +kernel
theorem dX3_init_93 : decode cX3_init 93 = .ok (.iinc 1 1, 3) := by decide +kernel
theorem dX3_init_96 : decode cX3_init 96 = .ok (.goto (-24), 3) := by decide +kernel
theorem dX3_init_99 : decode cX3_init 99 = .ok (.return_, 1) := by decide +kernel
def ch_wsX3_openPool : List (List Cond) := [wsX3_openPool_r1, wsX3_openPool_r2, wsX3_openPool_r3, wsX3_openPool_r4, wsX3_openPool_r5, wsX3_openPool_r6, wsX30, wsX60, wsX00, wsJx4a65c0, wsX70]
theorem chm_wsX3_openPool : ∀ c ∈ ch_wsX3_openPool, ∀ w ∈ c, w ∈ wsX3_openPool := List.forall_mem_cons.mpr ⟨(fun w h => (List.mem_cons_of_mem _ (List.mem_append_left _ (List.mem_append_left _ (List.mem_append_left _ (List.mem_append_left _ (List.mem_append_left _ (List.mem_append_left _ h)))))))), List.forall_mem_cons.mpr ⟨(fun w h => (List.mem_cons_of_mem _ (List.mem_append_left _ (List.mem_append_left _ (List.mem_append_left _ (List.mem_append_left _ (List.mem_append_left _ (List.mem_append_right _ (List.mem_append_left _ h))))))))), List.forall_mem_cons.mpr ⟨(fun w h => (List.mem_cons_of_mem _ (List.mem_append_left _ (List.mem_append_left _ (List.mem_append_left _ (List.mem_append_left _ (List.mem_append_left _ (List.mem_append_right _ (List.mem_append_right _ (List.mem_append_left _ h)))))))))), List.forall_mem_cons.mpr ⟨(fun w h => (List.mem_cons_of_mem _ (List.mem_append_left _ (List.mem_append_left _ (List.mem_append_left _ (List.mem_append_left _ (List.mem_append_left _ (List.mem_append_right _ (List.mem_append_right _ (List.mem_append_right _ (List.mem_append_left _ h))))))))))), List.forall_mem_cons.mpr ⟨(fun w h => (List.mem_cons_of_mem _ (List.mem_append_left _ (List.mem_append_left _ (List.mem_append_left _ (List.mem_append_left _ (List.mem_append_left _ (List.mem_append_right _ (List.mem_append_right _ (List.mem_append_right _ (List.mem_append_right _ (List.mem_append_left _ h)))))))))))), List.forall_mem_cons.mpr ⟨(fun w h => (List.mem_cons_of_mem _ (List.mem_append_left _ (List.mem_append_left _ (List.mem_append_left _ (List.mem_append_left _ (List.mem_append_left _ (List.mem_append_right _ (List.mem_append_right _ (List.mem_append_right _ (List.mem_append_right _ (List.mem_append_right _ h)))))))))))), List.forall_mem_cons.mpr ⟨(fun w h => (List.mem_cons_of_mem _ (List.mem_append_left _ (List.mem_append_left _ (List.mem_append_left _ (List.mem_append_left _ (List.mem_append_right _ h))))))), List.forall_mem_cons.mpr ⟨(fun w h => (List.mem_cons_of_mem _ (List.mem_append_left _ (List.mem_append_left _ (List.mem_append_left _ (List.mem_append_right _ h)))))), List.forall_mem_cons.mpr ⟨(fun w h => (List.mem_cons_of_mem _ (List.mem_append_left _ (List.mem_append_left _ (List.mem_append_right _ h))))), List.forall_mem_cons.mpr ⟨(fun w h => (List.mem_cons_of_mem _ (List.mem_append_left _ (List.mem_append_right _ h)))), List.forall_mem_cons.mpr ⟨(fun w h => (List.mem_cons_of_mem _ (List.mem_append_right _ h))), fun _ h => absurd h List.not_mem_nil⟩⟩⟩⟩⟩⟩⟩⟩⟩⟩⟩
set_option maxRecDepth 100000 in
set_option maxHeartbeats 4000000 in
theorem ggX3_openPool_Jx4a65c_size_8abf5 : GoodIn wsX3_openPool wsJx4a65c_size_8abf5 := goodIn_k ch_wsX3_openPool chm_wsX3_openPool _ [(0, 12), (0, 13), (9, 0), (9, 1), (9, 2)] (by rfl) (by decide +kernel)
set_option maxRecDepth 20000 in
theorem gX3_openPool_Jx4a65c_size_8abf5 : GoodIn wsX3_openPool (wsV RX3 46 RJx4a65c yJx4a65c_size_8abf5 wsJx4a65c_size_8abf5) := goodIn_app (goodIn_of _ (by decide +kernel)) ggX3_openPool_Jx4a65c_size_8abf5
set_option maxRecDepth 100000 in
set_option maxHeartbeats 4000000 in
theorem ggX3_openPool_X6_init : GoodIn wsX3_openPool wsX6_init := goodIn_k ch_wsX3_openPool chm_wsX3_openPool _ [(0, 16), (0, 17), (0, 18), (0, 19), (0, 20), (0, 21), (0, 11), (0, 22), (0, 23), (1, 0), (1, 1), (1, 2), (1, 3), (1, 4), (1, 5), (1, 6), (1, 7), (1, 8), (1, 9), (1, 10), (1, 11), (1, 12), (1, 13), (1, 14), (1, 15), (1, 16), (1, 17), (1, 18), (1, 19), (1, 20), (1, 21), (1, 22), (1, 23), (2, 0), (2, 1), (2, 2), (2, 3), (2, 4), (2, 5), (2, 6), (2, 7), (9, 0), (9, 1), (9, 2), (7, 0), (7, 1), (7, 2), (7, 3), (7, 4), (10, 0), (10, 1), (10, 2), (10, 3), (10, 4), (10, 5), (10, 6), (10, 7), (10, 8), (10, 9)] (by rfl) (by decide +kernel)
set_option maxRecDepth 20000 in
theorem gX3_openPool_X6_init : GoodIn wsX3_openPool (wsX6_init) := ggX3_openPool_X6_init
set_option maxRecDepth 100000 in
set_option maxHeartbeats 4000000 in
theorem ggX3_openPool_X0_init : GoodIn wsX3_openPool wsX0_init := goodIn_k ch_wsX3_openPool chm_wsX3_openPool _ [(2, 10), (2, 11), (0, 18), (0, 19), (2, 12), (0, 21), (0, 11), (2, 13), (2, 14), (2, 15), (2, 16), (2, 17), (2, 18), (1, 7), (1, 8), (1, 9), (1, 10), (1, 11), (1, 12), (1, 13), (1, 14), (1, 15), (1, 16), (1, 17), (1, 18), (1, 19), (1, 20), (9, 0), (9, 1), (9, 2), (8, 0), (8, 1), (8, 2), (8, 3), (8, 4), (8, 5), (8, 6), (8, 7), (8, 8), (8, 9), (8, 10), (8, 11)] (by rfl) (by decide +kernel)
set_option maxRecDepth 20000 in
theorem gX3_openPool_X0_init : GoodIn wsX3_openPool (wsX0_init) := ggX3_openPool_X0_init
set_option maxRecDepth 100000 in
set_option maxHeartbeats 4000000 in
theorem ggX3_openPool_Jx4a65c_add_9ea2d : GoodIn wsX3_openPool wsJx4a65c_add_9ea2d := goodIn_k ch_wsX3_openPool chm_wsX3_openPool _ [(2, 22), (2, 23), (3, 0), (1, 10), (0, 13), (3, 1), (3, 2), (3, 3), (0, 11), (3, 4), (3, 5), (3, 6), (3, 7), (3, 8), (3, 9), (3, 10), (3, 11), (3, 12), (1, 9), (3, 13), (3, 14), (3, 15), (3, 16), (3, 17), (3, 18), (3, 19), (3, 20), (3, 21), (3, 22), (3, 23), (4, 0), (4, 1), (4, 2), (4, 3), (4, 4), (4, 5), (4, 6), (4, 7), (4, 8), (4, 9), (4, 10), (4, 11), (4, 12), (4, 13), (4, 14), (4, 15), (4, 16), (4, 17), (4, 18), (4, 19), (4, 20), (4, 21), (4, 22), (9, 0), (9, 1), (9, 2)] (by rfl) (by decide +kernel)
set_option maxRecDepth 20000 in
theorem gX3_openPool_Jx4a65c_add_9ea2d : GoodIn wsX3_openPool (wsV RX3 42 RJx4a65c yJx4a65c_add_9ea2d wsJx4a65c_add_9ea2d) := goodIn_app (goodIn_of _ (by decide +kernel)) ggX3_openPool_Jx4a65c_add_9ea2d
set_option maxRecDepth 100000 in
set_option maxHeartbeats 4000000 in
theorem ggX3_openPool_X3_enter : GoodIn wsX3_openPool wsX3_enter := goodIn_k ch_wsX3_openPool chm_wsX3_openPool _ [(5, 3), (0, 0), (5, 4), (5, 5), (2, 19), (2, 20), (2, 21), (0, 11), (2, 22), (2, 23), (3, 0), (1, 10), (0, 13), (3, 1), (3, 2), (3, 3), (3, 4), (3, 5), (3, 6), (3, 7), (3, 8), (3, 9), (3, 10), (3, 11), (3, 12), (1, 9), (3, 13), (3, 14), (3, 15), (3, 16), (3, 17), (3, 18), (3, 19), (3, 20), (3, 21), (3, 22), (3, 23), (4, 0), (4, 1), (4, 2), (4, 3), (4, 4), (4, 5), (4, 6), (4, 7), (4, 8), (4, 9), (4, 10), (4, 11), (4, 12), (4, 13), (4, 14), (4, 15), (4, 16), (4, 17), (4, 18), (4, 19), (4, 20), (4, 21), (4, 22), (6, 0), (6, 1), (6, 2), (6, 3), (6, 4), (6, 5), (6, 6), (6, 7), (8, 0), (8, 1), (8, 2), (8, 3), (8, 4), (8, 5), (8, 6), (8, 7), (8, 8), (8, 9), (8, 10), (8, 11), (7, 0), (7, 1), (7, 2), (7, 3), (7, 4), (9, 0), (9, 1), (9, 2)] (by rfl) (by decide +kernel)
set_option maxRecDepth 20000 in
theorem gX3_openPool_X3_enter : GoodIn wsX3_openPool (wsV RX3 60 RX3 yX3_enter wsX3_enter) := goodIn_app (goodIn_of _ (by decide +kernel)) ggX3_openPool_X3_enter
theorem dX3_openPool_0 : decode cX3_openPool 0 = .ok (.aload_n 0, 1) := by decide +kernel
theorem dX3_openPool_1 : decode cX3_openPool 1 = .ok (.getfield 12, 3) := by decide +kernel
theorem dX3_openPool_4 : decode cX3_openPool 4 = .ok (.invokevirtual 46, 3) := by decide +kernel
theorem dX3_openPool_7 : decode cX3_openPool 7 = .ok (.istore 4, 2) := by decide +kernel
theorem dX3_openPool_9 : decode cX3_openPool 9 = .ok (.new 50, 3) := by decide +kernel
theorem dX3_openPool_12 : decode cX3_openPool 12 = .ok (.dup, 1) := by decide +kernel
theorem dX3_openPool_13 : decode cX3_openPool 13 = .ok (.iload 4, 2) := by decide +kernel
theorem dX3_openPool_15 : decode cX3_openPool 15 = .ok (.iload_n 2, 1) := by decide +kernel
theorem dX3_openPool_16 : decode cX3_openPool 16 = .ok (.iload_n 3, 1) := by decide +kernel
theorem dX3_openPool_17 : decode cX3_openPool 17 = .ok (.invokespecial 52, 3) := by decide +kernel
theorem dX3_openPool_20 : decode cX3_openPool 20 = .ok (.astore 5, 2) := by decide +kernel
theorem dX3_openPool_22 : decode cX3_openPool 22 = .ok (.new 55, 3) := by decide +kernel
theorem dX3_openPool_25 : decode cX3_openPool 25 = .ok (.dup, 1) := by decide +kernel
theorem dX3_openPool_26 : decode cX3_openPool 26 = .ok (.iload 4, 2) := by decide +kernel
theorem dX3_openPool_28 : decode cX3_openPool 28 = .ok (.aconst_null, 1) := by decide +kernel
theorem dX3_openPool_29 : decode cX3_openPool 29 = .ok (.aload 5, 2) := by decide +kernel
theorem dX3_openPool_31 : decode cX3_openPool 31 = .ok (.aload_n 1, 1) := by decide +kernel
theorem dX3_openPool_32 : decode cX3_openPool 32 = .ok (.invokespecial 57, 3) := by decide +kernel
theorem dX3_openPool_35 : decode cX3_openPool 35 = .ok (.astore 6, 2) := by decide +kernel
theorem dX3_openPool_37 : decode cX3_openPool 37 = .ok (.aload_n 0, 1) := by decide +kernel
theorem dX3_openPool_38 : decode cX3_openPool 38 = .ok (.getfield 18, 3) := by decide +kernel
theorem dX3_openPool_41 : decode cX3_openPool 41 = .ok (.aload 6, 2) := by decide +kernel
theorem dX3_openPool_43 : decode cX3_openPool 43 = .ok (.invokevirtual 42, 3) := by decide +kernel
theorem dX3_openPool_46 : decode cX3_openPool 46 = .ok (.pop, 1) := by decide +kernel
theorem dX3_openPool_47 : decode cX3_openPool 47 = .ok (.aload_n 0, 1) := by decide +kernel
theorem dX3_openPool_48 : decode cX3_openPool 48 = .ok (.aload 6, 2) := by decide +kernel
theorem dX3_openPool_50 : decode cX3_openPool 50 = .ok (.invokevirtual 60, 3) := by decide +kernel
theorem dX3_openPool_53 : decode cX3_openPool 53 = .ok (.iload 4, 2) := by decide +kernel
theorem dX3_openPool_55 : decode cX3_openPool 55 = .ok (.ireturn, 1) := by decide +kernel
def ch_wsX3_openAccount : List (List Cond) := [wsX3_openAccount_r1, wsX3_openAccount_r2, wsX3_openAccount_r3, wsX3_openAccount_r4, wsX3_openAccount_r5, wsX30, wsX00, wsJx4a65c0, wsX60]
theorem chm_wsX3_openAccount : ∀ c ∈ ch_wsX3_openAccount, ∀ w ∈ c, w ∈ wsX3_openAccount := List.forall_mem_cons.mpr ⟨(fun w h => (List.mem_cons_of_mem _ (List.mem_append_left _ (List.mem_append_left _ (List.mem_append_left _ (List.mem_append_left _ (List.mem_append_left _ h))))))), List.forall_mem_cons.mpr ⟨(fun w h => (List.mem_cons_of_mem _ (List.mem_append_left _ (List.mem_append_left _ (List.mem_append_left _ (List.mem_append_left _ (List.mem_append_right _ (List.mem_append_left _ h)))))))), List.forall_mem_cons.mpr ⟨(fun w h => (List.mem_cons_of_mem _ (List.mem_append_left _ (List.mem_append_left _ (List.mem_append_left _ (List.mem_append_left _ (List.mem_append_right _ (List.mem_append_right _ (List.mem_append_left _ h))))))))), List.forall_mem_cons.mpr ⟨(fun w h => (List.mem_cons_of_mem _ (List.mem_append_left _ (List.mem_append_left _ (List.mem_append_left _ (List.mem_append_left _ (List.mem_append_right _ (List.mem_append_right _ (List.mem_append_right _ (List.mem_append_left _ h)))))))))), List.forall_mem_cons.mpr ⟨(fun w h => (List.mem_cons_of_mem _ (List.mem_append_left _ (List.mem_append_left _ (List.mem_append_left _ (List.mem_append_left _ (List.mem_append_right _ (List.mem_append_right _ (List.mem_append_right _ (List.mem_append_right _ h)))))))))), List.forall_mem_cons.mpr ⟨(fun w h => (List.mem_cons_of_mem _ (List.mem_append_left _ (List.mem_append_left _ (List.mem_append_left _ (List.mem_append_right _ h)))))), List.forall_mem_cons.mpr ⟨(fun w h => (List.mem_cons_of_mem _ (List.mem_append_left _ (List.mem_append_left _ (List.mem_append_right _ h))))), List.forall_mem_cons.mpr ⟨(fun w h => (List.mem_cons_of_mem _ (List.mem_append_left _ (List.mem_append_right _ h)))), List.forall_mem_cons.mpr ⟨(fun w h => (List.mem_cons_of_mem _ (List.mem_append_right _ h))), fun _ h => absurd h List.not_mem_nil⟩⟩⟩⟩⟩⟩⟩⟩⟩
set_option maxRecDepth 100000 in
set_option maxHeartbeats 4000000 in
theorem ggX3_openAccount_Jx4a65c_size_8abf5 : GoodIn wsX3_openAccount wsJx4a65c_size_8abf5 := goodIn_k ch_wsX3_openAccount chm_wsX3_openAccount _ [(0, 10), (0, 11), (7, 0), (7, 1), (7, 2)] (by rfl) (by decide +kernel)
set_option maxRecDepth 20000 in
theorem gX3_openAccount_Jx4a65c_size_8abf5 : GoodIn wsX3_openAccount (wsV RX3 46 RJx4a65c yJx4a65c_size_8abf5 wsJx4a65c_size_8abf5) := goodIn_app (goodIn_of _ (by decide +kernel)) ggX3_openAccount_Jx4a65c_size_8abf5
set_option maxRecDepth 100000 in
set_option maxHeartbeats 4000000 in
theorem ggX3_openAccount_X0_init : GoodIn wsX3_openAccount wsX0_init := goodIn_k ch_wsX3_openAccount chm_wsX3_openAccount _ [(0, 14), (0, 15), (0, 16), (0, 17), (0, 18), (0, 19), (0, 9), (0, 20), (0, 21), (0, 22), (0, 23), (1, 0), (1, 1), (1, 2), (1, 3), (1, 4), (1, 5), (1, 6), (1, 7), (1, 8), (1, 9), (1, 10), (1, 11), (1, 12), (1, 13), (1, 14), (1, 15), (7, 0), (7, 1), (7, 2), (6, 0), (6, 1), (6, 2), (6, 3), (6, 4), (6, 5), (6, 6), (6, 7), (6, 8), (6, 9), (6, 10), (6, 11)] (by rfl) (by decide +kernel)
set_option maxRecDepth 20000 in
theorem gX3_openAccount_X0_init : GoodIn wsX3_openAccount (wsX0_init) := ggX3_openAccount_X0_init
set_option maxRecDepth 100000 in
set_option maxHeartbeats 4000000 in
theorem ggX3_openAccount_Jx4a65c_add_9ea2d : GoodIn wsX3_openAccount wsJx4a65c_add_9ea2d := goodIn_k ch_wsX3_openAccount chm_wsX3_openAccount _ [(1, 19), (1, 20), (1, 21), (1, 5), (0, 11), (1, 22), (1, 23), (2, 0), (0, 9), (2, 1), (2, 2), (2, 3), (2, 4), (2, 5), (2, 6), (2, 7), (2, 8), (2, 9), (1, 4), (2, 10), (2, 11), (2, 12), (2, 13), (2, 14), (2, 15), (2, 16), (2, 17), (2, 18), (2, 19), (2, 20), (2, 21), (2, 22), (2, 23), (3, 0), (3, 1), (3, 2), (3, 3), (3, 4), (3, 5), (3, 6), (3, 7), (3, 8), (3, 9), (3, 10), (3, 11), (3, 12), (3, 13), (3, 14), (3, 15), (3, 16), (3, 17), (3, 18), (3, 19), (7, 0), (7, 1), (7, 2)] (by rfl) (by decide +kernel)
set_option maxRecDepth 20000 in
theorem gX3_openAccount_Jx4a65c_add_9ea2d : GoodIn wsX3_openAccount (wsV RX3 42 RJx4a65c yJx4a65c_add_9ea2d wsJx4a65c_add_9ea2d) := goodIn_app (goodIn_of _ (by decide +kernel)) ggX3_openAccount_Jx4a65c_add_9ea2d
set_option maxRecDepth 100000 in
set_option maxHeartbeats 4000000 in
theorem ggX3_openAccount_X3_enter : GoodIn wsX3_openAccount wsX3_enter := goodIn_k ch_wsX3_openAccount chm_wsX3_openAccount _ [(4, 0), (0, 0), (0, 4), (4, 1), (1, 16), (1, 17), (1, 18), (0, 9), (1, 19), (1, 20), (1, 21), (1, 5), (0, 11), (1, 22), (1, 23), (2, 0), (2, 1), (2, 2), (2, 3), (2, 4), (2, 5), (2, 6), (2, 7), (2, 8), (2, 9), (1, 4), (2, 10), (2, 11), (2, 12), (2, 13), (2, 14), (2, 15), (2, 16), (2, 17), (2, 18), (2, 19), (2, 20), (2, 21), (2, 22), (2, 23), (3, 0), (3, 1), (3, 2), (3, 3), (3, 4), (3, 5), (3, 6), (3, 7), (3, 8), (3, 9), (3, 10), (3, 11), (3, 12), (3, 13), (3, 14), (3, 15), (3, 16), (3, 17), (3, 18), (3, 19), (5, 0), (5, 1), (5, 2), (5, 3), (5, 4), (5, 5), (5, 6), (5, 7), (6, 0), (6, 1), (6, 2), (6, 3), (6, 4), (6, 5), (6, 6), (6, 7), (6, 8), (6, 9), (6, 10), (6, 11), (8, 0), (8, 1), (8, 2), (8, 3), (8, 4), (7, 0), (7, 1), (7, 2)] (by rfl) (by decide +kernel)
set_option maxRecDepth 20000 in
theorem gX3_openAccount_X3_enter : GoodIn wsX3_openAccount (wsV RX3 60 RX3 yX3_enter wsX3_enter) := goodIn_app (goodIn_of _ (by decide +kernel)) ggX3_openAccount_X3_enter
theorem dX3_openAccount_0 : decode cX3_openAccount 0 = .ok (.aload_n 0, 1) := by decide +kernel
theorem dX3_openAccount_1 : decode cX3_openAccount 1 = .ok (.getfield 12, 3) := by decide +kernel
theorem dX3_openAccount_4 : decode cX3_openAccount 4 = .ok (.invokevirtual 46, 3) := by decide +kernel
theorem dX3_openAccount_7 : decode cX3_openAccount 7 = .ok (.istore_n 3, 1) := by decide +kernel
theorem dX3_openAccount_8 : decode cX3_openAccount 8 = .ok (.new 55, 3) := by decide +kernel
theorem dX3_openAccount_11 : decode cX3_openAccount 11 = .ok (.dup, 1) := by decide +kernel
theorem dX3_openAccount_12 : decode cX3_openAccount 12 = .ok (.iload_n 3, 1) := by decide +kernel
theorem dX3_openAccount_13 : decode cX3_openAccount 13 = .ok (.aload_n 1, 1) := by decide +kernel
theorem dX3_openAccount_14 : decode cX3_openAccount 14 = .ok (.aload_n 1, 1) := by decide +kernel
theorem dX3_openAccount_15 : decode cX3_openAccount 15 = .ok (.getfield 64, 3) := by decide +kernel
theorem dX3_openAccount_18 : decode cX3_openAccount 18 = .ok (.aload_n 2, 1) := by decide +kernel
theorem dX3_openAccount_19 : decode cX3_openAccount 19 = .ok (.invokespecial 57, 3) := by decide +kernel
theorem dX3_openAccount_22 : decode cX3_openAccount 22 = .ok (.astore 4, 2) := by decide +kernel
theorem dX3_openAccount_24 : decode cX3_openAccount 24 = .ok (.aload_n 1, 1) := by decide +kernel
theorem dX3_openAccount_25 : decode cX3_openAccount 25 = .ok (.getfield 68, 3) := by decide +kernel
theorem dX3_openAccount_28 : decode cX3_openAccount 28 = .ok (.aload 4, 2) := by decide +kernel
theorem dX3_openAccount_30 : decode cX3_openAccount 30 = .ok (.invokevirtual 42, 3) := by decide +kernel
theorem dX3_openAccount_33 : decode cX3_openAccount 33 = .ok (.pop, 1) := by decide +kernel
theorem dX3_openAccount_34 : decode cX3_openAccount 34 = .ok (.aload_n 0, 1) := by decide +kernel
theorem dX3_openAccount_35 : decode cX3_openAccount 35 = .ok (.aload 4, 2) := by decide +kernel
theorem dX3_openAccount_37 : decode cX3_openAccount 37 = .ok (.invokevirtual 60, 3) := by decide +kernel
theorem dX3_openAccount_40 : decode cX3_openAccount 40 = .ok (.iload_n 3, 1) := by decide +kernel
theorem dX3_openAccount_41 : decode cX3_openAccount 41 = .ok (.ireturn, 1) := by decide +kernel
def ch_wsX3_enter : List (List Cond) := [wsX3_enter_r1, wsX3_enter_r2, wsX3_enter_r3, wsX30, wsX00, wsX60, wsJx4a65c0]
theorem chm_wsX3_enter : ∀ c ∈ ch_wsX3_enter, ∀ w ∈ c, w ∈ wsX3_enter := List.forall_mem_cons.mpr ⟨(fun w h => (List.mem_cons_of_mem _ (List.mem_append_left _ (List.mem_append_left _ (List.mem_append_left _ (List.mem_append_left _ (List.mem_append_left _ h))))))), List.forall_mem_cons.mpr ⟨(fun w h => (List.mem_cons_of_mem _ (List.mem_append_left _ (List.mem_append_left _ (List.mem_append_left _ (List.mem_append_left _ (List.mem_append_right _ (List.mem_append_left _ h)))))))), List.forall_mem_cons.mpr ⟨(fun w h => (List.mem_cons_of_mem _ (List.mem_append_left _ (List.mem_append_left _ (List.mem_append_left _ (List.mem_append_left _ (List.mem_append_right _ (List.mem_append_right _ h)))))))), List.forall_mem_cons.mpr ⟨(fun w h => (List.mem_cons_of_mem _ (List.mem_append_left _ (List.mem_append_left _ (List.mem_append_left _ (List.mem_append_right _ h)))))), List.forall_mem_cons.mpr ⟨(fun w h => (List.mem_cons_of_mem _ (List.mem_append_left _ (List.mem_append_left _ (List.mem_append_right _ h))))), List.forall_mem_cons.mpr ⟨(fun w h => (List.mem_cons_of_mem _ (List.mem_append_left _ (List.mem_append_right _ h)))), List.forall_mem_cons.mpr ⟨(fun w h => (List.mem_cons_of_mem _ (List.mem_append_right _ h))), fun _ h => absurd h List.not_mem_nil⟩⟩⟩⟩⟩⟩⟩
set_option maxRecDepth 100000 in
set_option maxHeartbeats 4000000 in
theorem ggX3_enter_Jx4a65c_add_9ea2d : GoodIn wsX3_enter wsJx4a65c_add_9ea2d := goodIn_k ch_wsX3_enter chm_wsX3_enter _ [(0, 7), (0, 8), (0, 9), (0, 10), (0, 11), (0, 12), (0, 13), (0, 14), (0, 6), (0, 15), (0, 16), (0, 17), (0, 18), (0, 19), (0, 20), (0, 21), (0, 22), (0, 23), (1, 0), (1, 1), (1, 2), (1, 3), (1, 4), (1, 5), (1, 6), (1, 7), (1, 8), (1, 9), (1, 10), (1, 11), (1, 12), (1, 13), (1, 14), (1, 15), (1, 16), (1, 17), (1, 18), (1, 19), (1, 20), (1, 21), (1, 22), (1, 23), (2, 0), (2, 1), (2, 2), (2, 3), (2, 4), (2, 5), (2, 6), (2, 7), (2, 8), (2, 9), (2, 10), (6, 0), (6, 1), (6, 2)] (by rfl) (by decide +kernel)
set_option maxRecDepth 20000 in
theorem gX3_enter_Jx4a65c_add_9ea2d : GoodIn wsX3_enter (wsV RX3 42 RJx4a65c yJx4a65c_add_9ea2d wsJx4a65c_add_9ea2d) := goodIn_app (goodIn_of _ (by decide +kernel)) ggX3_enter_Jx4a65c_add_9ea2d
theorem dX3_enter_0 : decode cX3_enter 0 = .ok (.aload_n 0, 1) := by decide +kernel
theorem dX3_enter_1 : decode cX3_enter 1 = .ok (.getfield 12, 3) := by decide +kernel
theorem dX3_enter_4 : decode cX3_enter 4 = .ok (.aload_n 1, 1) := by decide +kernel
theorem dX3_enter_5 : decode cX3_enter 5 = .ok (.invokevirtual 42, 3) := by decide +kernel
theorem dX3_enter_8 : decode cX3_enter 8 = .ok (.pop, 1) := by decide +kernel
theorem dX3_enter_9 : decode cX3_enter 9 = .ok (.aload_n 1, 1) := by decide +kernel
theorem dX3_enter_10 : decode cX3_enter 10 = .ok (.getfield 64, 3) := by decide +kernel
theorem dX3_enter_13 : decode cX3_enter 13 = .ok (.getfield 71, 3) := by decide +kernel
theorem dX3_enter_16 : decode cX3_enter 16 = .ok (.aload_n 1, 1) := by decide +kernel
theorem dX3_enter_17 : decode cX3_enter 17 = .ok (.invokevirtual 42, 3) := by decide +kernel
theorem dX3_enter_20 : decode cX3_enter 20 = .ok (.pop, 1) := by decide +kernel
theorem dX3_enter_21 : decode cX3_enter 21 = .ok (.return_, 1) := by decide +kernel
def ch_wsX3_openLine : List (List Cond) := [wsX3_openLine_r1, wsX3_openLine_r2, wsX3_openLine_r3, wsX3_openLine_r4, wsX3_openLine_r5, wsX50, wsX30, wsX00, wsJx4a65c0, wsX60]
theorem chm_wsX3_openLine : ∀ c ∈ ch_wsX3_openLine, ∀ w ∈ c, w ∈ wsX3_openLine := List.forall_mem_cons.mpr ⟨(fun w h => (List.mem_cons_of_mem _ (List.mem_append_left _ (List.mem_append_left _ (List.mem_append_left _ (List.mem_append_left _ (List.mem_append_left _ (List.mem_append_left _ h)))))))), List.forall_mem_cons.mpr ⟨(fun w h => (List.mem_cons_of_mem _ (List.mem_append_left _ (List.mem_append_left _ (List.mem_append_left _ (List.mem_append_left _ (List.mem_append_left _ (List.mem_append_right _ (List.mem_append_left _ h))))))))), List.forall_mem_cons.mpr ⟨(fun w h => (List.mem_cons_of_mem _ (List.mem_append_left _ (List.mem_append_left _ (List.mem_append_left _ (List.mem_append_left _ (List.mem_append_left _ (List.mem_append_right _ (List.mem_append_right _ (List.mem_append_left _ h)))))))))), List.forall_mem_cons.mpr ⟨(fun w h => (List.mem_cons_of_mem _ (List.mem_append_left _ (List.mem_append_left _ (List.mem_append_left _ (List.mem_append_left _ (List.mem_append_left _ (List.mem_append_right _ (List.mem_append_right _ (List.mem_append_right _ (List.mem_append_left _ h))))))))))), List.forall_mem_cons.mpr ⟨(fun w h => (List.mem_cons_of_mem _ (List.mem_append_left _ (List.mem_append_left _ (List.mem_append_left _ (List.mem_append_left _ (List.mem_append_left _ (List.mem_append_right _ (List.mem_append_right _ (List.mem_append_right _ (List.mem_append_right _ h))))))))))), List.forall_mem_cons.mpr ⟨(fun w h => (List.mem_cons_of_mem _ (List.mem_append_left _ (List.mem_append_left _ (List.mem_append_left _ (List.mem_append_left _ (List.mem_append_right _ h))))))), List.forall_mem_cons.mpr ⟨(fun w h => (List.mem_cons_of_mem _ (List.mem_append_left _ (List.mem_append_left _ (List.mem_append_left _ (List.mem_append_right _ h)))))), List.forall_mem_cons.mpr ⟨(fun w h => (List.mem_cons_of_mem _ (List.mem_append_left _ (List.mem_append_left _ (List.mem_append_right _ h))))), List.forall_mem_cons.mpr ⟨(fun w h => (List.mem_cons_of_mem _ (List.mem_append_left _ (List.mem_append_right _ h)))), List.forall_mem_cons.mpr ⟨(fun w h => (List.mem_cons_of_mem _ (List.mem_append_right _ h))), fun _ h => absurd h List.not_mem_nil⟩⟩⟩⟩⟩⟩⟩⟩⟩⟩
set_option maxRecDepth 100000 in
set_option maxHeartbeats 4000000 in
theorem ggX3_openLine_X5_init : GoodIn wsX3_openLine wsX5_init := goodIn_k ch_wsX3_openLine chm_wsX3_openLine _ [(0, 7), (0, 8), (0, 9), (0, 10), (0, 11), (0, 12), (0, 13), (5, 0), (5, 1), (5, 2), (5, 3), (5, 4), (5, 5), (5, 6), (5, 7), (5, 8)] (by rfl) (by decide +kernel)
set_option maxRecDepth 20000 in
theorem gX3_openLine_X5_init : GoodIn wsX3_openLine (wsX5_init) := ggX3_openLine_X5_init
set_option maxRecDepth 100000 in
set_option maxHeartbeats 4000000 in
theorem ggX3_openLine_Jx4a65c_add_9ea2d : GoodIn wsX3_openLine wsJx4a65c_add_9ea2d := goodIn_k ch_wsX3_openLine chm_wsX3_openLine _ [(0, 18), (0, 19), (0, 20), (0, 21), (0, 22), (0, 23), (1, 0), (1, 1), (0, 17), (1, 2), (1, 3), (1, 4), (1, 5), (1, 6), (1, 7), (1, 8), (1, 9), (1, 10), (1, 11), (1, 12), (1, 13), (1, 14), (1, 15), (1, 16), (1, 17), (1, 18), (1, 19), (1, 20), (1, 21), (1, 22), (1, 23), (2, 0), (2, 1), (2, 2), (2, 3), (2, 4), (2, 5), (2, 6), (2, 7), (2, 8), (2, 9), (2, 10), (2, 11), (2, 12), (2, 13), (2, 14), (2, 15), (2, 16), (2, 17), (2, 18), (2, 19), (2, 20), (2, 21), (8, 0), (8, 1), (8, 2)] (by rfl) (by decide +kernel)
set_option maxRecDepth 20000 in
theorem gX3_openLine_Jx4a65c_add_9ea2d : GoodIn wsX3_openLine (wsV RX3 42 RJx4a65c yJx4a65c_add_9ea2d wsJx4a65c_add_9ea2d) := goodIn_app (goodIn_of _ (by decide +kernel)) ggX3_openLine_Jx4a65c_add_9ea2d
set_option maxRecDepth 100000 in
set_option maxHeartbeats 4000000 in
theorem ggX3_openLine_X6_rank : GoodIn wsX3_openLine wsX6_rank := goodIn_k ch_wsX3_openLine chm_wsX3_openLine _ [(3, 2), (3, 3), (3, 4), (3, 5), (3, 6), (3, 7), (3, 8), (0, 17), (3, 9), (0, 22), (3, 10), (3, 11), (3, 12), (3, 13), (3, 14), (3, 15), (3, 16), (3, 17), (3, 18), (3, 19), (3, 20), (3, 21), (3, 22), (3, 23), (4, 0), (4, 1), (0, 21), (4, 2), (4, 3), (4, 4), (4, 5), (0, 19), (0, 20), (4, 6), (2, 19), (2, 20), (2, 21), (4, 7), (4, 8), (4, 9), (4, 10), (1, 3), (1, 4), (1, 5), (1, 6), (1, 7), (1, 8), (1, 9), (1, 10), (1, 11), (1, 12), (1, 13), (1, 14), (1, 15), (1, 16), (1, 17), (1, 18), (1, 19), (1, 20), (1, 21), (1, 22), (1, 23), (2, 0), (2, 1), (2, 2), (2, 3), (2, 4), (2, 5), (2, 6), (2, 7), (2, 8), (2, 9), (2, 10), (2, 11), (2, 12), (2, 13), (2, 14), (2, 15), (2, 16), (2, 17), (2, 18), (9, 0), (9, 1), (9, 2), (9, 3), (9, 4), (5, 0), (5, 1), (5, 2), (5, 3), (5, 4), (5, 5), (5, 6), (5, 7), (5, 8), (8, 0), (8, 1), (8, 2)] (by rfl) (by decide +kernel)
set_option maxRecDepth 20000 in
theorem gX3_openLine_X6_rank : GoodIn wsX3_openLine (wsV RX3 79 RX6 yX6_rank wsX6_rank) := goodIn_app (goodIn_of _ (by decide +kernel)) ggX3_openLine_X6_rank
set_option maxRecDepth 100000 in
set_option maxHeartbeats 4000000 in
theorem ggX3_openLine_Jx4a65c_size_8abf5 : GoodIn wsX3_openLine wsJx4a65c_size_8abf5 := goodIn_k ch_wsX3_openLine chm_wsX3_openLine _ [(3, 9), (0, 22), (8, 0), (8, 1), (8, 2)] (by rfl) (by decide +kernel)
set_option maxRecDepth 20000 in
theorem gX3_openLine_Jx4a65c_size_8abf5 : GoodIn wsX3_openLine (wsV RX3 46 RJx4a65c yJx4a65c_size_8abf5 wsJx4a65c_size_8abf5) := goodIn_app (goodIn_of _ (by decide +kernel)) ggX3_openLine_Jx4a65c_size_8abf5
theorem dX3_openLine_0 : decode cX3_openLine 0 = .ok (.new 74, 3) := by decide +kernel
theorem dX3_openLine_3 : decode cX3_openLine 3 = .ok (.dup, 1) := by decide +kernel
theorem dX3_openLine_4 : decode cX3_openLine 4 = .ok (.aload_n 1, 1) := by decide +kernel
theorem dX3_openLine_5 : decode cX3_openLine 5 = .ok (.iload_n 2, 1) := by decide +kernel
theorem dX3_openLine_6 : decode cX3_openLine 6 = .ok (.iload_n 3, 1) := by decide +kernel
theorem dX3_openLine_7 : decode cX3_openLine 7 = .ok (.invokespecial 76, 3) := by decide +kernel
theorem dX3_openLine_10 : decode cX3_openLine 10 = .ok (.astore 4, 2) := by decide +kernel
theorem dX3_openLine_12 : decode cX3_openLine 12 = .ok (.aload_n 0, 1) := by decide +kernel
theorem dX3_openLine_13 : decode cX3_openLine 13 = .ok (.getfield 21, 3) := by decide +kernel
theorem dX3_openLine_16 : decode cX3_openLine 16 = .ok (.aload 4, 2) := by decide +kernel
theorem dX3_openLine_18 : decode cX3_openLine 18 = .ok (.invokevirtual 42, 3) := by decide +kernel
theorem dX3_openLine_21 : decode cX3_openLine 21 = .ok (.pop, 1) := by decide +kernel
theorem dX3_openLine_22 : decode cX3_openLine 22 = .ok (.aload_n 1, 1) := by decide +kernel
theorem dX3_openLine_23 : decode cX3_openLine 23 = .ok (.getfield 64, 3) := by decide +kernel
theorem dX3_openLine_26 : decode cX3_openLine 26 = .ok (.aload 4, 2) := by decide +kernel
theorem dX3_openLine_28 : decode cX3_openLine 28 = .ok (.invokevirtual 79, 3) := by decide +kernel
theorem dX3_openLine_31 : decode cX3_openLine 31 = .ok (.aload_n 0, 1) := by decide +kernel
theorem dX3_openLine_32 : decode cX3_openLine 32 = .ok (.getfield 21, 3) := by decide +kernel
theorem dX3_openLine_35 : decode cX3_openLine 35 = .ok (.invokevirtual 46, 3) := by decide +kernel
theorem dX3_openLine_38 : decode cX3_openLine 38 = .ok (.iconst 1, 1) := by decide +kernel
theorem dX3_openLine_39 : decode cX3_openLine 39 = .ok (.isub, 1) := by decide +kernel
theorem dX3_openLine_40 : decode cX3_openLine 40 = .ok (.ireturn, 1) := by decide +kernel
def ch_wsX3_passDay : List (List Cond) := [wsX3_passDay_r1, wsX3_passDay_r2, wsX3_passDay_r3, wsX3_passDay_r4, wsX3_passDay_r5, wsX3_passDay_r6, wsX3_passDay_r7, wsX3_passDay_r8, wsX3_passDay_r9, wsX3_passDay_r10, wsX30, wsX20, wsJx4a65c0, wsX40, wsX00, wsX60, wsX50, wsX10, wsX70]
theorem chm_wsX3_passDay : ∀ c ∈ ch_wsX3_passDay, ∀ w ∈ c, w ∈ wsX3_passDay := List.forall_mem_cons.mpr ⟨(fun w h => (List.mem_cons_of_mem _ (List.mem_append_left _ (List.mem_append_left _ (List.mem_append_left _ (List.mem_append_left _ (List.mem_append_left _ (List.mem_append_left _ (List.mem_append_left _ (List.mem_append_left _ (List.mem_append_left _ (List.mem_append_left _ h)))))))))))), List.forall_mem_cons.mpr ⟨(fun w h => (List.mem_cons_of_mem _ (List.mem_append_left _ (List.mem_append_left _ (List.mem_append_left _ (List.mem_append_left _ (List.mem_append_left _ (List.mem_append_left _ (List.mem_append_left _ (List.mem_append_left _ (List.mem_append_left _ (List.mem_append_right _ (List.mem_append_left _ h))))))))))))), List.forall_mem_cons.mpr ⟨(fun w h => (List.mem_cons_of_mem _ (List.mem_append_left _ (List.mem_append_left _ (List.mem_append_left _ (List.mem_append_left _ (List.mem_append_left _ (List.mem_append_left _ (List.mem_append_left _ (List.mem_append_left _ (List.mem_append_left _ (List.mem_append_right _ (List.mem_append_right _ (List.mem_append_left _ h)))))))))))))), List.forall_mem_cons.mpr ⟨(fun w h => (List.mem_cons_of_mem _ (List.mem_append_left _ (List.mem_append_left _ (List.mem_append_left _ (List.mem_append_left _ (List.mem_append_left _ (List.mem_append_left _ (List.mem_append_left _ (List.mem_append_left _ (List.mem_append_left _ (List.mem_append_right _ (List.mem_append_right _ (List.mem_append_right _ (List.mem_append_left _ h))))))))))))))), List.forall_mem_cons.mpr ⟨(fun w h => (List.mem_cons_of_mem _ (List.mem_append_left _ (List.mem_append_left _ (List.mem_append_left _ (List.mem_append_left _ (List.mem_append_left _ (List.mem_append_left _ (List.mem_append_left _ (List.mem_append_left _ (List.mem_append_left _ (List.mem_append_right _ (List.mem_append_right _ (List.mem_append_right _ (List.mem_append_right _ (List.mem_append_left _ h)))))))))))))))), List.forall_mem_cons.mpr ⟨(fun w h => (List.mem_cons_of_mem _ (List.mem_append_left _ (List.mem_append_left _ (List.mem_append_left _ (List.mem_append_left _ (List.mem_append_left _ (List.mem_append_left _ (List.mem_append_left _ (List.mem_append_left _ (List.mem_append_left _ (List.mem_append_right _ (List.mem_append_right _ (List.mem_append_right _ (List.mem_append_right _ (List.mem_append_right _ (List.mem_append_left _ h))))))))))))))))), List.forall_mem_cons.mpr ⟨(fun w h => (List.mem_cons_of_mem _ (List.mem_append_left _ (List.mem_append_left _ (List.mem_append_left _ (List.mem_append_left _ (List.mem_append_left _ (List.mem_append_left _ (List.mem_append_left _ (List.mem_append_left _ (List.mem_append_left _ (List.mem_append_right _ (List.mem_append_right _ (List.mem_append_right _ (List.mem_append_right _ (List.mem_append_right _ (List.mem_append_right _ (List.mem_append_left _ h)))))))))))))))))), List.forall_mem_cons.mpr ⟨(fun w h => (List.mem_cons_of_mem _ (List.mem_append_left _ (List.mem_append_left _ (List.mem_append_left _ (List.mem_append_left _ (List.mem_append_left _ (List.mem_append_left _ (List.mem_append_left _ (List.mem_append_left _ (List.mem_append_left _ (List.mem_append_right _ (List.mem_append_right _ (List.mem_append_right _ (List.mem_append_right _ (List.mem_append_right _ (List.mem_append_right _ (List.mem_append_right _ (List.mem_append_left _ h))))))))))))))))))), List.forall_mem_cons.mpr ⟨(fun w h => (List.mem_cons_of_mem _ (List.mem_append_left _ (List.mem_append_left _ (List.mem_append_left _ (List.mem_append_left _ (List.mem_append_left _ (List.mem_append_left _ (List.mem_append_left _ (List.mem_append_left _ (List.mem_append_left _ (List.mem_append_right _ (List.mem_append_right _ (List.mem_append_right _ (List.mem_append_right _ (List.mem_append_right _ (List.mem_append_right _ (List.mem_append_right _ (List.mem_append_right _ (List.mem_append_left _ h)))))))))))))))))))), List.forall_mem_cons.mpr ⟨(fun w h => (List.mem_cons_of_mem _ (List.mem_append_left _ (List.mem_append_left _ (List.mem_append_left _ (List.mem_append_left _ (List.mem_append_left _ (List.mem_append_left _ (List.mem_append_left _ (List.mem_append_left _ (List.mem_append_left _ (List.mem_append_right _ (List.mem_append_right _ (List.mem_append_right _ (List.mem_append_right _ (List.mem_append_right _ (List.mem_append_right _ (List.mem_append_right _ (List.mem_append_right _ (List.mem_append_right _ h)))))))))))))))))))), List.forall_mem_cons.mpr ⟨(fun w h => (List.mem_cons_of_mem _ (List.mem_append_left _ (List.mem_append_left _ (List.mem_append_left _ (List.mem_append_left _ (List.mem_append_left _ (List.mem_append_left _ (List.mem_append_left _ (List.mem_append_left _ (List.mem_append_right _ h))))))))))), List.forall_mem_cons.mpr ⟨(fun w h => (List.mem_cons_of_mem _ (List.mem_append_left _ (List.mem_append_left _ (List.mem_append_left _ (List.mem_append_left _ (List.mem_append_left _ (List.mem_append_left _ (List.mem_append_left _ (List.mem_append_right _ h)))))))))), List.forall_mem_cons.mpr ⟨(fun w h => (List.mem_cons_of_mem _ (List.mem_append_left _ (List.mem_append_left _ (List.mem_append_left _ (List.mem_append_left _ (List.mem_append_left _ (List.mem_append_left _ (List.mem_append_right _ h))))))))), List.forall_mem_cons.mpr ⟨(fun w h => (List.mem_cons_of_mem _ (List.mem_append_left _ (List.mem_append_left _ (List.mem_append_left _ (List.mem_append_left _ (List.mem_append_left _ (List.mem_append_right _ h)))))))), List.forall_mem_cons.mpr ⟨(fun w h => (List.mem_cons_of_mem _ (List.mem_append_left _ (List.mem_append_left _ (List.mem_append_left _ (List.mem_append_left _ (List.mem_append_right _ h))))))), List.forall_mem_cons.mpr ⟨(fun w h => (List.mem_cons_of_mem _ (List.mem_append_left _ (List.mem_append_left _ (List.mem_append_left _ (List.mem_append_right _ h)))))), List.forall_mem_cons.mpr ⟨(fun w h => (List.mem_cons_of_mem _ (List.mem_append_left _ (List.mem_append_left _ (List.mem_append_right _ h))))), List.forall_mem_cons.mpr ⟨(fun w h => (List.mem_cons_of_mem _ (List.mem_append_left _ (List.mem_append_right _ h)))), List.forall_mem_cons.mpr ⟨(fun w h => (List.mem_cons_of_mem _ (List.mem_append_right _ h))), fun _ h => absurd h List.not_mem_nil⟩⟩⟩⟩⟩⟩⟩⟩⟩⟩⟩⟩⟩⟩⟩⟩⟩⟩⟩
set_option maxRecDepth 100000 in
set_option maxHeartbeats 4000000 in
theorem ggX3_passDay_X2_settles : GoodIn wsX3_passDay wsX2_settles := goodIn_k ch_wsX3_passDay chm_wsX3_passDay _ [(0, 6), (0, 7), (11, 0)] (by rfl) (by decide +kernel)
set_option maxRecDepth 20000 in
theorem gX3_passDay_X2_settles : GoodIn wsX3_passDay (wsV RX3 87 RX2 yX2_settles wsX2_settles) := goodIn_app (goodIn_of _ (by decide +kernel)) ggX3_passDay_X2_settles
set_option maxRecDepth 100000 in
set_option maxHeartbeats 4000000 in
theorem ggX3_passDay_X3_bookDueFlows : GoodIn wsX3_passDay wsX3_bookDueFlows := goodIn_k ch_wsX3_passDay chm_wsX3_passDay _ [(0, 12), (0, 13), (0, 14), (0, 1), (0, 15), (0, 16), (0, 17), (0, 18), (0, 19), (0, 20), (0, 21), (0, 22), (0, 23), (1, 0), (1, 1), (1, 2), (1, 3), (1, 4), (1, 5), (1, 6), (1, 7), (1, 8), (1, 9), (1, 10), (1, 11), (1, 12), (1, 13), (1, 14), (1, 15), (1, 16), (1, 17), (1, 18), (1, 19), (1, 20), (1, 21), (1, 22), (1, 23), (2, 0), (10, 0), (10, 1), (10, 2), (10, 3), (10, 4), (10, 5), (10, 6), (10, 7), (12, 0), (12, 1), (12, 2), (13, 0), (13, 1), (13, 2), (13, 3), (13, 4), (13, 5), (13, 6), (14, 0), (14, 1), (14, 2), (14, 3), (14, 4), (14, 5), (14, 6), (14, 7), (14, 8), (14, 9), (14, 10), (14, 11)] (by rfl) (by decide +kernel)
set_option maxRecDepth 20000 in
theorem gX3_passDay_X3_bookDueFlows : GoodIn wsX3_passDay (wsV RX3 91 RX3 yX3_bookDueFlows wsX3_bookDueFlows) := goodIn_app (goodIn_of _ (by decide +kernel)) ggX3_passDay_X3_bookDueFlows
set_option maxRecDepth 100000 in
set_option maxHeartbeats 4000000 in
theorem ggX3_passDay_X3_sweepPools : GoodIn wsX3_passDay wsX3_sweepPools := goodIn_k ch_wsX3_passDay chm_wsX3_passDay _ [(2, 4), (2, 5), (2, 6), (0, 15), (0, 16), (0, 17), (0, 18), (0, 19), (0, 20), (0, 21), (0, 22), (0, 23), (1, 0), (1, 1), (1, 2), (1, 3), (1, 4), (1, 5), (1, 6), (1, 7), (1, 8), (1, 9), (1, 10), (1, 11), (1, 12), (1, 13), (2, 7), (2, 8), (2, 9), (2, 10), (2, 11), (2, 12), (2, 13), (2, 14), (2, 15), (2, 16), (2, 17), (2, 18), (2, 19), (2, 20), (2, 21), (2, 22), (2, 23), (3, 0), (3, 1), (3, 2), (3, 3), (3, 4), (3, 5), (3, 6), (3, 7), (3, 8), (3, 9), (3, 10), (3, 11), (3, 12), (3, 13), (3, 14), (3, 15), (3, 16), (3, 17), (3, 18), (10, 0), (10, 1), (10, 2), (10, 3), (10, 4), (10, 5), (10, 6), (10, 7), (12, 0), (12, 1), (12, 2), (14, 0), (14, 1), (14, 2), (14, 3), (14, 4), (14, 5), (14, 6), (14, 7), (14, 8), (14, 9), (14, 10), (14, 11)] (by rfl) (by decide +kernel)
set_option maxRecDepth 20000 in
theorem gX3_passDay_X3_sweepPools : GoodIn wsX3_passDay (wsV RX3 94 RX3 yX3_sweepPools wsX3_sweepPools) := goodIn_app (goodIn_of _ (by decide +kernel)) ggX3_passDay_X3_sweepPools
set_option maxRecDepth 100000 in
set_option maxHeartbeats 4000000 in
theorem ggX3_passDay_X3_coverPools : GoodIn wsX3_passDay wsX3_coverPools := goodIn_k ch_wsX3_passDay chm_wsX3_passDay _ [(3, 22), (2, 5), (2, 6), (3, 23), (0, 15), (0, 16), (0, 17), (0, 18), (0, 19), (0, 20), (0, 21), (0, 22), (0, 23), (1, 0), (1, 1), (1, 2), (1, 3), (1, 4), (1, 5), (1, 6), (1, 7), (1, 8), (1, 9), (1, 10), (1, 11), (1, 12), (1, 13), (4, 0), (4, 1), (4, 2), (4, 3), (4, 4), (4, 5), (4, 6), (4, 7), (4, 8), (2, 18), (2, 19), (2, 20), (4, 9), (4, 10), (4, 11), (3, 9), (3, 10), (4, 12), (4, 13), (4, 14), (4, 15), (4, 16), (4, 17), (10, 0), (10, 1), (10, 2), (10, 3), (10, 4), (10, 5), (10, 6), (10, 7), (14, 0), (14, 1), (14, 2), (14, 3), (14, 4), (14, 5), (14, 6), (14, 7), (14, 8), (14, 9), (14, 10), (14, 11), (12, 0), (12, 1), (12, 2), (15, 0), (15, 1), (15, 2), (15, 3), (15, 4), (16, 0), (16, 1), (16, 2), (16, 3), (16, 4), (16, 5), (16, 6), (16, 7), (16, 8)] (by rfl) (by decide +kernel)
set_option maxRecDepth 20000 in
theorem gX3_passDay_X3_coverPools : GoodIn wsX3_passDay (wsV RX3 97 RX3 yX3_coverPools wsX3_coverPools) := goodIn_app (goodIn_of _ (by decide +kernel)) ggX3_passDay_X3_coverPools
set_option maxRecDepth 100000 in
set_option maxHeartbeats 4000000 in
theorem ggX3_passDay_X3_easeBanks : GoodIn wsX3_passDay wsX3_easeBanks := goodIn_k ch_wsX3_passDay chm_wsX3_passDay _ [(4, 21), (4, 22), (4, 23), (5, 0), (5, 1), (0, 11), (5, 2), (5, 3), (5, 4), (5, 5), (5, 6), (2, 6), (5, 7), (5, 8), (5, 9), (2, 18), (2, 19), (2, 20), (0, 15), (0, 16), (0, 17), (0, 18), (0, 19), (0, 20), (0, 21), (0, 22), (0, 23), (1, 0), (1, 1), (1, 2), (1, 3), (1, 4), (1, 5), (1, 6), (1, 7), (1, 8), (1, 9), (1, 10), (1, 11), (1, 12), (1, 13), (5, 10), (5, 11), (5, 12), (5, 13), (3, 23), (5, 14), (5, 15), (5, 16), (5, 17), (5, 18), (5, 19), (5, 20), (5, 21), (5, 22), (5, 23), (6, 0), (6, 1), (6, 2), (6, 3), (6, 4), (6, 5), (6, 6), (6, 7), (6, 8), (6, 9), (6, 10), (6, 11), (6, 12), (6, 13), (6, 14), (3, 9), (3, 10), (10, 0), (10, 1), (10, 2), (10, 3), (10, 4), (10, 5), (10, 6), (10, 7), (17, 0), (17, 1), (17, 2), (14, 0), (14, 1), (14, 2), (14, 3), (14, 4), (14, 5), (14, 6), (14, 7), (14, 8), (14, 9), (14, 10), (14, 11), (12, 0), (12, 1), (12, 2), (15, 0), (15, 1), (15, 2), (15, 3), (15, 4)] (by rfl) (by decide +kernel)
set_option maxRecDepth 20000 in
theorem gX3_passDay_X3_easeBanks : GoodIn wsX3_passDay (wsV RX3 100 RX3 yX3_easeBanks wsX3_easeBanks) := goodIn_app (goodIn_of _ (by decide +kernel)) ggX3_passDay_X3_easeBanks
set_option maxRecDepth 100000 in
set_option maxHeartbeats 4000000 in
theorem ggX3_passDay_X3_accrueInterest : GoodIn wsX3_passDay wsX3_accrueInterest := goodIn_k ch_wsX3_passDay chm_wsX3_passDay _ [(6, 18), (2, 5), (2, 6), (3, 23), (6, 19), (6, 20), (0, 15), (0, 16), (0, 17), (0, 18), (0, 19), (0, 20), (0, 21), (0, 22), (0, 23), (1, 0), (1, 1), (1, 2), (1, 3), (1, 4), (1, 5), (1, 6), (1, 7), (1, 8), (1, 9), (1, 10), (1, 11), (1, 12), (1, 13), (6, 21), (6, 22), (6, 23), (4, 3), (7, 0), (7, 1), (7, 2), (4, 7), (7, 3), (7, 4), (4, 12), (4, 13), (7, 5), (7, 6), (7, 7), (7, 8), (7, 9), (7, 10), (7, 11), (7, 12), (7, 13), (7, 14), (7, 15), (7, 16), (2, 18), (2, 19), (2, 20), (7, 17), (7, 18), (7, 19), (7, 20), (7, 21), (7, 22), (7, 23), (8, 0), (8, 1), (8, 2), (10, 0), (10, 1), (10, 2), (10, 3), (10, 4), (10, 5), (10, 6), (10, 7), (14, 0), (14, 1), (14, 2), (14, 3), (14, 4), (14, 5), (14, 6), (14, 7), (14, 8), (14, 9), (14, 10), (14, 11), (12, 0), (12, 1), (12, 2), (15, 0), (15, 1), (15, 2), (15, 3), (15, 4), (18, 0), (18, 1), (18, 2), (18, 3), (18, 4), (18, 5), (18, 6), (18, 7), (18, 8), (18, 9), (16, 0), (16, 1), (16, 2), (16, 3), (16, 4), (16, 5), (16, 6), (16, 7), (16, 8)] (by rfl) (by decide +kernel)
set_option maxRecDepth 20000 in
theorem gX3_passDay_X3_accrueInterest : GoodIn wsX3_passDay (wsV RX3 103 RX3 yX3_accrueInterest wsX3_accrueInterest) := goodIn_app (goodIn_of _ (by decide +kernel)) ggX3_passDay_X3_accrueInterest
set_option maxRecDepth 100000 in
set_option maxHeartbeats 4000000 in
theorem ggX3_passDay_X3_bookInterest : GoodIn wsX3_passDay wsX3_bookInterest := goodIn_k ch_wsX3_passDay chm_wsX3_passDay _ [(8, 6), (2, 5), (2, 6), (3, 23), (6, 19), (6, 20), (0, 15), (0, 16), (0, 17), (0, 18), (0, 19), (0, 20), (0, 21), (0, 22), (0, 23), (1, 0), (1, 1), (1, 2), (1, 3), (1, 4), (1, 5), (1, 6), (1, 7), (1, 8), (1, 9), (1, 10), (1, 11), (1, 12), (1, 13), (8, 7), (8, 8), (8, 9), (4, 3), (8, 10), (7, 3), (7, 1), (7, 4), (8, 11), (8, 12), (8, 13), (7, 8), (8, 14), (7, 11), (8, 15), (8, 16), (7, 13), (7, 14), (7, 10), (8, 17), (8, 18), (8, 19), (8, 20), (8, 21), (8, 22), (8, 23), (9, 0), (9, 1), (9, 2), (9, 3), (7, 17), (7, 18), (9, 4), (9, 5), (9, 6), (3, 3), (9, 7), (9, 8), (9, 9), (9, 10), (9, 11), (9, 12), (7, 22), (9, 13), (8, 0), (9, 14), (9, 15), (9, 16), (9, 17), (10, 0), (10, 1), (10, 2), (10, 3), (10, 4), (10, 5), (10, 6), (10, 7), (14, 0), (14, 1), (14, 2), (14, 3), (14, 4), (14, 5), (14, 6), (14, 7), (14, 8), (14, 9), (14, 10), (14, 11), (12, 0), (12, 1), (12, 2), (15, 0), (15, 1), (15, 2), (15, 3), (15, 4), (18, 0), (18, 1), (18, 2), (18, 3), (18, 4), (18, 5), (18, 6), (18, 7), (18, 8), (18, 9), (16, 0), (16, 1), (16, 2), (16, 3), (16, 4), (16, 5), (16, 6), (16, 7), (16, 8)] (by rfl) (by decide +kernel)
set_option maxRecDepth 20000 in
theorem gX3_passDay_X3_bookInterest : GoodIn wsX3_passDay (wsV RX3 106 RX3 yX3_bookInterest wsX3_bookInterest) := goodIn_app (goodIn_of _ (by decide +kernel)) ggX3_passDay_X3_bookInterest
theorem dX3_passDay_0 : decode cX3_passDay 0 = .ok (.aload_n 0, 1) := by decide +kernel
theorem dX3_passDay_1 : decode cX3_passDay 1 = .ok (.getfield 33, 3) := by decide +kernel
theorem dX3_passDay_4 : decode cX3_passDay 4 = .ok (.aload_n 0, 1) := by decide +kernel
theorem dX3_passDay_5 : decode cX3_passDay 5 = .ok (.getfield 83, 3) := by decide +kernel
theorem dX3_passDay_8 : decode cX3_passDay 8 = .ok (.invokevirtual 87, 3) := by decide +kernel
theorem dX3_passDay_11 : decode cX3_passDay 11 = .ok (.ifCond .eq 19, 3) := by decide +kernel
theorem dX3_passDay_14 : decode cX3_passDay 14 = .ok (.aload_n 0, 1) := by decide +kernel
theorem dX3_passDay_15 : decode cX3_passDay 15 = .ok (.invokevirtual 91, 3) := by decide +kernel
theorem dX3_passDay_18 : decode cX3_passDay 18 = .ok (.aload_n 0, 1) := by decide +kernel
theorem dX3_passDay_19 : decode cX3_passDay 19 = .ok (.invokevirtual 94, 3) := by decide +kernel
theorem dX3_passDay_22 : decode cX3_passDay 22 = .ok (.aload_n 0, 1) := by decide +kernel
theorem dX3_passDay_23 : decode cX3_passDay 23 = .ok (.invokevirtual 97, 3) := by decide +kernel
theorem dX3_passDay_26 : decode cX3_passDay 26 = .ok (.aload_n 0, 1) := by decide +kernel
theorem dX3_passDay_27 : decode cX3_passDay 27 = .ok (.invokevirtual 100, 3) := by decide +kernel
theorem dX3_passDay_30 : decode cX3_passDay 30 = .ok (.aload_n 0, 1) := by decide +kernel
theorem dX3_passDay_31 : decode cX3_passDay 31 = .ok (.invokevirtual 103, 3) := by decide +kernel
theorem dX3_passDay_34 : decode cX3_passDay 34 = .ok (.aload_n 0, 1) := by decide +kernel
theorem dX3_passDay_35 : decode cX3_passDay 35 = .ok (.getfield 83, 3) := by decide +kernel
theorem dX3_passDay_38 : decode cX3_passDay 38 = .ok (.iconst 1, 1) := by decide +kernel
theorem dX3_passDay_39 : decode cX3_passDay 39 = .ok (.iadd, 1) := by decide +kernel
theorem dX3_passDay_40 : decode cX3_passDay 40 = .ok (.bipush 20, 2) := by decide +kernel
theorem dX3_passDay_42 : decode cX3_passDay 42 = .ok (.irem, 1) := by decide +kernel
theorem dX3_passDay_43 : decode cX3_passDay 43 = .ok (.ifCond .ne 7, 3) := by decide +kernel
theorem dX3_passDay_46 : decode cX3_passDay 46 = .ok (.aload_n 0, 1) := by decide +kernel
theorem dX3_passDay_47 : decode cX3_passDay 47 = .ok (.invokevirtual 106, 3) := by decide +kernel
theorem dX3_passDay_50 : decode cX3_passDay 50 = .ok (.aload_n 0, 1) := by decide +kernel
theorem dX3_passDay_51 : decode cX3_passDay 51 = .ok (.dup, 1) := by decide +kernel
theorem dX3_passDay_52 : decode cX3_passDay 52 = .ok (.getfield 83, 3) := by decide +kernel
theorem dX3_passDay_55 : decode cX3_passDay 55 = .ok (.iconst 1, 1) := by decide +kernel
theorem dX3_passDay_56 : decode cX3_passDay 56 = .ok (.iadd, 1) := by decide +kernel
theorem dX3_passDay_57 : decode cX3_passDay 57 = .ok (.putfield 83, 3) := by decide +kernel
theorem dX3_passDay_60 : decode cX3_passDay 60 = .ok (.return_, 1) := by decide +kernel
def ch_wsX3_bookDueFlows : List (List Cond) := [wsX3_bookDueFlows_r1, wsX3_bookDueFlows_r2, wsX30, wsJx4a65c0, wsX40, wsX00]
theorem chm_wsX3_bookDueFlows : ∀ c ∈ ch_wsX3_bookDueFlows, ∀ w ∈ c, w ∈ wsX3_bookDueFlows := List.forall_mem_cons.mpr ⟨(fun w h => (List.mem_cons_of_mem _ (List.mem_append_left _ (List.mem_append_left _ (List.mem_append_left _ (List.mem_append_left _ (List.mem_append_left _ h))))))), List.forall_mem_cons.mpr ⟨(fun w h => (List.mem_cons_of_mem _ (List.mem_append_left _ (List.mem_append_left _ (List.mem_append_left _ (List.mem_append_left _ (List.mem_append_right _ h))))))), List.forall_mem_cons.mpr ⟨(fun w h => (List.mem_cons_of_mem _ (List.mem_append_left _ (List.mem_append_left _ (List.mem_append_left _ (List.mem_append_right _ h)))))), List.forall_mem_cons.mpr ⟨(fun w h => (List.mem_cons_of_mem _ (List.mem_append_left _ (List.mem_append_left _ (List.mem_append_right _ h))))), List.forall_mem_cons.mpr ⟨(fun w h => (List.mem_cons_of_mem _ (List.mem_append_left _ (List.mem_append_right _ h)))), List.forall_mem_cons.mpr ⟨(fun w h => (List.mem_cons_of_mem _ (List.mem_append_right _ h))), fun _ h => absurd h List.not_mem_nil⟩⟩⟩⟩⟩⟩
set_option maxRecDepth 100000 in
set_option maxHeartbeats 4000000 in
theorem ggX3_bookDueFlows_Jx4a65c_size_8abf5 : GoodIn wsX3_bookDueFlows wsJx4a65c_size_8abf5 := goodIn_k ch_wsX3_bookDueFlows chm_wsX3_bookDueFlows _ [(0, 7), (0, 8), (3, 0), (3, 1), (3, 2)] (by rfl) (by decide +kernel)
set_option maxRecDepth 20000 in
theorem gX3_bookDueFlows_Jx4a65c_size_8abf5 : GoodIn wsX3_bookDueFlows (wsV RX3 46 RJx4a65c yJx4a65c_size_8abf5 wsJx4a65c_size_8abf5) := goodIn_app (goodIn_of _ (by decide +kernel)) ggX3_bookDueFlows_Jx4a65c_size_8abf5
set_option maxRecDepth 100000 in
set_option maxHeartbeats 4000000 in
theorem ggX3_bookDueFlows_Jx4a65c_get_915e3 : GoodIn wsX3_bookDueFlows wsJx4a65c_get_915e3 := goodIn_k ch_wsX3_bookDueFlows chm_wsX3_bookDueFlows _ [(0, 12), (0, 8), (0, 13), (0, 14), (0, 15), (0, 16), (0, 17), (0, 18), (0, 19), (0, 20), (0, 21), (0, 22), (0, 23), (0, 6), (1, 0), (1, 1), (3, 0), (3, 1), (3, 2)] (by rfl) (by decide +kernel)
set_option maxRecDepth 20000 in
theorem gX3_bookDueFlows_Jx4a65c_get_915e3 : GoodIn wsX3_bookDueFlows (wsV RX3 109 RJx4a65c yJx4a65c_get_915e3 wsJx4a65c_get_915e3) := goodIn_app (goodIn_of _ (by decide +kernel)) ggX3_bookDueFlows_Jx4a65c_get_915e3
set_option maxRecDepth 100000 in
set_option maxHeartbeats 4000000 in
theorem ggX3_bookDueFlows_X4_bookUpTo : GoodIn wsX3_bookDueFlows wsX4_bookUpTo := goodIn_k ch_wsX3_bookDueFlows chm_wsX3_bookDueFlows _ [(1, 6), (1, 7), (1, 8), (1, 9), (1, 10), (1, 11), (1, 12), (4, 0), (4, 1), (4, 2), (4, 3), (4, 4), (4, 5), (4, 6), (5, 0), (5, 1), (5, 2), (5, 3), (5, 4), (5, 5), (5, 6), (5, 7), (5, 8), (5, 9), (5, 10), (5, 11)] (by rfl) (by decide +kernel)
set_option maxRecDepth 20000 in
theorem gX3_bookDueFlows_X4_bookUpTo : GoodIn wsX3_bookDueFlows (wsV RX3 115 RX4 yX4_bookUpTo wsX4_bookUpTo) := goodIn_app (goodIn_of _ (by decide +kernel)) ggX3_bookDueFlows_X4_bookUpTo
theorem dX3_bookDueFlows_0 : decode cX3_bookDueFlows 0 = .ok (.iconst 0, 1) := by decide +kernel
theorem dX3_bookDueFlows_1 : decode cX3_bookDueFlows 1 = .ok (.istore_n 1, 1) := by decide +kernel
theorem dX3_bookDueFlows_2 : decode cX3_bookDueFlows 2 = .ok (.iload_n 1, 1) := by decide +kernel
theorem dX3_bookDueFlows_3 : decode cX3_bookDueFlows 3 = .ok (.aload_n 0, 1) := by decide +kernel
theorem dX3_bookDueFlows_4 : decode cX3_bookDueFlows 4 = .ok (.getfield 24, 3) := by decide +kernel
theorem dX3_bookDueFlows_7 : decode cX3_bookDueFlows 7 = .ok (.invokevirtual 46, 3) := by decide +kernel
theorem dX3_bookDueFlows_10 : decode cX3_bookDueFlows 10 = .ok (.if_icmp .ge 27, 3) := by decide +kernel
theorem dX3_bookDueFlows_13 : decode cX3_bookDueFlows 13 = .ok (.aload_n 0, 1) := by decide +kernel
theorem dX3_bookDueFlows_14 : decode cX3_bookDueFlows 14 = .ok (.getfield 24, 3) := by decide +kernel
theorem dX3_bookDueFlows_17 : decode cX3_bookDueFlows 17 = .ok (.iload_n 1, 1) := by decide +kernel
theorem dX3_bookDueFlows_18 : decode cX3_bookDueFlows 18 = .ok (.invokevirtual 109, 3) := by decide +kernel
theorem dX3_bookDueFlows_21 : decode cX3_bookDueFlows 21 = .ok (.checkcast 113, 3) := by decide +kernel
theorem dX3_bookDueFlows_24 : decode cX3_bookDueFlows 24 = .ok (.aload_n 0, 1) := by decide +kernel
theorem dX3_bookDueFlows_25 : decode cX3_bookDueFlows 25 = .ok (.getfield 83, 3) := by decide +kernel
theorem dX3_bookDueFlows_28 : decode cX3_bookDueFlows 28 = .ok (.invokevirtual 115, 3) := by decide +kernel
theorem dX3_bookDueFlows_31 : decode cX3_bookDueFlows 31 = .ok (.iinc 1 1, 3) := by decide +kernel
theorem dX3_bookDueFlows_34 : decode cX3_bookDueFlows 34 = .ok (.goto (-32), 3) := by decide +kernel
theorem dX3_bookDueFlows_37 : decode cX3_bookDueFlows 37 = .ok (.return_, 1) := by decide +kernel
def ch_wsX3_sweepPools : List (List Cond) := [wsX3_sweepPools_r1, wsX3_sweepPools_r2, wsX3_sweepPools_r3, wsX30, wsJx4a65c0, wsX00]
theorem chm_wsX3_sweepPools : ∀ c ∈ ch_wsX3_sweepPools, ∀ w ∈ c, w ∈ wsX3_sweepPools := List.forall_mem_cons.mpr ⟨(fun w h => (List.mem_cons_of_mem _ (List.mem_append_left _ (List.mem_append_left _ (List.mem_append_left _ (List.mem_append_left _ h)))))), List.forall_mem_cons.mpr ⟨(fun w h => (List.mem_cons_of_mem _ (List.mem_append_left _ (List.mem_append_left _ (List.mem_append_left _ (List.mem_append_right _ (List.mem_append_left _ h))))))), List.forall_mem_cons.mpr ⟨(fun w h => (List.mem_cons_of_mem _ (List.mem_append_left _ (List.mem_append_left _ (List.mem_append_left _ (List.mem_append_right _ (List.mem_append_right _ h))))))), List.forall_mem_cons.mpr ⟨(fun w h => (List.mem_cons_of_mem _ (List.mem_append_left _ (List.mem_append_left _ (List.mem_append_right _ h))))), List.forall_mem_cons.mpr ⟨(fun w h => (List.mem_cons_of_mem _ (List.mem_append_left _ (List.mem_append_right _ h)))), List.forall_mem_cons.mpr ⟨(fun w h => (List.mem_cons_of_mem _ (List.mem_append_right _ h))), fun _ h => absurd h List.not_mem_nil⟩⟩⟩⟩⟩⟩
set_option maxRecDepth 100000 in
set_option maxHeartbeats 4000000 in
theorem ggX3_sweepPools_Jx4a65c_size_8abf5 : GoodIn wsX3_sweepPools wsJx4a65c_size_8abf5 := goodIn_k ch_wsX3_sweepPools chm_wsX3_sweepPools _ [(0, 6), (0, 7), (4, 0), (4, 1), (4, 2)] (by rfl) (by decide +kernel)
set_option maxRecDepth 20000 in
theorem gX3_sweepPools_Jx4a65c_size_8abf5 : GoodIn wsX3_sweepPools (wsV RX3 46 RJx4a65c yJx4a65c_size_8abf5 wsJx4a65c_size_8abf5) := goodIn_app (goodIn_of _ (by decide +kernel)) ggX3_sweepPools_Jx4a65c_size_8abf5
set_option maxRecDepth 100000 in
set_option maxHeartbeats 4000000 in
theorem ggX3_sweepPools_Jx4a65c_get_915e3 : GoodIn wsX3_sweepPools wsJx4a65c_get_915e3 := goodIn_k ch_wsX3_sweepPools chm_wsX3_sweepPools _ [(0, 11), (0, 7), (0, 12), (0, 13), (0, 14), (0, 15), (0, 16), (0, 17), (0, 18), (0, 19), (0, 20), (0, 21), (0, 22), (0, 5), (0, 23), (1, 0), (4, 0), (4, 1), (4, 2)] (by rfl) (by decide +kernel)
set_option maxRecDepth 20000 in
theorem gX3_sweepPools_Jx4a65c_get_915e3 : GoodIn wsX3_sweepPools (wsV RX3 109 RJx4a65c yJx4a65c_get_915e3 wsJx4a65c_get_915e3) := goodIn_app (goodIn_of _ (by decide +kernel)) ggX3_sweepPools_Jx4a65c_get_915e3
set_option maxRecDepth 100000 in
set_option maxHeartbeats 4000000 in
theorem ggX3_sweepPools_X8_sweep : GoodIn wsX3_sweepPools wsX8_sweep := goodIn_k ch_wsX3_sweepPools chm_wsX3_sweepPools _ [(1, 4), (1, 5), (1, 6), (1, 3), (1, 7), (1, 8), (1, 9), (1, 10), (1, 11), (1, 12), (1, 13), (1, 14), (1, 15), (1, 16), (0, 3), (0, 4), (0, 5), (0, 6), (0, 7), (1, 17), (0, 9), (0, 10), (0, 11), (0, 12), (0, 13), (0, 14), (0, 15), (0, 16), (0, 17), (0, 18), (0, 19), (0, 20), (0, 21), (0, 22), (0, 23), (1, 0), (1, 18), (1, 19), (1, 20), (1, 21), (1, 22), (1, 23), (2, 0), (2, 1), (2, 2), (2, 3), (2, 4), (2, 5), (2, 6), (2, 7), (2, 8), (2, 9), (2, 10), (2, 11), (2, 12), (5, 0), (5, 1), (5, 2), (5, 3), (5, 4), (5, 5), (5, 6), (5, 7), (5, 8), (5, 9), (5, 10), (5, 11), (4, 0), (4, 1), (4, 2)] (by rfl) (by decide +kernel)
set_option maxRecDepth 20000 in
theorem gX3_sweepPools_X8_sweep : GoodIn wsX3_sweepPools (va_wsS RX3 118 yX8_sweep wsX8_sweep) := goodIn_app (goodIn_of _ (by decide +kernel)) ggX3_sweepPools_X8_sweep
theorem dX3_sweepPools_0 : decode cX3_sweepPools 0 = .ok (.iconst 0, 1) := by decide +kernel
theorem dX3_sweepPools_1 : decode cX3_sweepPools 1 = .ok (.istore_n 1, 1) := by decide +kernel
theorem dX3_sweepPools_2 : decode cX3_sweepPools 2 = .ok (.iload_n 1, 1) := by decide +kernel
theorem dX3_sweepPools_3 : decode cX3_sweepPools 3 = .ok (.aload_n 0, 1) := by decide +kernel
theorem dX3_sweepPools_4 : decode cX3_sweepPools 4 = .ok (.getfield 18, 3) := by decide +kernel
theorem dX3_sweepPools_7 : decode cX3_sweepPools 7 = .ok (.invokevirtual 46, 3) := by decide +kernel
theorem dX3_sweepPools_10 : decode cX3_sweepPools 10 = .ok (.if_icmp .ge 23, 3) := by decide +kernel
theorem dX3_sweepPools_13 : decode cX3_sweepPools 13 = .ok (.aload_n 0, 1) := by decide +kernel
theorem dX3_sweepPools_14 : decode cX3_sweepPools 14 = .ok (.getfield 18, 3) := by decide +kernel
theorem dX3_sweepPools_17 : decode cX3_sweepPools 17 = .ok (.iload_n 1, 1) := by decide +kernel
theorem dX3_sweepPools_18 : decode cX3_sweepPools 18 = .ok (.invokevirtual 109, 3) := by decide +kernel
theorem dX3_sweepPools_21 : decode cX3_sweepPools 21 = .ok (.checkcast 55, 3) := by decide +kernel
theorem dX3_sweepPools_24 : decode cX3_sweepPools 24 = .ok (.invokestatic 118, 3) := by decide +kernel
theorem dX3_sweepPools_27 : decode cX3_sweepPools 27 = .ok (.iinc 1 1, 3) := by decide +kernel
theorem dX3_sweepPools_30 : decode cX3_sweepPools 30 = .ok (.goto (-28), 3) := by decide +kernel
theorem dX3_sweepPools_33 : decode cX3_sweepPools 33 = .ok (.return_, 1) := by decide +kernel
def ch_wsX3_coverPools : List (List Cond) := [wsX3_coverPools_r1, wsX3_coverPools_r2, wsX3_coverPools_r3, wsX30, wsX00, wsJx4a65c0, wsX60, wsX50]
theorem chm_wsX3_coverPools : ∀ c ∈ ch_wsX3_coverPools, ∀ w ∈ c, w ∈ wsX3_coverPools := List.forall_mem_cons.mpr ⟨(fun w h => (List.mem_cons_of_mem _ (List.mem_append_left _ (List.mem_append_left _ (List.mem_append_left _ (List.mem_append_left _ (List.mem_append_left _ (List.mem_append_left _ h)))))))), List.forall_mem_cons.mpr ⟨(fun w h => (List.mem_cons_of_mem _ (List.mem_append_left _ (List.mem_append_left _ (List.mem_append_left _ (List.mem_append_left _ (List.mem_append_left _ (List.mem_append_right _ (List.mem_append_left _ h))))))))), List.forall_mem_cons.mpr ⟨(fun w h => (List.mem_cons_of_mem _ (List.mem_append_left _ (List.mem_append_left _ (List.mem_append_left _ (List.mem_append_left _ (List.mem_append_left _ (List.mem_append_right _ (List.mem_append_right _ h))))))))), List.forall_mem_cons.mpr ⟨(fun w h => (List.mem_cons_of_mem _ (List.mem_append_left _ (List.mem_append_left _ (List.mem_append_left _ (List.mem_append_left _ (List.mem_append_right _ h))))))), List.forall_mem_cons.mpr ⟨(fun w h => (List.mem_cons_of_mem _ (List.mem_append_left _ (List.mem_append_left _ (List.mem_append_left _ (List.mem_append_right _ h)))))), List.forall_mem_cons.mpr ⟨(fun w h => (List.mem_cons_of_mem _ (List.mem_append_left _ (List.mem_append_left _ (List.mem_append_right _ h))))), List.forall_mem_cons.mpr ⟨(fun w h => (List.mem_cons_of_mem _ (List.mem_append_left _ (List.mem_append_right _ h)))), List.forall_mem_cons.mpr ⟨(fun w h => (List.mem_cons_of_mem _ (List.mem_append_right _ h))), fun _ h => absurd h List.not_mem_nil⟩⟩⟩⟩⟩⟩⟩⟩
set_option maxRecDepth 100000 in
set_option maxHeartbeats 4000000 in
theorem ggX3_coverPools_Jx4a65c_size_8abf5 : GoodIn wsX3_coverPools wsJx4a65c_size_8abf5 := goodIn_k ch_wsX3_coverPools chm_wsX3_coverPools _ [(0, 7), (0, 8), (5, 0), (5, 1), (5, 2)] (by rfl) (by decide +kernel)
set_option maxRecDepth 20000 in
theorem gX3_coverPools_Jx4a65c_size_8abf5 : GoodIn wsX3_coverPools (wsV RX3 46 RJx4a65c yJx4a65c_size_8abf5 wsJx4a65c_size_8abf5) := goodIn_app (goodIn_of _ (by decide +kernel)) ggX3_coverPools_Jx4a65c_size_8abf5
set_option maxRecDepth 100000 in
set_option maxHeartbeats 4000000 in
theorem ggX3_coverPools_Jx4a65c_get_915e3 : GoodIn wsX3_coverPools wsJx4a65c_get_915e3 := goodIn_k ch_wsX3_coverPools chm_wsX3_coverPools _ [(0, 12), (0, 8), (0, 13), (0, 14), (0, 15), (0, 16), (0, 17), (0, 18), (0, 19), (0, 20), (0, 21), (0, 22), (0, 23), (0, 6), (1, 0), (1, 1), (5, 0), (5, 1), (5, 2)] (by rfl) (by decide +kernel)
set_option maxRecDepth 20000 in
theorem gX3_coverPools_Jx4a65c_get_915e3 : GoodIn wsX3_coverPools (wsV RX3 109 RJx4a65c yJx4a65c_get_915e3 wsJx4a65c_get_915e3) := goodIn_app (goodIn_of _ (by decide +kernel)) ggX3_coverPools_Jx4a65c_get_915e3
set_option maxRecDepth 100000 in
set_option maxHeartbeats 4000000 in
theorem ggX3_coverPools_X6_drawMissing : GoodIn wsX3_coverPools wsX6_drawMissing := goodIn_k ch_wsX3_coverPools chm_wsX3_coverPools _ [(1, 6), (1, 7), (1, 8), (1, 9), (1, 10), (1, 11), (1, 12), (1, 13), (1, 14), (1, 15), (1, 16), (1, 17), (1, 18), (1, 19), (0, 4), (0, 5), (0, 6), (0, 7), (0, 8), (1, 20), (0, 10), (0, 11), (0, 12), (0, 13), (0, 14), (0, 15), (0, 16), (0, 17), (0, 18), (0, 19), (0, 20), (0, 21), (0, 22), (0, 23), (1, 0), (1, 1), (6, 0), (6, 1), (6, 2), (6, 3), (6, 4), (4, 0), (4, 1), (4, 2), (4, 3), (4, 4), (4, 5), (4, 6), (4, 7), (4, 8), (4, 9), (4, 10), (4, 11), (7, 0), (7, 1), (7, 2), (7, 3), (7, 4), (7, 5), (7, 6), (7, 7), (7, 8), (5, 0), (5, 1), (5, 2)] (by rfl) (by decide +kernel)
set_option maxRecDepth 20000 in
theorem gX3_coverPools_X6_drawMissing : GoodIn wsX3_coverPools (wsV RX3 123 RX6 yX6_drawMissing wsX6_drawMissing) := goodIn_app (goodIn_of _ (by decide +kernel)) ggX3_coverPools_X6_drawMissing
set_option maxRecDepth 100000 in
set_option maxHeartbeats 4000000 in
theorem ggX3_coverPools_X6_payBack : GoodIn wsX3_coverPools wsX6_payBack := goodIn_k ch_wsX3_coverPools chm_wsX3_coverPools _ [(2, 0), (1, 7), (1, 8), (1, 9), (1, 10), (1, 11), (1, 12), (1, 13), (1, 15), (1, 16), (1, 17), (1, 18), (1, 19), (0, 4), (0, 5), (0, 6), (0, 7), (0, 8), (1, 20), (0, 10), (0, 11), (0, 12), (0, 13), (0, 14), (0, 15), (0, 16), (0, 17), (0, 18), (0, 19), (0, 20), (0, 21), (0, 22), (0, 23), (1, 0), (1, 1), (6, 0), (6, 1), (6, 2), (6, 3), (6, 4), (4, 0), (4, 1), (4, 2), (4, 3), (4, 4), (4, 5), (4, 6), (4, 7), (4, 8), (4, 9), (4, 10), (4, 11), (7, 0), (7, 1), (7, 2), (7, 3), (7, 4), (7, 5), (7, 6), (7, 7), (7, 8), (5, 0), (5, 1), (5, 2)] (by rfl) (by decide +kernel)
set_option maxRecDepth 20000 in
theorem gX3_coverPools_X6_payBack : GoodIn wsX3_coverPools (wsV RX3 126 RX6 yX6_payBack wsX6_payBack) := goodIn_app (goodIn_of _ (by decide +kernel)) ggX3_coverPools_X6_payBack
theorem dX3_coverPools_0 : decode cX3_coverPools 0 = .ok (.iconst 0, 1) := by decide +kernel
theorem dX3_coverPools_1 : decode cX3_coverPools 1 = .ok (.istore_n 1, 1) := by decide +kernel
theorem dX3_coverPools_2 : decode cX3_coverPools 2 = .ok (.iload_n 1, 1) := by decide +kernel
theorem dX3_coverPools_3 : decode cX3_coverPools 3 = .ok (.aload_n 0, 1) := by decide +kernel
theorem dX3_coverPools_4 : decode cX3_coverPools 4 = .ok (.getfield 18, 3) := by decide +kernel
theorem dX3_coverPools_7 : decode cX3_coverPools 7 = .ok (.invokevirtual 46, 3) := by decide +kernel
theorem dX3_coverPools_10 : decode cX3_coverPools 10 = .ok (.if_icmp .ge 37, 3) := by decide +kernel
theorem dX3_coverPools_13 : decode cX3_coverPools 13 = .ok (.aload_n 0, 1) := by decide +kernel
theorem dX3_coverPools_14 : decode cX3_coverPools 14 = .ok (.getfield 18, 3) := by decide +kernel
theorem dX3_coverPools_17 : decode cX3_coverPools 17 = .ok (.iload_n 1, 1) := by decide +kernel
theorem dX3_coverPools_18 : decode cX3_coverPools 18 = .ok (.invokevirtual 109, 3) := by decide +kernel
theorem dX3_coverPools_21 : decode cX3_coverPools 21 = .ok (.checkcast 55, 3) := by decide +kernel
theorem dX3_coverPools_24 : decode cX3_coverPools 24 = .ok (.astore_n 2, 1) := by decide +kernel
theorem dX3_coverPools_25 : decode cX3_coverPools 25 = .ok (.aload_n 2, 1) := by decide +kernel
theorem dX3_coverPools_26 : decode cX3_coverPools 26 = .ok (.getfield 64, 3) := by decide +kernel
theorem dX3_coverPools_29 : decode cX3_coverPools 29 = .ok (.aload_n 2, 1) := by decide +kernel
theorem dX3_coverPools_30 : decode cX3_coverPools 30 = .ok (.invokevirtual 123, 3) := by decide +kernel
theorem dX3_coverPools_33 : decode cX3_coverPools 33 = .ok (.aload_n 2, 1) := by decide +kernel
theorem dX3_coverPools_34 : decode cX3_coverPools 34 = .ok (.getfield 64, 3) := by decide +kernel
theorem dX3_coverPools_37 : decode cX3_coverPools 37 = .ok (.aload_n 2, 1) := by decide +kernel
theorem dX3_coverPools_38 : decode cX3_coverPools 38 = .ok (.invokevirtual 126, 3) := by decide +kernel
theorem dX3_coverPools_41 : decode cX3_coverPools 41 = .ok (.iinc 1 1, 3) := by decide +kernel
theorem dX3_coverPools_44 : decode cX3_coverPools 44 = .ok (.goto (-42), 3) := by decide +kernel
theorem dX3_coverPools_47 : decode cX3_coverPools 47 = .ok (.return_, 1) := by decide +kernel
def ch_wsX3_easeBanks : List (List Cond) := [wsX3_easeBanks_r1, wsX3_easeBanks_r2, wsX3_easeBanks_r3, wsX30, wsX10, wsX00, wsJx4a65c0, wsX60]
theorem chm_wsX3_easeBanks : ∀ c ∈ ch_wsX3_easeBanks, ∀ w ∈ c, w ∈ wsX3_easeBanks := List.forall_mem_cons.mpr ⟨(fun w h => (List.mem_cons_of_mem _ (List.mem_append_left _ (List.mem_append_left _ (List.mem_append_left _ (List.mem_append_left _ (List.mem_append_left _ (List.mem_append_left _ h)))))))), List.forall_mem_cons.mpr ⟨(fun w h => (List.mem_cons_of_mem _ (List.mem_append_left _ (List.mem_append_left _ (List.mem_append_left _ (List.mem_append_left _ (List.mem_append_left _ (List.mem_append_right _ (List.mem_append_left _ h))))))))), List.forall_mem_cons.mpr ⟨(fun w h => (List.mem_cons_of_mem _ (List.mem_append_left _ (List.mem_append_left _ (List.mem_append_left _ (List.mem_append_left _ (List.mem_append_left _ (List.mem_append_right _ (List.mem_append_right _ h))))))))), List.forall_mem_cons.mpr ⟨(fun w h => (List.mem_cons_of_mem _ (List.mem_append_left _ (List.mem_append_left _ (List.mem_append_left _ (List.mem_append_left _ (List.mem_append_right _ h))))))), List.forall_mem_cons.mpr ⟨(fun w h => (List.mem_cons_of_mem _ (List.mem_append_left _ (List.mem_append_left _ (List.mem_append_left _ (List.mem_append_right _ h)))))), List.forall_mem_cons.mpr ⟨(fun w h => (List.mem_cons_of_mem _ (List.mem_append_left _ (List.mem_append_left _ (List.mem_append_right _ h))))), List.forall_mem_cons.mpr ⟨(fun w h => (List.mem_cons_of_mem _ (List.mem_append_left _ (List.mem_append_right _ h)))), List.forall_mem_cons.mpr ⟨(fun w h => (List.mem_cons_of_mem _ (List.mem_append_right _ h))), fun _ h => absurd h List.not_mem_nil⟩⟩⟩⟩⟩⟩⟩⟩
set_option maxRecDepth 100000 in
set_option maxHeartbeats 4000000 in
theorem ggX3_easeBanks_X3_measureBanks : GoodIn wsX3_easeBanks wsX3_measureBanks := goodIn_k ch_wsX3_easeBanks chm_wsX3_easeBanks _ [(0, 5), (0, 6), (0, 7), (0, 8), (0, 9), (0, 10), (0, 11), (0, 12), (0, 13), (0, 14), (0, 15), (0, 16), (0, 17), (0, 18), (0, 19), (0, 20), (0, 21), (0, 22), (0, 23), (1, 0), (1, 1), (1, 2), (1, 3), (1, 4), (1, 5), (1, 6), (1, 7), (1, 8), (1, 9), (1, 10), (1, 11), (1, 12), (1, 13), (1, 14), (1, 15), (3, 0), (3, 1), (3, 2), (3, 3), (3, 4), (3, 5), (3, 6), (3, 7), (4, 0), (4, 1), (4, 2), (5, 0), (5, 1), (5, 2), (5, 3), (5, 4), (5, 5), (5, 6), (5, 7), (5, 8), (5, 9), (5, 10), (5, 11), (6, 0), (6, 1), (6, 2)] (by rfl) (by decide +kernel)
set_option maxRecDepth 20000 in
theorem gX3_easeBanks_X3_measureBanks : GoodIn wsX3_easeBanks (wsV RX3 130 RX3 yX3_measureBanks wsX3_measureBanks) := goodIn_app (goodIn_of _ (by decide +kernel)) ggX3_easeBanks_X3_measureBanks
set_option maxRecDepth 100000 in
set_option maxHeartbeats 4000000 in
theorem ggX3_easeBanks_X3_findGiver : GoodIn wsX3_easeBanks wsX3_findGiver := goodIn_k ch_wsX3_easeBanks chm_wsX3_easeBanks _ [(1, 19), (0, 9), (0, 10), (0, 12), (0, 11), (1, 20), (0, 17), (0, 18), (0, 19), (0, 20), (0, 21), (0, 22), (0, 23), (1, 0), (1, 1), (1, 2), (1, 3), (1, 4), (1, 5), (1, 6), (1, 7), (1, 8), (1, 9), (1, 10), (1, 11), (1, 12), (1, 13), (1, 14), (1, 15), (1, 21), (1, 22), (1, 23), (2, 0), (2, 1), (2, 2), (2, 3), (2, 4), (0, 14), (0, 15), (0, 16), (2, 5), (2, 6), (0, 4), (2, 7), (2, 8), (2, 9), (2, 10), (2, 11), (2, 12), (2, 13), (2, 14), (2, 15), (2, 16), (2, 17), (3, 0), (3, 1), (3, 2), (3, 3), (3, 4), (3, 5), (3, 6), (3, 7), (5, 0), (5, 1), (5, 2), (5, 3), (5, 4), (5, 5), (5, 6), (5, 7), (5, 8), (5, 9), (5, 10), (5, 11), (6, 0), (6, 1), (6, 2), (4, 0), (4, 1), (4, 2), (7, 0), (7, 1), (7, 2), (7, 3), (7, 4)] (by rfl) (by decide +kernel)
set_option maxRecDepth 20000 in
theorem gX3_easeBanks_X3_findGiver : GoodIn wsX3_easeBanks (wsV RX3 133 RX3 yX3_findGiver wsX3_findGiver) := goodIn_app (goodIn_of _ (by decide +kernel)) ggX3_easeBanks_X3_findGiver
set_option maxRecDepth 100000 in
set_option maxHeartbeats 4000000 in
theorem ggX3_easeBanks_X3_moveAway : GoodIn wsX3_easeBanks wsX3_moveAway := goodIn_k ch_wsX3_easeBanks chm_wsX3_easeBanks _ [(2, 20), (1, 20), (0, 12), (0, 11), (2, 21), (2, 22), (0, 15), (2, 23), (2, 5), (2, 6), (0, 4), (2, 7), (2, 8), (0, 10), (0, 17), (0, 18), (0, 19), (0, 20), (0, 21), (0, 22), (0, 23), (1, 0), (1, 1), (1, 2), (1, 3), (1, 4), (1, 5), (1, 6), (1, 7), (1, 8), (1, 9), (1, 10), (1, 11), (1, 12), (1, 13), (1, 14), (1, 15), (2, 9), (2, 10), (2, 11), (2, 0), (2, 12), (2, 2), (2, 13), (2, 3), (2, 4), (0, 14), (0, 16), (1, 21), (1, 22), (1, 23), (2, 1), (5, 0), (5, 1), (5, 2), (5, 3), (5, 4), (5, 5), (5, 6), (5, 7), (5, 8), (5, 9), (5, 10), (5, 11), (7, 0), (7, 1), (7, 2), (7, 3), (7, 4), (6, 0), (6, 1), (6, 2), (4, 0), (4, 1), (4, 2)] (by rfl) (by decide +kernel)
set_option maxRecDepth 20000 in
theorem gX3_easeBanks_X3_moveAway : GoodIn wsX3_easeBanks (va_wsS RX3 137 yX3_moveAway wsX3_moveAway) := goodIn_app (goodIn_of _ (by decide +kernel)) ggX3_easeBanks_X3_moveAway
theorem dX3_easeBanks_0 : decode cX3_easeBanks 0 = .ok (.iconst 1, 1) := by decide +kernel
theorem dX3_easeBanks_1 : decode cX3_easeBanks 1 = .ok (.istore_n 1, 1) := by decide +kernel
theorem dX3_easeBanks_2 : decode cX3_easeBanks 2 = .ok (.iconst 0, 1) := by decide +kernel
theorem dX3_easeBanks_3 : decode cX3_easeBanks 3 = .ok (.istore_n 2, 1) := by decide +kernel
theorem dX3_easeBanks_4 : decode cX3_easeBanks 4 = .ok (.iload_n 1, 1) := by decide +kernel
theorem dX3_easeBanks_5 : decode cX3_easeBanks 5 = .ok (.ifCond .eq 41, 3) := by decide +kernel
theorem dX3_easeBanks_8 : decode cX3_easeBanks 8 = .ok (.iload_n 2, 1) := by decide +kernel
theorem dX3_easeBanks_9 : decode cX3_easeBanks 9 = .ok (.ldc 129, 2) := by decide +kernel
theorem dX3_easeBanks_11 : decode cX3_easeBanks 11 = .ok (.if_icmp .ge 35, 3) := by decide +kernel
theorem dX3_easeBanks_14 : decode cX3_easeBanks 14 = .ok (.aload_n 0, 1) := by decide +kernel
theorem dX3_easeBanks_15 : decode cX3_easeBanks 15 = .ok (.invokevirtual 130, 3) := by decide +kernel
theorem dX3_easeBanks_18 : decode cX3_easeBanks 18 = .ok (.aload_n 0, 1) := by decide +kernel
theorem dX3_easeBanks_19 : decode cX3_easeBanks 19 = .ok (.invokevirtual 133, 3) := by decide +kernel
theorem dX3_easeBanks_22 : decode cX3_easeBanks 22 = .ok (.astore_n 3, 1) := by decide +kernel
theorem dX3_easeBanks_23 : decode cX3_easeBanks 23 = .ok (.aload_n 3, 1) := by decide +kernel
theorem dX3_easeBanks_24 : decode cX3_easeBanks 24 = .ok (.ifnull 14, 3) := by decide +kernel
theorem dX3_easeBanks_27 : decode cX3_easeBanks 27 = .ok (.aload_n 3, 1) := by decide +kernel
theorem dX3_easeBanks_28 : decode cX3_easeBanks 28 = .ok (.invokestatic 137, 3) := by decide +kernel
theorem dX3_easeBanks_31 : decode cX3_easeBanks 31 = .ok (.ifCond .eq 7, 3) := by decide +kernel
theorem dX3_easeBanks_34 : decode cX3_easeBanks 34 = .ok (.iconst 1, 1) := by decide +kernel
theorem dX3_easeBanks_35 : decode cX3_easeBanks 35 = .ok (.goto 4, 3) := by decide +kernel
theorem dX3_easeBanks_38 : decode cX3_easeBanks 38 = .ok (.iconst 0, 1) := by decide +kernel
theorem dX3_easeBanks_39 : decode cX3_easeBanks 39 = .ok (.istore_n 1, 1) := by decide +kernel
theorem dX3_easeBanks_40 : decode cX3_easeBanks 40 = .ok (.iinc 2 1, 3) := by decide +kernel
theorem dX3_easeBanks_43 : decode cX3_easeBanks 43 = .ok (.goto (-39), 3) := by decide +kernel
theorem dX3_easeBanks_46 : decode cX3_easeBanks 46 = .ok (.return_, 1) := by decide +kernel
def ch_wsX3_measureBanks : List (List Cond) := [wsX3_measureBanks_r1, wsX3_measureBanks_r2, wsX30, wsX10, wsX00, wsJx4a65c0]
theorem chm_wsX3_measureBanks : ∀ c ∈ ch_wsX3_measureBanks, ∀ w ∈ c, w ∈ wsX3_measureBanks := List.forall_mem_cons.mpr ⟨(fun w h => (List.mem_cons_of_mem _ (List.mem_append_left _ (List.mem_append_left _ (List.mem_append_left _ (List.mem_append_left _ (List.mem_append_left _ h))))))), List.forall_mem_cons.mpr ⟨(fun w h => (List.mem_cons_of_mem _ (List.mem_append_left _ (List.mem_append_left _ (List.mem_append_left _ (List.mem_append_left _ (List.mem_append_right _ h))))))), List.forall_mem_cons.mpr ⟨(fun w h => (List.mem_cons_of_mem _ (List.mem_append_left _ (List.mem_append_left _ (List.mem_append_left _ (List.mem_append_right _ h)))))), List.forall_mem_cons.mpr ⟨(fun w h => (List.mem_cons_of_mem _ (List.mem_append_left _ (List.mem_append_left _ (List.mem_append_right _ h))))), List.forall_mem_cons.mpr ⟨(fun w h => (List.mem_cons_of_mem _ (List.mem_append_left _ (List.mem_append_right _ h)))), List.forall_mem_cons.mpr ⟨(fun w h => (List.mem_cons_of_mem _ (List.mem_append_right _ h))), fun _ h => absurd h List.not_mem_nil⟩⟩⟩⟩⟩⟩
set_option maxRecDepth 100000 in
set_option maxHeartbeats 4000000 in
theorem ggX3_measureBanks_Jx4a65c_size_8abf5 : GoodIn wsX3_measureBanks wsJx4a65c_size_8abf5 := goodIn_k ch_wsX3_measureBanks chm_wsX3_measureBanks _ [(0, 15), (0, 16), (5, 0), (5, 1), (5, 2)] (by rfl) (by decide +kernel)
set_option maxRecDepth 20000 in
theorem gX3_measureBanks_Jx4a65c_size_8abf5 : GoodIn wsX3_measureBanks (wsV RX3 46 RJx4a65c yJx4a65c_size_8abf5 wsJx4a65c_size_8abf5) := goodIn_app (goodIn_of _ (by decide +kernel)) ggX3_measureBanks_Jx4a65c_size_8abf5
set_option maxRecDepth 100000 in
set_option maxHeartbeats 4000000 in
theorem ggX3_measureBanks_Jx4a65c_get_915e3 : GoodIn wsX3_measureBanks wsJx4a65c_get_915e3 := goodIn_k ch_wsX3_measureBanks chm_wsX3_measureBanks _ [(0, 20), (0, 16), (0, 21), (0, 22), (0, 23), (1, 0), (1, 1), (1, 2), (1, 3), (1, 4), (1, 5), (1, 6), (1, 7), (0, 14), (1, 8), (1, 9), (5, 0), (5, 1), (5, 2)] (by rfl) (by decide +kernel)
set_option maxRecDepth 20000 in
theorem gX3_measureBanks_Jx4a65c_get_915e3 : GoodIn wsX3_measureBanks (wsV RX3 109 RJx4a65c yJx4a65c_get_915e3 wsJx4a65c_get_915e3) := goodIn_app (goodIn_of _ (by decide +kernel)) ggX3_measureBanks_Jx4a65c_get_915e3
theorem dX3_measureBanks_0 : decode cX3_measureBanks 0 = .ok (.iconst 0, 1) := by decide +kernel
theorem dX3_measureBanks_1 : decode cX3_measureBanks 1 = .ok (.istore_n 1, 1) := by decide +kernel
theorem dX3_measureBanks_2 : decode cX3_measureBanks 2 = .ok (.iload_n 1, 1) := by decide +kernel
theorem dX3_measureBanks_3 : decode cX3_measureBanks 3 = .ok (.aload_n 0, 1) := by decide +kernel
theorem dX3_measureBanks_4 : decode cX3_measureBanks 4 = .ok (.getfield 27, 3) := by decide +kernel
theorem dX3_measureBanks_7 : decode cX3_measureBanks 7 = .ok (.invokevirtual 46, 3) := by decide +kernel
theorem dX3_measureBanks_10 : decode cX3_measureBanks 10 = .ok (.if_icmp .ge 24, 3) := by decide +kernel
theorem dX3_measureBanks_13 : decode cX3_measureBanks 13 = .ok (.aload_n 0, 1) := by decide +kernel
theorem dX3_measureBanks_14 : decode cX3_measureBanks 14 = .ok (.getfield 27, 3) := by decide +kernel
theorem dX3_measureBanks_17 : decode cX3_measureBanks 17 = .ok (.iload_n 1, 1) := by decide +kernel
theorem dX3_measureBanks_18 : decode cX3_measureBanks 18 = .ok (.invokevirtual 109, 3) := by decide +kernel
theorem dX3_measureBanks_21 : decode cX3_measureBanks 21 = .ok (.checkcast 37, 3) := by decide +kernel
theorem dX3_measureBanks_24 : decode cX3_measureBanks 24 = .ok (.lconst 0, 1) := by decide +kernel
theorem dX3_measureBanks_25 : decode cX3_measureBanks 25 = .ok (.putfield 141, 3) := by decide +kernel
theorem dX3_measureBanks_28 : decode cX3_measureBanks 28 = .ok (.iinc 1 1, 3) := by decide +kernel
theorem dX3_measureBanks_31 : decode cX3_measureBanks 31 = .ok (.goto (-29), 3) := by decide +kernel
theorem dX3_measureBanks_34 : decode cX3_measureBanks 34 = .ok (.iconst 0, 1) := by decide +kernel
theorem dX3_measureBanks_35 : decode cX3_measureBanks 35 = .ok (.istore_n 1, 1) := by decide +kernel
theorem dX3_measureBanks_36 : decode cX3_measureBanks 36 = .ok (.iload_n 1, 1) := by decide +kernel
theorem dX3_measureBanks_37 : decode cX3_measureBanks 37 = .ok (.aload_n 0, 1) := by decide +kernel
theorem dX3_measureBanks_38 : decode cX3_measureBanks 38 = .ok (.getfield 12, 3) := by decide +kernel
theorem dX3_measureBanks_41 : decode cX3_measureBanks 41 = .ok (.invokevirtual 46, 3) := by decide +kernel
theorem dX3_measureBanks_44 : decode cX3_measureBanks 44 = .ok (.if_icmp .ge 41, 3) := by decide +kernel
theorem dX3_measureBanks_47 : decode cX3_measureBanks 47 = .ok (.aload_n 0, 1) := by decide +kernel
theorem dX3_measureBanks_48 : decode cX3_measureBanks 48 = .ok (.getfield 12, 3) := by decide +kernel
theorem dX3_measureBanks_51 : decode cX3_measureBanks 51 = .ok (.iload_n 1, 1) := by decide +kernel
theorem dX3_measureBanks_52 : decode cX3_measureBanks 52 = .ok (.invokevirtual 109, 3) := by decide +kernel
theorem dX3_measureBanks_55 : decode cX3_measureBanks 55 = .ok (.checkcast 55, 3) := by decide +kernel
theorem dX3_measureBanks_58 : decode cX3_measureBanks 58 = .ok (.astore_n 2, 1) := by decide +kernel
theorem dX3_measureBanks_59 : decode cX3_measureBanks 59 = .ok (.aload_n 2, 1) := by decide +kernel
theorem dX3_measureBanks_60 : decode cX3_measureBanks 60 = .ok (.getfield 145, 3) := by decide +kernel
theorem dX3_measureBanks_63 : decode cX3_measureBanks 63 = .ok (.dup, 1) := by decide +kernel
theorem dX3_measureBanks_64 : decode cX3_measureBanks 64 = .ok (.getfield 141, 3) := by decide +kernel
theorem dX3_measureBanks_67 : decode cX3_measureBanks 67 = .ok (.aload_n 2, 1) := by decide +kernel
theorem dX3_measureBanks_68 : decode cX3_measureBanks 68 = .ok (.getfield 149, 3) := by decide +kernel
theorem dX3_measureBanks_71 : decode cX3_measureBanks 71 = .ok (.lconst 0, 1) := by decide +kernel
theorem dX3_measureBanks_72 : decode cX3_measureBanks 72 = .ok (.invokestatic 152, 3) := by decide +kernel
theorem dX3_measureBanks_75 : decode cX3_measureBanks 75 = .ok (.ladd, 1) := by decide +kernel
theorem dX3_measureBanks_76 : decode cX3_measureBanks 76 = .ok (.putfield 141, 3) := by decide +kernel
theorem dX3_measureBanks_79 : decode cX3_measureBanks 79 = .ok (.iinc 1 1, 3) := by decide +kernel
theorem dX3_measureBanks_82 : decode cX3_measureBanks 82 = .ok (.goto (-46), 3) := by decide +kernel
theorem dX3_measureBanks_85 : decode cX3_measureBanks 85 = .ok (.return_, 1) := by decide +kernel
def ch_wsX3_findGiver : List (List Cond) := [wsX3_findGiver_r1, wsX3_findGiver_r2, wsX3_findGiver_r3, wsX30, wsX00, wsJx4a65c0, wsX10, wsX60]
theorem chm_wsX3_findGiver : ∀ c ∈ ch_wsX3_findGiver, ∀ w ∈ c, w ∈ wsX3_findGiver := List.forall_mem_cons.mpr ⟨(fun w h => (List.mem_cons_of_mem _ (List.mem_append_left _ (List.mem_append_left _ (List.mem_append_left _ (List.mem_append_left _ (List.mem_append_left _ (List.mem_append_left _ h)))))))), List.forall_mem_cons.mpr ⟨(fun w h => (List.mem_cons_of_mem _ (List.mem_append_left _ (List.mem_append_left _ (List.mem_append_left _ (List.mem_append_left _ (List.mem_append_left _ (List.mem_append_right _ (List.mem_append_left _ h))))))))), List.forall_mem_cons.mpr ⟨(fun w h => (List.mem_cons_of_mem _ (List.mem_append_left _ (List.mem_append_left _ (List.mem_append_left _ (List.mem_append_left _ (List.mem_append_left _ (List.mem_append_right _ (List.mem_append_right _ h))))))))), List.forall_mem_cons.mpr ⟨(fun w h => (List.mem_cons_of_mem _ (List.mem_append_left _ (List.mem_append_left _ (List.mem_append_left _ (List.mem_append_left _ (List.mem_append_right _ h))))))), List.forall_mem_cons.mpr ⟨(fun w h => (List.mem_cons_of_mem _ (List.mem_append_left _ (List.mem_append_left _ (List.mem_append_left _ (List.mem_append_right _ h)))))), List.forall_mem_cons.mpr ⟨(fun w h => (List.mem_cons_of_mem _ (List.mem_append_left _ (List.mem_append_left _ (List.mem_append_right _ h))))), List.forall_mem_cons.mpr ⟨(fun w h => (List.mem_cons_of_mem _ (List.mem_append_left _ (List.mem_append_right _ h)))), List.forall_mem_cons.mpr ⟨(fun w h => (List.mem_cons_of_mem _ (List.mem_append_right _ h))), fun _ h => absurd h List.not_mem_nil⟩⟩⟩⟩⟩⟩⟩⟩
set_option maxRecDepth 100000 in
set_option maxHeartbeats 4000000 in
theorem ggX3_findGiver_Jx4a65c_size_8abf5 : GoodIn wsX3_findGiver wsJx4a65c_size_8abf5 := goodIn_k ch_wsX3_findGiver chm_wsX3_findGiver _ [(0, 9), (0, 10), (5, 0), (5, 1), (5, 2)] (by rfl) (by decide +kernel)
set_option maxRecDepth 20000 in
theorem gX3_findGiver_Jx4a65c_size_8abf5 : GoodIn wsX3_findGiver (wsV RX3 46 RJx4a65c yJx4a65c_size_8abf5 wsJx4a65c_size_8abf5) := goodIn_app (goodIn_of _ (by decide +kernel)) ggX3_findGiver_Jx4a65c_size_8abf5
set_option maxRecDepth 100000 in
set_option maxHeartbeats 4000000 in
theorem ggX3_findGiver_Jx4a65c_get_915e3 : GoodIn wsX3_findGiver wsJx4a65c_get_915e3 := goodIn_k ch_wsX3_findGiver chm_wsX3_findGiver _ [(0, 14), (0, 10), (0, 15), (0, 16), (0, 17), (0, 18), (0, 19), (0, 20), (0, 21), (0, 22), (0, 23), (1, 0), (1, 1), (0, 8), (1, 2), (1, 3), (5, 0), (5, 1), (5, 2)] (by rfl) (by decide +kernel)
set_option maxRecDepth 20000 in
theorem gX3_findGiver_Jx4a65c_get_915e3 : GoodIn wsX3_findGiver (wsV RX3 109 RJx4a65c yJx4a65c_get_915e3 wsJx4a65c_get_915e3) := goodIn_app (goodIn_of _ (by decide +kernel)) ggX3_findGiver_Jx4a65c_get_915e3
set_option maxRecDepth 100000 in
set_option maxHeartbeats 4000000 in
theorem ggX3_findGiver_X1_excess : GoodIn wsX3_findGiver wsX1_excess := goodIn_k ch_wsX3_findGiver chm_wsX3_findGiver _ [(1, 8), (1, 9), (1, 10), (1, 11), (1, 12), (1, 13), (1, 14), (6, 0), (6, 1), (6, 2)] (by rfl) (by decide +kernel)
set_option maxRecDepth 20000 in
theorem gX3_findGiver_X1_excess : GoodIn wsX3_findGiver (wsV RX3 158 RX1 yX1_excess wsX1_excess) := goodIn_app (goodIn_of _ (by decide +kernel)) ggX3_findGiver_X1_excess
set_option maxRecDepth 100000 in
set_option maxHeartbeats 4000000 in
theorem ggX3_findGiver_X3_findGetter : GoodIn wsX3_findGiver wsX3_findGetter := goodIn_k ch_wsX3_findGiver chm_wsX3_findGiver _ [(1, 18), (1, 19), (0, 1), (0, 2), (0, 3), (0, 5), (0, 6), (0, 7), (0, 8), (0, 9), (0, 10), (0, 11), (0, 12), (0, 13), (0, 14), (0, 15), (0, 16), (0, 17), (0, 18), (0, 19), (0, 20), (0, 21), (0, 22), (0, 23), (1, 0), (1, 1), (1, 2), (1, 3), (1, 20), (1, 21), (1, 22), (1, 7), (1, 23), (1, 9), (2, 0), (1, 10), (1, 11), (1, 12), (1, 13), (1, 14), (7, 0), (7, 1), (7, 2), (7, 3), (7, 4), (4, 0), (4, 1), (4, 2), (4, 3), (4, 4), (4, 5), (4, 6), (4, 7), (4, 8), (4, 9), (4, 10), (4, 11), (5, 0), (5, 1), (5, 2), (6, 0), (6, 1), (6, 2)] (by rfl) (by decide +kernel)
set_option maxRecDepth 20000 in
theorem gX3_findGiver_X3_findGetter : GoodIn wsX3_findGiver (va_wsS RX3 162 yX3_findGetter wsX3_findGetter) := goodIn_app (goodIn_of _ (by decide +kernel)) ggX3_findGiver_X3_findGetter
set_option maxRecDepth 100000 in
set_option maxHeartbeats 4000000 in
theorem ggX3_findGiver_X3_givesBefore : GoodIn wsX3_findGiver wsX3_givesBefore := goodIn_k ch_wsX3_findGiver chm_wsX3_findGiver _ [(2, 3), (0, 3), (2, 4), (0, 2), (1, 4), (1, 5), (1, 6), (1, 7), (1, 8), (1, 9), (1, 10), (1, 11), (1, 12), (1, 13), (1, 14), (4, 0), (4, 1), (4, 2), (4, 3), (4, 4), (4, 5), (4, 6), (4, 7), (4, 8), (4, 9), (4, 10), (4, 11), (6, 0), (6, 1), (6, 2)] (by rfl) (by decide +kernel)
set_option maxRecDepth 20000 in
theorem gX3_findGiver_X3_givesBefore : GoodIn wsX3_findGiver (va_wsS RX3 166 yX3_givesBefore wsX3_givesBefore) := goodIn_app (goodIn_of _ (by decide +kernel)) ggX3_findGiver_X3_givesBefore
theorem dX3_findGiver_0 : decode cX3_findGiver 0 = .ok (.aconst_null, 1) := by decide +kernel
theorem dX3_findGiver_1 : decode cX3_findGiver 1 = .ok (.astore_n 1, 1) := by decide +kernel
theorem dX3_findGiver_2 : decode cX3_findGiver 2 = .ok (.iconst 0, 1) := by decide +kernel
theorem dX3_findGiver_3 : decode cX3_findGiver 3 = .ok (.istore_n 2, 1) := by decide +kernel
theorem dX3_findGiver_4 : decode cX3_findGiver 4 = .ok (.iload_n 2, 1) := by decide +kernel
theorem dX3_findGiver_5 : decode cX3_findGiver 5 = .ok (.aload_n 0, 1) := by decide +kernel
theorem dX3_findGiver_6 : decode cX3_findGiver 6 = .ok (.getfield 12, 3) := by decide +kernel
theorem dX3_findGiver_9 : decode cX3_findGiver 9 = .ok (.invokevirtual 46, 3) := by decide +kernel
theorem dX3_findGiver_12 : decode cX3_findGiver 12 = .ok (.if_icmp .ge 78, 3) := by decide +kernel
theorem dX3_findGiver_15 : decode cX3_findGiver 15 = .ok (.aload_n 0, 1) := by decide +kernel
theorem dX3_findGiver_16 : decode cX3_findGiver 16 = .ok (.getfield 12, 3) := by decide +kernel
theorem dX3_findGiver_19 : decode cX3_findGiver 19 = .ok (.iload_n 2, 1) := by decide +kernel
theorem dX3_findGiver_20 : decode cX3_findGiver 20 = .ok (.invokevirtual 109, 3) := by decide +kernel
theorem dX3_findGiver_23 : decode cX3_findGiver 23 = .ok (.checkcast 55, 3) := by decide +kernel
theorem dX3_findGiver_26 : decode cX3_findGiver 26 = .ok (.astore_n 3, 1) := by decide +kernel
theorem dX3_findGiver_27 : decode cX3_findGiver 27 = .ok (.aload_n 3, 1) := by decide +kernel
theorem dX3_findGiver_28 : decode cX3_findGiver 28 = .ok (.getfield 149, 3) := by decide +kernel
theorem dX3_findGiver_31 : decode cX3_findGiver 31 = .ok (.lconst 0, 1) := by decide +kernel
theorem dX3_findGiver_32 : decode cX3_findGiver 32 = .ok (.lcmp, 1) := by decide +kernel
theorem dX3_findGiver_33 : decode cX3_findGiver 33 = .ok (.ifCond .le 29, 3) := by decide +kernel
theorem dX3_findGiver_36 : decode cX3_findGiver 36 = .ok (.aload_n 3, 1) := by decide +kernel
theorem dX3_findGiver_37 : decode cX3_findGiver 37 = .ok (.getfield 145, 3) := by decide +kernel
theorem dX3_findGiver_40 : decode cX3_findGiver 40 = .ok (.invokevirtual 158, 3) := by decide +kernel
theorem dX3_findGiver_43 : decode cX3_findGiver 43 = .ok (.lconst 0, 1) := by decide +kernel
theorem dX3_findGiver_44 : decode cX3_findGiver 44 = .ok (.lcmp, 1) := by decide +kernel
theorem dX3_findGiver_45 : decode cX3_findGiver 45 = .ok (.ifCond .le 17, 3) := by decide +kernel
theorem dX3_findGiver_48 : decode cX3_findGiver 48 = .ok (.aload_n 3, 1) := by decide +kernel
theorem dX3_findGiver_49 : decode cX3_findGiver 49 = .ok (.getfield 64, 3) := by decide +kernel
theorem dX3_findGiver_52 : decode cX3_findGiver 52 = .ok (.invokestatic 162, 3) := by decide +kernel
theorem dX3_findGiver_55 : decode cX3_findGiver 55 = .ok (.ifnull 7, 3) := by decide +kernel
theorem dX3_findGiver_58 : decode cX3_findGiver 58 = .ok (.iconst 1, 1) := by decide +kernel
theorem dX3_findGiver_59 : decode cX3_findGiver 59 = .ok (.goto 4, 3) := by decide +kernel
theorem dX3_findGiver_62 : decode cX3_findGiver 62 = .ok (.iconst 0, 1) := by decide +kernel
theorem dX3_findGiver_63 : decode cX3_findGiver 63 = .ok (.istore 4, 2) := by decide +kernel
theorem dX3_findGiver_65 : decode cX3_findGiver 65 = .ok (.iload 4, 2) := by decide +kernel
theorem dX3_findGiver_67 : decode cX3_findGiver 67 = .ok (.ifCond .eq 17, 3) := by decide +kernel
theorem dX3_findGiver_70 : decode cX3_findGiver 70 = .ok (.aload_n 1, 1) := by decide +kernel
theorem dX3_findGiver_71 : decode cX3_findGiver 71 = .ok (.ifnull 11, 3) := by decide +kernel
theorem dX3_findGiver_74 : decode cX3_findGiver 74 = .ok (.aload_n 3, 1) := by decide +kernel
theorem dX3_findGiver_75 : decode cX3_findGiver 75 = .ok (.aload_n 1, 1) := by decide +kernel
theorem dX3_findGiver_76 : decode cX3_findGiver 76 = .ok (.invokestatic 166, 3) := by decide +kernel
theorem dX3_findGiver_79 : decode cX3_findGiver 79 = .ok (.ifCond .eq 5, 3) := by decide +kernel
theorem dX3_findGiver_82 : decode cX3_findGiver 82 = .ok (.aload_n 3, 1) := by decide +kernel
theorem dX3_findGiver_83 : decode cX3_findGiver 83 = .ok (.astore_n 1, 1) := by decide +kernel
theorem dX3_findGiver_84 : decode cX3_findGiver 84 = .ok (.iinc 2 1, 3) := by decide +kernel
theorem dX3_findGiver_87 : decode cX3_findGiver 87 = .ok (.goto (-83), 3) := by decide +kernel
theorem dX3_findGiver_90 : decode cX3_findGiver 90 = .ok (.aload_n 1, 1) := by decide +kernel
theorem dX3_findGiver_91 : decode cX3_findGiver 91 = .ok (.areturn, 1) := by decide +kernel
set_option maxRecDepth 20000 in
theorem ggX3_givesBefore_X1_excess : GoodIn wsX3_givesBefore wsX1_excess := goodIn_r _ [8, 9, 10, 11, 12, 13, 14, 27, 28, 29] (by decide +kernel) (by decide +kernel)
set_option maxRecDepth 20000 in
theorem gX3_givesBefore_X1_excess : GoodIn wsX3_givesBefore (wsV RX3 158 RX1 yX1_excess wsX1_excess) := goodIn_app (goodIn_of _ (by decide +kernel)) ggX3_givesBefore_X1_excess
theorem dX3_givesBefore_0 : decode cX3_givesBefore 0 = .ok (.aload_n 0, 1) := by decide +kernel
theorem dX3_givesBefore_1 : decode cX3_givesBefore 1 = .ok (.getfield 145, 3) := by decide +kernel
theorem dX3_givesBefore_4 : decode cX3_givesBefore 4 = .ok (.getfield 170, 3) := by decide +kernel
theorem dX3_givesBefore_7 : decode cX3_givesBefore 7 = .ok (.aload_n 1, 1) := by decide +kernel
theorem dX3_givesBefore_8 : decode cX3_givesBefore 8 = .ok (.getfield 145, 3) := by decide +kernel
theorem dX3_givesBefore_11 : decode cX3_givesBefore 11 = .ok (.getfield 170, 3) := by decide +kernel
theorem dX3_givesBefore_14 : decode cX3_givesBefore 14 = .ok (.if_icmp .ne 21, 3) := by decide +kernel
theorem dX3_givesBefore_17 : decode cX3_givesBefore 17 = .ok (.aload_n 0, 1) := by decide +kernel
theorem dX3_givesBefore_18 : decode cX3_givesBefore 18 = .ok (.getfield 149, 3) := by decide +kernel
theorem dX3_givesBefore_21 : decode cX3_givesBefore 21 = .ok (.aload_n 1, 1) := by decide +kernel
theorem dX3_givesBefore_22 : decode cX3_givesBefore 22 = .ok (.getfield 149, 3) := by decide +kernel
theorem dX3_givesBefore_25 : decode cX3_givesBefore 25 = .ok (.lcmp, 1) := by decide +kernel
theorem dX3_givesBefore_26 : decode cX3_givesBefore 26 = .ok (.ifCond .le 7, 3) := by decide +kernel
theorem dX3_givesBefore_29 : decode cX3_givesBefore 29 = .ok (.iconst 1, 1) := by decide +kernel
theorem dX3_givesBefore_30 : decode cX3_givesBefore 30 = .ok (.goto 4, 3) := by decide +kernel
theorem dX3_givesBefore_33 : decode cX3_givesBefore 33 = .ok (.iconst 0, 1) := by decide +kernel
theorem dX3_givesBefore_34 : decode cX3_givesBefore 34 = .ok (.ireturn, 1) := by decide +kernel
theorem dX3_givesBefore_35 : decode cX3_givesBefore 35 = .ok (.aload_n 0, 1) := by decide +kernel
theorem dX3_givesBefore_36 : decode cX3_givesBefore 36 = .ok (.getfield 145, 3) := by decide +kernel
theorem dX3_givesBefore_39 : decode cX3_givesBefore 39 = .ok (.invokevirtual 158, 3) := by decide +kernel
theorem dX3_givesBefore_42 : decode cX3_givesBefore 42 = .ok (.aload_n 1, 1) := by decide +kernel
theorem dX3_givesBefore_43 : decode cX3_givesBefore 43 = .ok (.getfield 145, 3) := by decide +kernel
theorem dX3_givesBefore_46 : decode cX3_givesBefore 46 = .ok (.invokevirtual 158, 3) := by decide +kernel
theorem dX3_givesBefore_49 : decode cX3_givesBefore 49 = .ok (.lcmp, 1) := by decide +kernel
theorem dX3_givesBefore_50 : decode cX3_givesBefore 50 = .ok (.ifCond .eq 27, 3) := by decide +kernel
theorem dX3_givesBefore_53 : decode cX3_givesBefore 53 = .ok (.aload_n 0, 1) := by decide +kernel
theorem dX3_givesBefore_54 : decode cX3_givesBefore 54 = .ok (.getfield 145, 3) := by decide +kernel
theorem dX3_givesBefore_57 : decode cX3_givesBefore 57 = .ok (.invokevirtual 158, 3) := by decide +kernel
theorem dX3_givesBefore_60 : decode cX3_givesBefore 60 = .ok (.aload_n 1, 1) := by decide +kernel
theorem dX3_givesBefore_61 : decode cX3_givesBefore 61 = .ok (.getfield 145, 3) := by decide +kernel
theorem dX3_givesBefore_64 : decode cX3_givesBefore 64 = .ok (.invokevirtual 158, 3) := by decide +kernel
theorem dX3_givesBefore_67 : decode cX3_givesBefore 67 = .ok (.lcmp, 1) := by decide +kernel
theorem dX3_givesBefore_68 : decode cX3_givesBefore 68 = .ok (.ifCond .le 7, 3) := by decide +kernel
theorem dX3_givesBefore_71 : decode cX3_givesBefore 71 = .ok (.iconst 1, 1) := by decide +kernel
theorem dX3_givesBefore_72 : decode cX3_givesBefore 72 = .ok (.goto 4, 3) := by decide +kernel
theorem dX3_givesBefore_75 : decode cX3_givesBefore 75 = .ok (.iconst 0, 1) := by decide +kernel
theorem dX3_givesBefore_76 : decode cX3_givesBefore 76 = .ok (.ireturn, 1) := by decide +kernel
theorem dX3_givesBefore_77 : decode cX3_givesBefore 77 = .ok (.aload_n 0, 1) := by decide +kernel
theorem dX3_givesBefore_78 : decode cX3_givesBefore 78 = .ok (.getfield 145, 3) := by decide +kernel
theorem dX3_givesBefore_81 : decode cX3_givesBefore 81 = .ok (.getfield 170, 3) := by decide +kernel
theorem dX3_givesBefore_84 : decode cX3_givesBefore 84 = .ok (.aload_n 1, 1) := by decide +kernel
theorem dX3_givesBefore_85 : decode cX3_givesBefore 85 = .ok (.getfield 145, 3) := by decide +kernel
theorem dX3_givesBefore_88 : decode cX3_givesBefore 88 = .ok (.getfield 170, 3) := by decide +kernel
theorem dX3_givesBefore_91 : decode cX3_givesBefore 91 = .ok (.if_icmp .ge 7, 3) := by decide +kernel
theorem dX3_givesBefore_94 : decode cX3_givesBefore 94 = .ok (.iconst 1, 1) := by decide +kernel
theorem dX3_givesBefore_95 : decode cX3_givesBefore 95 = .ok (.goto 4, 3) := by decide +kernel
theorem dX3_givesBefore_98 : decode cX3_givesBefore 98 = .ok (.iconst 0, 1) := by decide +kernel
theorem dX3_givesBefore_99 : decode cX3_givesBefore 99 = .ok (.ireturn, 1) := by decide +kernel
def ch_wsX3_findGetter : List (List Cond) := [wsX3_findGetter_r1, wsX3_findGetter_r2, wsX60, wsX00, wsJx4a65c0, wsX10]
theorem chm_wsX3_findGetter : ∀ c ∈ ch_wsX3_findGetter, ∀ w ∈ c, w ∈ wsX3_findGetter := List.forall_mem_cons.mpr ⟨(fun w h => (List.mem_cons_of_mem _ (List.mem_append_left _ (List.mem_append_left _ (List.mem_append_left _ (List.mem_append_left _ (List.mem_append_left _ h))))))), List.forall_mem_cons.mpr ⟨(fun w h => (List.mem_cons_of_mem _ (List.mem_append_left _ (List.mem_append_left _ (List.mem_append_left _ (List.mem_append_left _ (List.mem_append_right _ h))))))), List.forall_mem_cons.mpr ⟨(fun w h => (List.mem_cons_of_mem _ (List.mem_append_left _ (List.mem_append_left _ (List.mem_append_left _ (List.mem_append_right _ h)))))), List.forall_mem_cons.mpr ⟨(fun w h => (List.mem_cons_of_mem _ (List.mem_append_left _ (List.mem_append_left _ (List.mem_append_right _ h))))), List.forall_mem_cons.mpr ⟨(fun w h => (List.mem_cons_of_mem _ (List.mem_append_left _ (List.mem_append_right _ h)))), List.forall_mem_cons.mpr ⟨(fun w h => (List.mem_cons_of_mem _ (List.mem_append_right _ h))), fun _ h => absurd h List.not_mem_nil⟩⟩⟩⟩⟩⟩
set_option maxRecDepth 100000 in
set_option maxHeartbeats 4000000 in
theorem ggX3_findGetter_Jx4a65c_size_8abf5 : GoodIn wsX3_findGetter wsJx4a65c_size_8abf5 := goodIn_k ch_wsX3_findGetter chm_wsX3_findGetter _ [(0, 8), (0, 9), (4, 0), (4, 1), (4, 2)] (by rfl) (by decide +kernel)
set_option maxRecDepth 20000 in
theorem gX3_findGetter_Jx4a65c_size_8abf5 : GoodIn wsX3_findGetter (wsV RX3 46 RJx4a65c yJx4a65c_size_8abf5 wsJx4a65c_size_8abf5) := goodIn_app (goodIn_of _ (by decide +kernel)) ggX3_findGetter_Jx4a65c_size_8abf5
set_option maxRecDepth 100000 in
set_option maxHeartbeats 4000000 in
theorem ggX3_findGetter_Jx4a65c_get_915e3 : GoodIn wsX3_findGetter wsJx4a65c_get_915e3 := goodIn_k ch_wsX3_findGetter chm_wsX3_findGetter _ [(0, 13), (0, 9), (0, 14), (0, 15), (0, 16), (0, 17), (0, 18), (0, 19), (0, 20), (0, 21), (0, 22), (0, 23), (1, 0), (0, 7), (1, 1), (1, 2), (4, 0), (4, 1), (4, 2)] (by rfl) (by decide +kernel)
set_option maxRecDepth 20000 in
theorem gX3_findGetter_Jx4a65c_get_915e3 : GoodIn wsX3_findGetter (wsV RX3 109 RJx4a65c yJx4a65c_get_915e3 wsJx4a65c_get_915e3) := goodIn_app (goodIn_of _ (by decide +kernel)) ggX3_findGetter_Jx4a65c_get_915e3
set_option maxRecDepth 100000 in
set_option maxHeartbeats 4000000 in
theorem ggX3_findGetter_X1_room : GoodIn wsX3_findGetter wsX1_room := goodIn_k ch_wsX3_findGetter chm_wsX3_findGetter _ [(1, 7), (1, 8), (1, 9), (1, 10), (1, 11), (1, 12), (1, 13), (1, 14), (5, 0), (5, 1), (5, 2)] (by rfl) (by decide +kernel)
set_option maxRecDepth 20000 in
theorem gX3_findGetter_X1_room : GoodIn wsX3_findGetter (wsV RX3 173 RX1 yX1_room wsX1_room) := goodIn_app (goodIn_of _ (by decide +kernel)) ggX3_findGetter_X1_room
theorem dX3_findGetter_0 : decode cX3_findGetter 0 = .ok (.aconst_null, 1) := by decide +kernel
theorem dX3_findGetter_1 : decode cX3_findGetter 1 = .ok (.astore_n 1, 1) := by decide +kernel
theorem dX3_findGetter_2 : decode cX3_findGetter 2 = .ok (.iconst 0, 1) := by decide +kernel
theorem dX3_findGetter_3 : decode cX3_findGetter 3 = .ok (.istore_n 2, 1) := by decide +kernel
theorem dX3_findGetter_4 : decode cX3_findGetter 4 = .ok (.iload_n 2, 1) := by decide +kernel
theorem dX3_findGetter_5 : decode cX3_findGetter 5 = .ok (.aload_n 0, 1) := by decide +kernel
theorem dX3_findGetter_6 : decode cX3_findGetter 6 = .ok (.getfield 71, 3) := by decide +kernel
theorem dX3_findGetter_9 : decode cX3_findGetter 9 = .ok (.invokevirtual 46, 3) := by decide +kernel
theorem dX3_findGetter_12 : decode cX3_findGetter 12 = .ok (.if_icmp .ge 78, 3) := by decide +kernel
theorem dX3_findGetter_15 : decode cX3_findGetter 15 = .ok (.aload_n 0, 1) := by decide +kernel
theorem dX3_findGetter_16 : decode cX3_findGetter 16 = .ok (.getfield 71, 3) := by decide +kernel
theorem dX3_findGetter_19 : decode cX3_findGetter 19 = .ok (.iload_n 2, 1) := by decide +kernel
theorem dX3_findGetter_20 : decode cX3_findGetter 20 = .ok (.invokevirtual 109, 3) := by decide +kernel
theorem dX3_findGetter_23 : decode cX3_findGetter 23 = .ok (.checkcast 55, 3) := by decide +kernel
theorem dX3_findGetter_26 : decode cX3_findGetter 26 = .ok (.astore_n 3, 1) := by decide +kernel
theorem dX3_findGetter_27 : decode cX3_findGetter 27 = .ok (.aload_n 3, 1) := by decide +kernel
theorem dX3_findGetter_28 : decode cX3_findGetter 28 = .ok (.getfield 149, 3) := by decide +kernel
theorem dX3_findGetter_31 : decode cX3_findGetter 31 = .ok (.lconst 0, 1) := by decide +kernel
theorem dX3_findGetter_32 : decode cX3_findGetter 32 = .ok (.lcmp, 1) := by decide +kernel
theorem dX3_findGetter_33 : decode cX3_findGetter 33 = .ok (.ifCond .lt 19, 3) := by decide +kernel
theorem dX3_findGetter_36 : decode cX3_findGetter 36 = .ok (.aload_n 3, 1) := by decide +kernel
theorem dX3_findGetter_37 : decode cX3_findGetter 37 = .ok (.getfield 145, 3) := by decide +kernel
theorem dX3_findGetter_40 : decode cX3_findGetter 40 = .ok (.invokevirtual 173, 3) := by decide +kernel
theorem dX3_findGetter_43 : decode cX3_findGetter 43 = .ok (.lconst 0, 1) := by decide +kernel
theorem dX3_findGetter_44 : decode cX3_findGetter 44 = .ok (.lcmp, 1) := by decide +kernel
theorem dX3_findGetter_45 : decode cX3_findGetter 45 = .ok (.ifCond .le 7, 3) := by decide +kernel
theorem dX3_findGetter_48 : decode cX3_findGetter 48 = .ok (.iconst 1, 1) := by decide +kernel
theorem dX3_findGetter_49 : decode cX3_findGetter 49 = .ok (.goto 4, 3) := by decide +kernel
theorem dX3_findGetter_52 : decode cX3_findGetter 52 = .ok (.iconst 0, 1) := by decide +kernel
theorem dX3_findGetter_53 : decode cX3_findGetter 53 = .ok (.istore 4, 2) := by decide +kernel
theorem dX3_findGetter_55 : decode cX3_findGetter 55 = .ok (.iload 4, 2) := by decide +kernel
theorem dX3_findGetter_57 : decode cX3_findGetter 57 = .ok (.ifCond .eq 27, 3) := by decide +kernel
theorem dX3_findGetter_60 : decode cX3_findGetter 60 = .ok (.aload_n 1, 1) := by decide +kernel
theorem dX3_findGetter_61 : decode cX3_findGetter 61 = .ok (.ifnull 21, 3) := by decide +kernel
theorem dX3_findGetter_64 : decode cX3_findGetter 64 = .ok (.aload_n 3, 1) := by decide +kernel
theorem dX3_findGetter_65 : decode cX3_findGetter 65 = .ok (.getfield 145, 3) := by decide +kernel
theorem dX3_findGetter_68 : decode cX3_findGetter 68 = .ok (.invokevirtual 173, 3) := by decide +kernel
theorem dX3_findGetter_71 : decode cX3_findGetter 71 = .ok (.aload_n 1, 1) := by decide +kernel
theorem dX3_findGetter_72 : decode cX3_findGetter 72 = .ok (.getfield 145, 3) := by decide +kernel
theorem dX3_findGetter_75 : decode cX3_findGetter 75 = .ok (.invokevirtual 173, 3) := by decide +kernel
theorem dX3_findGetter_78 : decode cX3_findGetter 78 = .ok (.lcmp, 1) := by decide +kernel
theorem dX3_findGetter_79 : decode cX3_findGetter 79 = .ok (.ifCond .le 5, 3) := by decide +kernel
theorem dX3_findGetter_82 : decode cX3_findGetter 82 = .ok (.aload_n 3, 1) := by decide +kernel
theorem dX3_findGetter_83 : decode cX3_findGetter 83 = .ok (.astore_n 1, 1) := by decide +kernel
theorem dX3_findGetter_84 : decode cX3_findGetter 84 = .ok (.iinc 2 1, 3) := by decide +kernel
theorem dX3_findGetter_87 : decode cX3_findGetter 87 = .ok (.goto (-83), 3) := by decide +kernel
theorem dX3_findGetter_90 : decode cX3_findGetter 90 = .ok (.aload_n 1, 1) := by decide +kernel
theorem dX3_findGetter_91 : decode cX3_findGetter 91 = .ok (.areturn, 1) := by decide +kernel
def ch_wsX3_moveAway : List (List Cond) := [wsX3_moveAway_r1, wsX3_moveAway_r2, wsX3_moveAway_r3, wsX00, wsX60, wsJx4a65c0, wsX10]
theorem chm_wsX3_moveAway : ∀ c ∈ ch_wsX3_moveAway, ∀ w ∈ c, w ∈ wsX3_moveAway := List.forall_mem_cons.mpr ⟨(fun w h => (List.mem_cons_of_mem _ (List.mem_append_left _ (List.mem_append_left _ (List.mem_append_left _ (List.mem_append_left _ (List.mem_append_left _ h))))))), List.forall_mem_cons.mpr ⟨(fun w h => (List.mem_cons_of_mem _ (List.mem_append_left _ (List.mem_append_left _ (List.mem_append_left _ (List.mem_append_left _ (List.mem_append_right _ (List.mem_append_left _ h)))))))), List.forall_mem_cons.mpr ⟨(fun w h => (List.mem_cons_of_mem _ (List.mem_append_left _ (List.mem_append_left _ (List.mem_append_left _ (List.mem_append_left _ (List.mem_append_right _ (List.mem_append_right _ h)))))))), List.forall_mem_cons.mpr ⟨(fun w h => (List.mem_cons_of_mem _ (List.mem_append_left _ (List.mem_append_left _ (List.mem_append_left _ (List.mem_append_right _ h)))))), List.forall_mem_cons.mpr ⟨(fun w h => (List.mem_cons_of_mem _ (List.mem_append_left _ (List.mem_append_left _ (List.mem_append_right _ h))))), List.forall_mem_cons.mpr ⟨(fun w h => (List.mem_cons_of_mem _ (List.mem_append_left _ (List.mem_append_right _ h)))), List.forall_mem_cons.mpr ⟨(fun w h => (List.mem_cons_of_mem _ (List.mem_append_right _ h))), fun _ h => absurd h List.not_mem_nil⟩⟩⟩⟩⟩⟩⟩
set_option maxRecDepth 100000 in
set_option maxHeartbeats 4000000 in
theorem ggX3_moveAway_X3_findGetter : GoodIn wsX3_moveAway wsX3_findGetter := goodIn_k ch_wsX3_moveAway chm_wsX3_moveAway _ [(0, 10), (0, 11), (0, 12), (0, 1), (0, 2), (0, 13), (0, 14), (0, 15), (0, 16), (0, 17), (0, 18), (0, 19), (0, 20), (0, 21), (0, 22), (0, 23), (1, 0), (1, 1), (1, 2), (1, 3), (1, 4), (1, 5), (1, 6), (1, 7), (1, 8), (1, 9), (1, 10), (1, 11), (1, 12), (1, 13), (1, 14), (1, 15), (1, 16), (1, 17), (1, 18), (1, 19), (1, 20), (1, 21), (0, 5), (1, 22), (4, 0), (4, 1), (4, 2), (4, 3), (4, 4), (3, 0), (3, 1), (3, 2), (3, 3), (3, 4), (3, 5), (3, 6), (3, 7), (3, 8), (3, 9), (3, 10), (3, 11), (5, 0), (5, 1), (5, 2), (6, 0), (6, 1), (6, 2)] (by rfl) (by decide +kernel)
set_option maxRecDepth 20000 in
theorem gX3_moveAway_X3_findGetter : GoodIn wsX3_moveAway (va_wsS RX3 162 yX3_findGetter wsX3_findGetter) := goodIn_app (goodIn_of _ (by decide +kernel)) ggX3_moveAway_X3_findGetter
set_option maxRecDepth 100000 in
set_option maxHeartbeats 4000000 in
theorem ggX3_moveAway_X1_room : GoodIn wsX3_moveAway wsX1_room := goodIn_k ch_wsX3_moveAway chm_wsX3_moveAway _ [(1, 16), (1, 17), (1, 18), (1, 19), (1, 20), (1, 21), (0, 5), (1, 22), (6, 0), (6, 1), (6, 2)] (by rfl) (by decide +kernel)
set_option maxRecDepth 20000 in
theorem gX3_moveAway_X1_room : GoodIn wsX3_moveAway (wsV RX3 173 RX1 yX1_room wsX1_room) := goodIn_app (goodIn_of _ (by decide +kernel)) ggX3_moveAway_X1_room
set_option maxRecDepth 100000 in
set_option maxHeartbeats 4000000 in
theorem ggX3_moveAway_X1_excess : GoodIn wsX3_moveAway wsX1_excess := goodIn_k ch_wsX3_moveAway chm_wsX3_moveAway _ [(2, 2), (1, 17), (1, 19), (1, 20), (1, 21), (0, 5), (1, 22), (6, 0), (6, 1), (6, 2)] (by rfl) (by decide +kernel)
set_option maxRecDepth 20000 in
theorem gX3_moveAway_X1_excess : GoodIn wsX3_moveAway (wsV RX3 158 RX1 yX1_excess wsX1_excess) := goodIn_app (goodIn_of _ (by decide +kernel)) ggX3_moveAway_X1_excess
theorem dX3_moveAway_0 : decode cX3_moveAway 0 = .ok (.aload_n 0, 1) := by decide +kernel
theorem dX3_moveAway_1 : decode cX3_moveAway 1 = .ok (.getfield 64, 3) := by decide +kernel
theorem dX3_moveAway_4 : decode cX3_moveAway 4 = .ok (.invokestatic 162, 3) := by decide +kernel
theorem dX3_moveAway_7 : decode cX3_moveAway 7 = .ok (.astore_n 1, 1) := by decide +kernel
theorem dX3_moveAway_8 : decode cX3_moveAway 8 = .ok (.aload_n 1, 1) := by decide +kernel
theorem dX3_moveAway_9 : decode cX3_moveAway 9 = .ok (.ifnonnull 5, 3) := by decide +kernel
theorem dX3_moveAway_12 : decode cX3_moveAway 12 = .ok (.iconst 0, 1) := by decide +kernel
theorem dX3_moveAway_13 : decode cX3_moveAway 13 = .ok (.ireturn, 1) := by decide +kernel
theorem dX3_moveAway_14 : decode cX3_moveAway 14 = .ok (.aload_n 0, 1) := by decide +kernel
theorem dX3_moveAway_15 : decode cX3_moveAway 15 = .ok (.getfield 149, 3) := by decide +kernel
theorem dX3_moveAway_18 : decode cX3_moveAway 18 = .ok (.aload_n 1, 1) := by decide +kernel
theorem dX3_moveAway_19 : decode cX3_moveAway 19 = .ok (.getfield 145, 3) := by decide +kernel
theorem dX3_moveAway_22 : decode cX3_moveAway 22 = .ok (.invokevirtual 173, 3) := by decide +kernel
theorem dX3_moveAway_25 : decode cX3_moveAway 25 = .ok (.invokestatic 176, 3) := by decide +kernel
theorem dX3_moveAway_28 : decode cX3_moveAway 28 = .ok (.lstore_n 2, 1) := by decide +kernel
theorem dX3_moveAway_29 : decode cX3_moveAway 29 = .ok (.aload_n 0, 1) := by decide +kernel
theorem dX3_moveAway_30 : decode cX3_moveAway 30 = .ok (.getfield 145, 3) := by decide +kernel
theorem dX3_moveAway_33 : decode cX3_moveAway 33 = .ok (.invokevirtual 158, 3) := by decide +kernel
theorem dX3_moveAway_36 : decode cX3_moveAway 36 = .ok (.lload_n 2, 1) := by decide +kernel
theorem dX3_moveAway_37 : decode cX3_moveAway 37 = .ok (.invokestatic 176, 3) := by decide +kernel
theorem dX3_moveAway_40 : decode cX3_moveAway 40 = .ok (.lstore 4, 2) := by decide +kernel
theorem dX3_moveAway_42 : decode cX3_moveAway 42 = .ok (.aload_n 0, 1) := by decide +kernel
theorem dX3_moveAway_43 : decode cX3_moveAway 43 = .ok (.dup, 1) := by decide +kernel
theorem dX3_moveAway_44 : decode cX3_moveAway 44 = .ok (.getfield 149, 3) := by decide +kernel
theorem dX3_moveAway_47 : decode cX3_moveAway 47 = .ok (.lload 4, 2) := by decide +kernel
theorem dX3_moveAway_49 : decode cX3_moveAway 49 = .ok (.lsub, 1) := by decide +kernel
theorem dX3_moveAway_50 : decode cX3_moveAway 50 = .ok (.putfield 149, 3) := by decide +kernel
theorem dX3_moveAway_53 : decode cX3_moveAway 53 = .ok (.aload_n 1, 1) := by decide +kernel
theorem dX3_moveAway_54 : decode cX3_moveAway 54 = .ok (.dup, 1) := by decide +kernel
theorem dX3_moveAway_55 : decode cX3_moveAway 55 = .ok (.getfield 149, 3) := by decide +kernel
theorem dX3_moveAway_58 : decode cX3_moveAway 58 = .ok (.lload 4, 2) := by decide +kernel
theorem dX3_moveAway_60 : decode cX3_moveAway 60 = .ok (.ladd, 1) := by decide +kernel
theorem dX3_moveAway_61 : decode cX3_moveAway 61 = .ok (.putfield 149, 3) := by decide +kernel
theorem dX3_moveAway_64 : decode cX3_moveAway 64 = .ok (.iconst 1, 1) := by decide +kernel
theorem dX3_moveAway_65 : decode cX3_moveAway 65 = .ok (.ireturn, 1) := by decide +kernel
def ch_wsX3_accrueInterest : List (List Cond) := [wsX3_accrueInterest_r1, wsX3_accrueInterest_r2, wsX3_accrueInterest_r3, wsX30, wsX00, wsJx4a65c0, wsX60, wsX70, wsX50]
theorem chm_wsX3_accrueInterest : ∀ c ∈ ch_wsX3_accrueInterest, ∀ w ∈ c, w ∈ wsX3_accrueInterest := List.forall_mem_cons.mpr ⟨(fun w h => (List.mem_cons_of_mem _ (List.mem_append_left _ (List.mem_append_left _ (List.mem_append_left _ (List.mem_append_left _ (List.mem_append_left _ (List.mem_append_left _ (List.mem_append_left _ h))))))))), List.forall_mem_cons.mpr ⟨(fun w h => (List.mem_cons_of_mem _ (List.mem_append_left _ (List.mem_append_left _ (List.mem_append_left _ (List.mem_append_left _ (List.mem_append_left _ (List.mem_append_left _ (List.mem_append_right _ (List.mem_append_left _ h)))))))))), List.forall_mem_cons.mpr ⟨(fun w h => (List.mem_cons_of_mem _ (List.mem_append_left _ (List.mem_append_left _ (List.mem_append_left _ (List.mem_append_left _ (List.mem_append_left _ (List.mem_append_left _ (List.mem_append_right _ (List.mem_append_right _ h)))))))))), List.forall_mem_cons.mpr ⟨(fun w h => (List.mem_cons_of_mem _ (List.mem_append_left _ (List.mem_append_left _ (List.mem_append_left _ (List.mem_append_left _ (List.mem_append_left _ (List.mem_append_right _ h)))))))), List.forall_mem_cons.mpr ⟨(fun w h => (List.mem_cons_of_mem _ (List.mem_append_left _ (List.mem_append_left _ (List.mem_append_left _ (List.mem_append_left _ (List.mem_append_right _ h))))))), List.forall_mem_cons.mpr ⟨(fun w h => (List.mem_cons_of_mem _ (List.mem_append_left _ (List.mem_append_left _ (List.mem_append_left _ (List.mem_append_right _ h)))))), List.forall_mem_cons.mpr ⟨(fun w h => (List.mem_cons_of_mem _ (List.mem_append_left _ (List.mem_append_left _ (List.mem_append_right _ h))))), List.forall_mem_cons.mpr ⟨(fun w h => (List.mem_cons_of_mem _ (List.mem_append_left _ (List.mem_append_right _ h)))), List.forall_mem_cons.mpr ⟨(fun w h => (List.mem_cons_of_mem _ (List.mem_append_right _ h))), fun _ h => absurd h List.not_mem_nil⟩⟩⟩⟩⟩⟩⟩⟩⟩
set_option maxRecDepth 100000 in
set_option maxHeartbeats 4000000 in
theorem ggX3_accrueInterest_Jx4a65c_size_8abf5 : GoodIn wsX3_accrueInterest wsJx4a65c_size_8abf5 := goodIn_k ch_wsX3_accrueInterest chm_wsX3_accrueInterest _ [(0, 9), (0, 10), (5, 0), (5, 1), (5, 2)] (by rfl) (by decide +kernel)
set_option maxRecDepth 20000 in
theorem gX3_accrueInterest_Jx4a65c_size_8abf5 : GoodIn wsX3_accrueInterest (wsV RX3 46 RJx4a65c yJx4a65c_size_8abf5 wsJx4a65c_size_8abf5) := goodIn_app (goodIn_of _ (by decide +kernel)) ggX3_accrueInterest_Jx4a65c_size_8abf5
set_option maxRecDepth 100000 in
set_option maxHeartbeats 4000000 in
theorem ggX3_accrueInterest_Jx4a65c_get_915e3 : GoodIn wsX3_accrueInterest wsJx4a65c_get_915e3 := goodIn_k ch_wsX3_accrueInterest chm_wsX3_accrueInterest _ [(0, 14), (0, 10), (0, 15), (0, 16), (0, 17), (0, 18), (0, 19), (0, 20), (0, 21), (0, 22), (0, 23), (1, 0), (1, 1), (0, 8), (1, 2), (1, 3), (5, 0), (5, 1), (5, 2)] (by rfl) (by decide +kernel)
set_option maxRecDepth 20000 in
theorem gX3_accrueInterest_Jx4a65c_get_915e3 : GoodIn wsX3_accrueInterest (wsV RX3 109 RJx4a65c yJx4a65c_get_915e3 wsJx4a65c_get_915e3) := goodIn_app (goodIn_of _ (by decide +kernel)) ggX3_accrueInterest_Jx4a65c_get_915e3
set_option maxRecDepth 100000 in
set_option maxHeartbeats 4000000 in
theorem ggX3_accrueInterest_X6_accrue : GoodIn wsX3_accrueInterest wsX6_accrue := goodIn_k ch_wsX3_accrueInterest chm_wsX3_accrueInterest _ [(1, 8), (1, 9), (1, 10), (1, 11), (1, 12), (1, 13), (1, 14), (0, 6), (0, 7), (0, 8), (0, 9), (0, 10), (1, 15), (0, 12), (0, 13), (0, 14), (0, 15), (0, 16), (0, 17), (0, 18), (0, 19), (0, 20), (0, 21), (0, 22), (0, 23), (1, 0), (1, 1), (1, 2), (1, 3), (1, 16), (1, 17), (1, 18), (1, 19), (1, 20), (1, 21), (1, 22), (1, 23), (2, 0), (2, 1), (2, 2), (2, 3), (2, 4), (2, 5), (2, 6), (2, 7), (2, 8), (6, 0), (6, 1), (6, 2), (6, 3), (6, 4), (4, 0), (4, 1), (4, 2), (4, 3), (4, 4), (4, 5), (4, 6), (4, 7), (4, 8), (4, 9), (4, 10), (4, 11), (5, 0), (5, 1), (5, 2), (7, 0), (7, 1), (7, 2), (7, 3), (7, 4), (7, 5), (7, 6), (7, 7), (7, 8), (7, 9)] (by rfl) (by decide +kernel)
set_option maxRecDepth 20000 in
theorem gX3_accrueInterest_X6_accrue : GoodIn wsX3_accrueInterest (wsV RX3 179 RX6 yX6_accrue wsX6_accrue) := goodIn_app (goodIn_of _ (by decide +kernel)) ggX3_accrueInterest_X6_accrue
set_option maxRecDepth 100000 in
set_option maxHeartbeats 4000000 in
theorem ggX3_accrueInterest_X5_accrue : GoodIn wsX3_accrueInterest wsX5_accrue := goodIn_k ch_wsX3_accrueInterest chm_wsX3_accrueInterest _ [(2, 13), (2, 14), (2, 15), (2, 16), (8, 0), (8, 1), (8, 2), (8, 3), (8, 4), (8, 5), (8, 6), (8, 7), (8, 8)] (by rfl) (by decide +kernel)
set_option maxRecDepth 20000 in
theorem gX3_accrueInterest_X5_accrue : GoodIn wsX3_accrueInterest (wsV RX3 182 RX5 yX5_accrue wsX5_accrue) := goodIn_app (goodIn_of _ (by decide +kernel)) ggX3_accrueInterest_X5_accrue
theorem dX3_accrueInterest_0 : decode cX3_accrueInterest 0 = .ok (.iconst 0, 1) := by decide +kernel
theorem dX3_accrueInterest_1 : decode cX3_accrueInterest 1 = .ok (.istore_n 1, 1) := by decide +kernel
theorem dX3_accrueInterest_2 : decode cX3_accrueInterest 2 = .ok (.iload_n 1, 1) := by decide +kernel
theorem dX3_accrueInterest_3 : decode cX3_accrueInterest 3 = .ok (.aload_n 0, 1) := by decide +kernel
theorem dX3_accrueInterest_4 : decode cX3_accrueInterest 4 = .ok (.getfield 18, 3) := by decide +kernel
theorem dX3_accrueInterest_7 : decode cX3_accrueInterest 7 = .ok (.invokevirtual 46, 3) := by decide +kernel
theorem dX3_accrueInterest_10 : decode cX3_accrueInterest 10 = .ok (.if_icmp .ge 26, 3) := by decide +kernel
theorem dX3_accrueInterest_13 : decode cX3_accrueInterest 13 = .ok (.aload_n 0, 1) := by decide +kernel
theorem dX3_accrueInterest_14 : decode cX3_accrueInterest 14 = .ok (.getfield 18, 3) := by decide +kernel
theorem dX3_accrueInterest_17 : decode cX3_accrueInterest 17 = .ok (.iload_n 1, 1) := by decide +kernel
theorem dX3_accrueInterest_18 : decode cX3_accrueInterest 18 = .ok (.invokevirtual 109, 3) := by decide +kernel
theorem dX3_accrueInterest_21 : decode cX3_accrueInterest 21 = .ok (.checkcast 55, 3) := by decide +kernel
theorem dX3_accrueInterest_24 : decode cX3_accrueInterest 24 = .ok (.getfield 64, 3) := by decide +kernel
theorem dX3_accrueInterest_27 : decode cX3_accrueInterest 27 = .ok (.invokevirtual 179, 3) := by decide +kernel
theorem dX3_accrueInterest_30 : decode cX3_accrueInterest 30 = .ok (.iinc 1 1, 3) := by decide +kernel
theorem dX3_accrueInterest_33 : decode cX3_accrueInterest 33 = .ok (.goto (-31), 3) := by decide +kernel
theorem dX3_accrueInterest_36 : decode cX3_accrueInterest 36 = .ok (.iconst 0, 1) := by decide +kernel
theorem dX3_accrueInterest_37 : decode cX3_accrueInterest 37 = .ok (.istore_n 1, 1) := by decide +kernel
theorem dX3_accrueInterest_38 : decode cX3_accrueInterest 38 = .ok (.iload_n 1, 1) := by decide +kernel
theorem dX3_accrueInterest_39 : decode cX3_accrueInterest 39 = .ok (.aload_n 0, 1) := by decide +kernel
theorem dX3_accrueInterest_40 : decode cX3_accrueInterest 40 = .ok (.getfield 21, 3) := by decide +kernel
theorem dX3_accrueInterest_43 : decode cX3_accrueInterest 43 = .ok (.invokevirtual 46, 3) := by decide +kernel
theorem dX3_accrueInterest_46 : decode cX3_accrueInterest 46 = .ok (.if_icmp .ge 23, 3) := by decide +kernel
theorem dX3_accrueInterest_49 : decode cX3_accrueInterest 49 = .ok (.aload_n 0, 1) := by decide +kernel
theorem dX3_accrueInterest_50 : decode cX3_accrueInterest 50 = .ok (.getfield 21, 3) := by decide +kernel
theorem dX3_accrueInterest_53 : decode cX3_accrueInterest 53 = .ok (.iload_n 1, 1) := by decide +kernel
theorem dX3_accrueInterest_54 : decode cX3_accrueInterest 54 = .ok (.invokevirtual 109, 3) := by decide +kernel
theorem dX3_accrueInterest_57 : decode cX3_accrueInterest 57 = .ok (.checkcast 74, 3) := by decide +kernel
theorem dX3_accrueInterest_60 : decode cX3_accrueInterest 60 = .ok (.invokevirtual 182, 3) := by decide +kernel
theorem dX3_accrueInterest_63 : decode cX3_accrueInterest 63 = .ok (.iinc 1 1, 3) := by decide +kernel
theorem dX3_accrueInterest_66 : decode cX3_accrueInterest 66 = .ok (.goto (-28), 3) := by decide +kernel
theorem dX3_accrueInterest_69 : decode cX3_accrueInterest 69 = .ok (.return_, 1) := by decide +kernel
def ch_wsX3_bookInterest : List (List Cond) := [wsX3_bookInterest_r1, wsX3_bookInterest_r2, wsX3_bookInterest_r3, wsX3_bookInterest_r4, wsX30, wsX00, wsJx4a65c0, wsX60, wsX70, wsX50]
theorem chm_wsX3_bookInterest : ∀ c ∈ ch_wsX3_bookInterest, ∀ w ∈ c, w ∈ wsX3_bookInterest := List.forall_mem_cons.mpr ⟨(fun w h => (List.mem_cons_of_mem _ (List.mem_append_left _ (List.mem_append_left _ (List.mem_append_left _ (List.mem_append_left _ (List.mem_append_left _ (List.mem_append_left _ (List.mem_append_left _ h))))))))), List.forall_mem_cons.mpr ⟨(fun w h => (List.mem_cons_of_mem _ (List.mem_append_left _ (List.mem_append_left _ (List.mem_append_left _ (List.mem_append_left _ (List.mem_append_left _ (List.mem_append_left _ (List.mem_append_right _ (List.mem_append_left _ h)))))))))), List.forall_mem_cons.mpr ⟨(fun w h => (List.mem_cons_of_mem _ (List.mem_append_left _ (List.mem_append_left _ (List.mem_append_left _ (List.mem_append_left _ (List.mem_append_left _ (List.mem_append_left _ (List.mem_append_right _ (List.mem_append_right _ (List.mem_append_left _ h))))))))))), List.forall_mem_cons.mpr ⟨(fun w h => (List.mem_cons_of_mem _ (List.mem_append_left _ (List.mem_append_left _ (List.mem_append_left _ (List.mem_append_left _ (List.mem_append_left _ (List.mem_append_left _ (List.mem_append_right _ (List.mem_append_right _ (List.mem_append_right _ h))))))))))), List.forall_mem_cons.mpr ⟨(fun w h => (List.mem_cons_of_mem _ (List.mem_append_left _ (List.mem_append_left _ (List.mem_append_left _ (List.mem_append_left _ (List.mem_append_left _ (List.mem_append_right _ h)))))))), List.forall_mem_cons.mpr ⟨(fun w h => (List.mem_cons_of_mem _ (List.mem_append_left _ (List.mem_append_left _ (List.mem_append_left _ (List.mem_append_left _ (List.mem_append_right _ h))))))), List.forall_mem_cons.mpr ⟨(fun w h => (List.mem_cons_of_mem _ (List.mem_append_left _ (List.mem_append_left _ (List.mem_append_left _ (List.mem_append_right _ h)))))), List.forall_mem_cons.mpr ⟨(fun w h => (List.mem_cons_of_mem _ (List.mem_append_left _ (List.mem_append_left _ (List.mem_append_right _ h))))), List.forall_mem_cons.mpr ⟨(fun w h => (List.mem_cons_of_mem _ (List.mem_append_left _ (List.mem_append_right _ h)))), List.forall_mem_cons.mpr ⟨(fun w h => (List.mem_cons_of_mem _ (List.mem_append_right _ h))), fun _ h => absurd h List.not_mem_nil⟩⟩⟩⟩⟩⟩⟩⟩⟩⟩
set_option maxRecDepth 100000 in
set_option maxHeartbeats 4000000 in
theorem ggX3_bookInterest_Jx4a65c_size_8abf5 : GoodIn wsX3_bookInterest wsJx4a65c_size_8abf5 := goodIn_k ch_wsX3_bookInterest chm_wsX3_bookInterest _ [(0, 9), (0, 10), (6, 0), (6, 1), (6, 2)] (by rfl) (by decide +kernel)
set_option maxRecDepth 20000 in
theorem gX3_bookInterest_Jx4a65c_size_8abf5 : GoodIn wsX3_bookInterest (wsV RX3 46 RJx4a65c yJx4a65c_size_8abf5 wsJx4a65c_size_8abf5) := goodIn_app (goodIn_of _ (by decide +kernel)) ggX3_bookInterest_Jx4a65c_size_8abf5
set_option maxRecDepth 100000 in
set_option maxHeartbeats 4000000 in
theorem ggX3_bookInterest_Jx4a65c_get_915e3 : GoodIn wsX3_bookInterest wsJx4a65c_get_915e3 := goodIn_k ch_wsX3_bookInterest chm_wsX3_bookInterest _ [(0, 14), (0, 10), (0, 15), (0, 16), (0, 17), (0, 18), (0, 19), (0, 20), (0, 21), (0, 22), (0, 23), (1, 0), (1, 1), (0, 8), (1, 2), (1, 3), (6, 0), (6, 1), (6, 2)] (by rfl) (by decide +kernel)
set_option maxRecDepth 20000 in
theorem gX3_bookInterest_Jx4a65c_get_915e3 : GoodIn wsX3_bookInterest (wsV RX3 109 RJx4a65c yJx4a65c_get_915e3 wsJx4a65c_get_915e3) := goodIn_app (goodIn_of _ (by decide +kernel)) ggX3_bookInterest_Jx4a65c_get_915e3
set_option maxRecDepth 100000 in
set_option maxHeartbeats 4000000 in
theorem ggX3_bookInterest_X6_bookInterest : GoodIn wsX3_bookInterest wsX6_bookInterest := goodIn_k ch_wsX3_bookInterest chm_wsX3_bookInterest _ [(1, 8), (1, 9), (1, 10), (1, 11), (1, 12), (1, 13), (1, 14), (1, 15), (1, 16), (1, 17), (1, 18), (1, 19), (1, 20), (1, 21), (1, 22), (1, 23), (2, 0), (2, 1), (2, 2), (2, 3), (2, 4), (2, 5), (2, 6), (2, 7), (2, 8), (2, 9), (2, 10), (0, 6), (0, 7), (0, 8), (0, 9), (0, 10), (2, 11), (0, 12), (0, 13), (0, 14), (0, 15), (0, 16), (0, 17), (0, 18), (0, 19), (0, 20), (0, 21), (0, 22), (0, 23), (1, 0), (1, 1), (1, 2), (1, 3), (2, 12), (2, 13), (2, 14), (2, 15), (2, 16), (2, 17), (2, 18), (7, 0), (7, 1), (7, 2), (7, 3), (7, 4), (8, 0), (8, 1), (8, 2), (8, 3), (8, 4), (8, 5), (8, 6), (8, 7), (8, 8), (8, 9), (6, 0), (6, 1), (6, 2), (5, 0), (5, 1), (5, 2), (5, 3), (5, 4), (5, 5), (5, 6), (5, 7), (5, 8), (5, 9), (5, 10), (5, 11)] (by rfl) (by decide +kernel)
set_option maxRecDepth 20000 in
theorem gX3_bookInterest_X6_bookInterest : GoodIn wsX3_bookInterest (wsV RX3 183 RX6 yX6_bookInterest wsX6_bookInterest) := goodIn_app (goodIn_of _ (by decide +kernel)) ggX3_bookInterest_X6_bookInterest
set_option maxRecDepth 100000 in
set_option maxHeartbeats 4000000 in
theorem ggX3_bookInterest_X5_bookInterest : GoodIn wsX3_bookInterest wsX5_bookInterest := goodIn_k ch_wsX3_bookInterest chm_wsX3_bookInterest _ [(2, 23), (3, 0), (3, 1), (3, 2), (3, 3), (3, 4), (9, 0), (9, 1), (9, 2), (9, 3), (9, 4), (9, 5), (9, 6), (9, 7), (9, 8), (5, 0), (5, 1), (5, 2), (5, 3), (5, 4), (5, 5), (5, 6), (5, 7), (5, 8), (5, 9), (5, 10), (5, 11)] (by rfl) (by decide +kernel)
set_option maxRecDepth 20000 in
theorem gX3_bookInterest_X5_bookInterest : GoodIn wsX3_bookInterest (wsV RX3 184 RX5 yX5_bookInterest wsX5_bookInterest) := goodIn_app (goodIn_of _ (by decide +kernel)) ggX3_bookInterest_X5_bookInterest
theorem dX3_bookInterest_0 : decode cX3_bookInterest 0 = .ok (.iconst 0, 1) := by decide +kernel
theorem dX3_bookInterest_1 : decode cX3_bookInterest 1 = .ok (.istore_n 1, 1) := by decide +kernel
theorem dX3_bookInterest_2 : decode cX3_bookInterest 2 = .ok (.iload_n 1, 1) := by decide +kernel
theorem dX3_bookInterest_3 : decode cX3_bookInterest 3 = .ok (.aload_n 0, 1) := by decide +kernel
theorem dX3_bookInterest_4 : decode cX3_bookInterest 4 = .ok (.getfield 18, 3) := by decide +kernel
theorem dX3_bookInterest_7 : decode cX3_bookInterest 7 = .ok (.invokevirtual 46, 3) := by decide +kernel
theorem dX3_bookInterest_10 : decode cX3_bookInterest 10 = .ok (.if_icmp .ge 26, 3) := by decide +kernel
theorem dX3_bookInterest_13 : decode cX3_bookInterest 13 = .ok (.aload_n 0, 1) := by decide +kernel
theorem dX3_bookInterest_14 : decode cX3_bookInterest 14 = .ok (.getfield 18, 3) := by decide +kernel
theorem dX3_bookInterest_17 : decode cX3_bookInterest 17 = .ok (.iload_n 1, 1) := by decide +kernel
theorem dX3_bookInterest_18 : decode cX3_bookInterest 18 = .ok (.invokevirtual 109, 3) := by decide +kernel
theorem dX3_bookInterest_21 : decode cX3_bookInterest 21 = .ok (.checkcast 55, 3) := by decide +kernel
theorem dX3_bookInterest_24 : decode cX3_bookInterest 24 = .ok (.getfield 64, 3) := by decide +kernel
theorem dX3_bookInterest_27 : decode cX3_bookInterest 27 = .ok (.invokevirtual 183, 3) := by decide +kernel
theorem dX3_bookInterest_30 : decode cX3_bookInterest 30 = .ok (.iinc 1 1, 3) := by decide +kernel
theorem dX3_bookInterest_33 : decode cX3_bookInterest 33 = .ok (.goto (-31), 3) := by decide +kernel
theorem dX3_bookInterest_36 : decode cX3_bookInterest 36 = .ok (.iconst 0, 1) := by decide +kernel
theorem dX3_bookInterest_37 : decode cX3_bookInterest 37 = .ok (.istore_n 1, 1) := by decide +kernel
theorem dX3_bookInterest_38 : decode cX3_bookInterest 38 = .ok (.iload_n 1, 1) := by decide +kernel
theorem dX3_bookInterest_39 : decode cX3_bookInterest 39 = .ok (.aload_n 0, 1) := by decide +kernel
theorem dX3_bookInterest_40 : decode cX3_bookInterest 40 = .ok (.getfield 21, 3) := by decide +kernel
theorem dX3_bookInterest_43 : decode cX3_bookInterest 43 = .ok (.invokevirtual 46, 3) := by decide +kernel
theorem dX3_bookInterest_46 : decode cX3_bookInterest 46 = .ok (.if_icmp .ge 23, 3) := by decide +kernel
theorem dX3_bookInterest_49 : decode cX3_bookInterest 49 = .ok (.aload_n 0, 1) := by decide +kernel
theorem dX3_bookInterest_50 : decode cX3_bookInterest 50 = .ok (.getfield 21, 3) := by decide +kernel
theorem dX3_bookInterest_53 : decode cX3_bookInterest 53 = .ok (.iload_n 1, 1) := by decide +kernel
theorem dX3_bookInterest_54 : decode cX3_bookInterest 54 = .ok (.invokevirtual 109, 3) := by decide +kernel
theorem dX3_bookInterest_57 : decode cX3_bookInterest 57 = .ok (.checkcast 74, 3) := by decide +kernel
theorem dX3_bookInterest_60 : decode cX3_bookInterest 60 = .ok (.invokevirtual 184, 3) := by decide +kernel
theorem dX3_bookInterest_63 : decode cX3_bookInterest 63 = .ok (.iinc 1 1, 3) := by decide +kernel
theorem dX3_bookInterest_66 : decode cX3_bookInterest 66 = .ok (.goto (-28), 3) := by decide +kernel
theorem dX3_bookInterest_69 : decode cX3_bookInterest 69 = .ok (.return_, 1) := by decide +kernel
def ch_wsX3_sumOfFlows : List (List Cond) := [wsX3_sumOfFlows_r1, wsX3_sumOfFlows_r2, wsX30, wsX40, wsJx4a65c0, wsX20]
