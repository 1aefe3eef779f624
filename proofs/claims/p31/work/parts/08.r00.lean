set_option maxRecDepth 20000 in
theorem ggX0_init_Jx4a65c_init_da8c8 : GoodIn wsX0_init wsJx4a65c_init_da8c8 := goodIn_r _ [14, 15, 16, 17, 18, 19, 20, 21, 22, 23, 24, 25, 26, 2, 3, 27, 28, 29] (by decide +kernel) (by decide +kernel)
set_option maxRecDepth 20000 in
theorem gX0_init_Jx4a65c_init_da8c8 : GoodIn wsX0_init (wsJx4a65c_init_da8c8) := ggX0_init_Jx4a65c_init_da8c8
theorem dX0_init_0 : decode cX0_init 0 = .ok (.aload_n 0, 1) := by decide +kernel
theorem dX0_init_1 : decode cX0_init 1 = .ok (.invokespecial 1, 3) := by decide +kernel
theorem dX0_init_4 : decode cX0_init 4 = .ok (.aload_n 0, 1) := by decide +kernel
theorem dX0_init_5 : decode cX0_init 5 = .ok (.new 7, 3) := by decide +kernel
theorem dX0_init_8 : decode cX0_init 8 = .ok (.dup, 1) := by decide +kernel
theorem dX0_init_9 : decode cX0_init 9 = .ok (.invokespecial 9, 3) := by decide +kernel
theorem dX0_init_12 : decode cX0_init 12 = .ok (.putfield 10, 3) := by decide +kernel
theorem dX0_init_15 : decode cX0_init 15 = .ok (.aload_n 0, 1) := by decide +kernel
theorem dX0_init_16 : decode cX0_init 16 = .ok (.iload_n 1, 1) := by decide +kernel
theorem dX0_init_17 : decode cX0_init 17 = .ok (.putfield 16, 3) := by decide +kernel
theorem dX0_init_20 : decode cX0_init 20 = .ok (.aload_n 0, 1) := by decide +kernel
theorem dX0_init_21 : decode cX0_init 21 = .ok (.aload_n 2, 1) := by decide +kernel
theorem dX0_init_22 : decode cX0_init 22 = .ok (.putfield 20, 3) := by decide +kernel
theorem dX0_init_25 : decode cX0_init 25 = .ok (.aload_n 0, 1) := by decide +kernel
theorem dX0_init_26 : decode cX0_init 26 = .ok (.aload_n 3, 1) := by decide +kernel
theorem dX0_init_27 : decode cX0_init 27 = .ok (.putfield 24, 3) := by decide +kernel
theorem dX0_init_30 : decode cX0_init 30 = .ok (.aload_n 0, 1) := by decide +kernel
theorem dX0_init_31 : decode cX0_init 31 = .ok (.aload 4, 2) := by decide +kernel
theorem dX0_init_33 : decode cX0_init 33 = .ok (.putfield 28, 3) := by decide +kernel
theorem dX0_init_36 : decode cX0_init 36 = .ok (.return_, 1) := by decide +kernel
theorem dX0_surplusOf_0 : decode cX0_surplusOf 0 = .ok (.aload_n 0, 1) := by decide +kernel
theorem dX0_surplusOf_1 : decode cX0_surplusOf 1 = .ok (.getfield 32, 3) := by decide +kernel
theorem dX0_surplusOf_4 : decode cX0_surplusOf 4 = .ok (.tableswitch 60 1 3 #[28, 36, 48], 28) := by decide +kernel
theorem dX0_surplusOf_32 : decode cX0_surplusOf 32 = .ok (.lload_n 1, 1) := by decide +kernel
theorem dX0_surplusOf_33 : decode cX0_surplusOf 33 = .ok (.aload_n 0, 1) := by decide +kernel
theorem dX0_surplusOf_34 : decode cX0_surplusOf 34 = .ok (.getfield 35, 3) := by decide +kernel
theorem dX0_surplusOf_37 : decode cX0_surplusOf 37 = .ok (.i2l, 1) := by decide +kernel
theorem dX0_surplusOf_38 : decode cX0_surplusOf 38 = .ok (.lsub, 1) := by decide +kernel
theorem dX0_surplusOf_39 : decode cX0_surplusOf 39 = .ok (.lreturn, 1) := by decide +kernel
theorem dX0_surplusOf_40 : decode cX0_surplusOf 40 = .ok (.lload_n 1, 1) := by decide +kernel
theorem dX0_surplusOf_41 : decode cX0_surplusOf 41 = .ok (.aload_n 0, 1) := by decide +kernel
theorem dX0_surplusOf_42 : decode cX0_surplusOf 42 = .ok (.getfield 35, 3) := by decide +kernel
theorem dX0_surplusOf_45 : decode cX0_surplusOf 45 = .ok (.i2l, 1) := by decide +kernel
theorem dX0_surplusOf_46 : decode cX0_surplusOf 46 = .ok (.lsub, 1) := by decide +kernel
theorem dX0_surplusOf_47 : decode cX0_surplusOf 47 = .ok (.lconst 0, 1) := by decide +kernel
theorem dX0_surplusOf_48 : decode cX0_surplusOf 48 = .ok (.invokestatic 38, 3) := by decide +kernel
theorem dX0_surplusOf_51 : decode cX0_surplusOf 51 = .ok (.lreturn, 1) := by decide +kernel
theorem dX0_surplusOf_52 : decode cX0_surplusOf 52 = .ok (.lload_n 1, 1) := by decide +kernel
theorem dX0_surplusOf_53 : decode cX0_surplusOf 53 = .ok (.aload_n 0, 1) := by decide +kernel
theorem dX0_surplusOf_54 : decode cX0_surplusOf 54 = .ok (.getfield 35, 3) := by decide +kernel
theorem dX0_surplusOf_57 : decode cX0_surplusOf 57 = .ok (.i2l, 1) := by decide +kernel
theorem dX0_surplusOf_58 : decode cX0_surplusOf 58 = .ok (.lsub, 1) := by decide +kernel
theorem dX0_surplusOf_59 : decode cX0_surplusOf 59 = .ok (.lconst 0, 1) := by decide +kernel
theorem dX0_surplusOf_60 : decode cX0_surplusOf 60 = .ok (.invokestatic 44, 3) := by decide +kernel
theorem dX0_surplusOf_63 : decode cX0_surplusOf 63 = .ok (.lreturn, 1) := by decide +kernel
theorem dX0_surplusOf_64 : decode cX0_surplusOf 64 = .ok (.lconst 0, 1) := by decide +kernel
theorem dX0_surplusOf_65 : decode cX0_surplusOf 65 = .ok (.lreturn, 1) := by decide +kernel
theorem dX0_addInterest_0 : decode cX0_addInterest 0 = .ok (.aload_n 0, 1) := by decide +kernel
theorem dX0_addInterest_1 : decode cX0_addInterest 1 = .ok (.dup, 1) := by decide +kernel
theorem dX0_addInterest_2 : decode cX0_addInterest 2 = .ok (.getfield 47, 3) := by decide +kernel
theorem dX0_addInterest_5 : decode cX0_addInterest 5 = .ok (.lload_n 1, 1) := by decide +kernel
theorem dX0_addInterest_6 : decode cX0_addInterest 6 = .ok (.ladd, 1) := by decide +kernel
theorem dX0_addInterest_7 : decode cX0_addInterest 7 = .ok (.putfield 47, 3) := by decide +kernel
theorem dX0_addInterest_10 : decode cX0_addInterest 10 = .ok (.aload_n 0, 1) := by decide +kernel
theorem dX0_addInterest_11 : decode cX0_addInterest 11 = .ok (.dup, 1) := by decide +kernel
theorem dX0_addInterest_12 : decode cX0_addInterest 12 = .ok (.getfield 51, 3) := by decide +kernel
theorem dX0_addInterest_15 : decode cX0_addInterest 15 = .ok (.lload_n 1, 1) := by decide +kernel
theorem dX0_addInterest_16 : decode cX0_addInterest 16 = .ok (.ladd, 1) := by decide +kernel
theorem dX0_addInterest_17 : decode cX0_addInterest 17 = .ok (.putfield 51, 3) := by decide +kernel
theorem dX0_addInterest_20 : decode cX0_addInterest 20 = .ok (.return_, 1) := by decide +kernel
theorem dX0_keep_0 : decode cX0_keep 0 = .ok (.aload_n 0, 1) := by decide +kernel
theorem dX0_keep_1 : decode cX0_keep 1 = .ok (.aload_n 0, 1) := by decide +kernel
theorem dX0_keep_2 : decode cX0_keep 2 = .ok (.getfield 47, 3) := by decide +kernel
theorem dX0_keep_5 : decode cX0_keep 5 = .ok (.putfield 54, 3) := by decide +kernel
theorem dX0_keep_8 : decode cX0_keep 8 = .ok (.aload_n 0, 1) := by decide +kernel
theorem dX0_keep_9 : decode cX0_keep 9 = .ok (.aload_n 0, 1) := by decide +kernel
theorem dX0_keep_10 : decode cX0_keep 10 = .ok (.getfield 51, 3) := by decide +kernel
theorem dX0_keep_13 : decode cX0_keep 13 = .ok (.putfield 57, 3) := by decide +kernel
theorem dX0_keep_16 : decode cX0_keep 16 = .ok (.return_, 1) := by decide +kernel
theorem dX0_goBack_0 : decode cX0_goBack 0 = .ok (.aload_n 0, 1) := by decide +kernel
theorem dX0_goBack_1 : decode cX0_goBack 1 = .ok (.aload_n 0, 1) := by decide +kernel
theorem dX0_goBack_2 : decode cX0_goBack 2 = .ok (.getfield 54, 3) := by decide +kernel
theorem dX0_goBack_5 : decode cX0_goBack 5 = .ok (.putfield 47, 3) := by decide +kernel
theorem dX0_goBack_8 : decode cX0_goBack 8 = .ok (.aload_n 0, 1) := by decide +kernel
theorem dX0_goBack_9 : decode cX0_goBack 9 = .ok (.aload_n 0, 1) := by decide +kernel
theorem dX0_goBack_10 : decode cX0_goBack 10 = .ok (.getfield 57, 3) := by decide +kernel
theorem dX0_goBack_13 : decode cX0_goBack 13 = .ok (.putfield 51, 3) := by decide +kernel
theorem dX0_goBack_16 : decode cX0_goBack 16 = .ok (.return_, 1) := by decide +kernel
theorem dX1_init_0 : decode cX1_init 0 = .ok (.aload_n 0, 1) := by decide +kernel
theorem dX1_init_1 : decode cX1_init 1 = .ok (.invokespecial 3, 3) := by decide +kernel
theorem dX1_init_4 : decode cX1_init 4 = .ok (.aload_n 0, 1) := by decide +kernel
theorem dX1_init_5 : decode cX1_init 5 = .ok (.iconst (-1), 1) := by decide +kernel
theorem dX1_init_6 : decode cX1_init 6 = .ok (.putfield 9, 3) := by decide +kernel
theorem dX1_init_9 : decode cX1_init 9 = .ok (.aload_n 0, 1) := by decide +kernel
theorem dX1_init_10 : decode cX1_init 10 = .ok (.iload_n 1, 1) := by decide +kernel
theorem dX1_init_11 : decode cX1_init 11 = .ok (.putfield 15, 3) := by decide +kernel
theorem dX1_init_14 : decode cX1_init 14 = .ok (.return_, 1) := by decide +kernel
theorem dX1_excess_0 : decode cX1_excess 0 = .ok (.aload_n 0, 1) := by decide +kernel
theorem dX1_excess_1 : decode cX1_excess 1 = .ok (.getfield 9, 3) := by decide +kernel
theorem dX1_excess_4 : decode cX1_excess 4 = .ok (.iconst (-1), 1) := by decide +kernel
theorem dX1_excess_5 : decode cX1_excess 5 = .ok (.if_icmp .ne 7, 3) := by decide +kernel
theorem dX1_excess_8 : decode cX1_excess 8 = .ok (.lconst 0, 1) := by decide +kernel
theorem dX1_excess_9 : decode cX1_excess 9 = .ok (.goto 17, 3) := by decide +kernel
theorem dX1_excess_12 : decode cX1_excess 12 = .ok (.aload_n 0, 1) := by decide +kernel
theorem dX1_excess_13 : decode cX1_excess 13 = .ok (.getfield 18, 3) := by decide +kernel
theorem dX1_excess_16 : decode cX1_excess 16 = .ok (.aload_n 0, 1) := by decide +kernel
theorem dX1_excess_17 : decode cX1_excess 17 = .ok (.getfield 9, 3) := by decide +kernel
theorem dX1_excess_20 : decode cX1_excess 20 = .ok (.i2l, 1) := by decide +kernel
theorem dX1_excess_21 : decode cX1_excess 21 = .ok (.lsub, 1) := by decide +kernel
theorem dX1_excess_22 : decode cX1_excess 22 = .ok (.lconst 0, 1) := by decide +kernel
theorem dX1_excess_23 : decode cX1_excess 23 = .ok (.invokestatic 22, 3) := by decide +kernel
theorem dX1_excess_26 : decode cX1_excess 26 = .ok (.lreturn, 1) := by decide +kernel
theorem dX1_room_0 : decode cX1_room 0 = .ok (.aload_n 0, 1) := by decide +kernel
theorem dX1_room_1 : decode cX1_room 1 = .ok (.getfield 9, 3) := by decide +kernel
theorem dX1_room_4 : decode cX1_room 4 = .ok (.iconst (-1), 1) := by decide +kernel
theorem dX1_room_5 : decode cX1_room 5 = .ok (.if_icmp .ne 9, 3) := by decide +kernel
theorem dX1_room_8 : decode cX1_room 8 = .ok (.ldc2_w 28, 3) := by decide +kernel
theorem dX1_room_11 : decode cX1_room 11 = .ok (.goto 17, 3) := by decide +kernel
theorem dX1_room_14 : decode cX1_room 14 = .ok (.aload_n 0, 1) := by decide +kernel
theorem dX1_room_15 : decode cX1_room 15 = .ok (.getfield 9, 3) := by decide +kernel
theorem dX1_room_18 : decode cX1_room 18 = .ok (.i2l, 1) := by decide +kernel
theorem dX1_room_19 : decode cX1_room 19 = .ok (.aload_n 0, 1) := by decide +kernel
theorem dX1_room_20 : decode cX1_room 20 = .ok (.getfield 18, 3) := by decide +kernel
theorem dX1_room_23 : decode cX1_room 23 = .ok (.lsub, 1) := by decide +kernel
theorem dX1_room_24 : decode cX1_room 24 = .ok (.lconst 0, 1) := by decide +kernel
theorem dX1_room_25 : decode cX1_room 25 = .ok (.invokestatic 22, 3) := by decide +kernel
theorem dX1_room_28 : decode cX1_room 28 = .ok (.lreturn, 1) := by decide +kernel
theorem dX2_init_0 : decode cX2_init 0 = .ok (.aload_n 0, 1) := by decide +kernel
theorem dX2_init_1 : decode cX2_init 1 = .ok (.invokespecial 3, 3) := by decide +kernel
theorem dX2_init_4 : decode cX2_init 4 = .ok (.aload_n 0, 1) := by decide +kernel
theorem dX2_init_5 : decode cX2_init 5 = .ok (.sipush 451, 3) := by decide +kernel
theorem dX2_init_8 : decode cX2_init 8 = .ok (.newarray .boolean, 2) := by decide +kernel
theorem dX2_init_10 : decode cX2_init 10 = .ok (.putfield 9, 3) := by decide +kernel
theorem dX2_init_13 : decode cX2_init 13 = .ok (.return_, 1) := by decide +kernel
theorem dX2_markHoliday_0 : decode cX2_markHoliday 0 = .ok (.iload_n 1, 1) := by decide +kernel
theorem dX2_markHoliday_1 : decode cX2_markHoliday 1 = .ok (.ifCond .lt 19, 3) := by decide +kernel
theorem dX2_markHoliday_4 : decode cX2_markHoliday 4 = .ok (.iload_n 1, 1) := by decide +kernel
theorem dX2_markHoliday_5 : decode cX2_markHoliday 5 = .ok (.aload_n 0, 1) := by decide +kernel
theorem dX2_markHoliday_6 : decode cX2_markHoliday 6 = .ok (.getfield 9, 3) := by decide +kernel
theorem dX2_markHoliday_9 : decode cX2_markHoliday 9 = .ok (.arraylength, 1) := by decide +kernel
theorem dX2_markHoliday_10 : decode cX2_markHoliday 10 = .ok (.if_icmp .ge 10, 3) := by decide +kernel
theorem dX2_markHoliday_13 : decode cX2_markHoliday 13 = .ok (.aload_n 0, 1) := by decide +kernel
theorem dX2_markHoliday_14 : decode cX2_markHoliday 14 = .ok (.getfield 9, 3) := by decide +kernel
theorem dX2_markHoliday_17 : decode cX2_markHoliday 17 = .ok (.iload_n 1, 1) := by decide +kernel
theorem dX2_markHoliday_18 : decode cX2_markHoliday 18 = .ok (.iconst 1, 1) := by decide +kernel
theorem dX2_markHoliday_19 : decode cX2_markHoliday 19 = .ok (.bastore, 1) := by decide +kernel
theorem dX2_markHoliday_20 : decode cX2_markHoliday 20 = .ok (.return_, 1) := by decide +kernel
theorem dX2_settles_0 : decode cX2_settles 0 = .ok (.iload_n 1, 1) := by decide +kernel
theorem dX2_settles_1 : decode cX2_settles 1 = .ok (.ifCond .lt 25, 3) := by decide +kernel
theorem dX2_settles_4 : decode cX2_settles 4 = .ok (.iload_n 1, 1) := by decide +kernel
theorem dX2_settles_5 : decode cX2_settles 5 = .ok (.aload_n 0, 1) := by decide +kernel
theorem dX2_settles_6 : decode cX2_settles 6 = .ok (.getfield 9, 3) := by decide +kernel
theorem dX2_settles_9 : decode cX2_settles 9 = .ok (.arraylength, 1) := by decide +kernel
theorem dX2_settles_10 : decode cX2_settles 10 = .ok (.if_icmp .ge 16, 3) := by decide +kernel
theorem dX2_settles_13 : decode cX2_settles 13 = .ok (.aload_n 0, 1) := by decide +kernel
theorem dX2_settles_14 : decode cX2_settles 14 = .ok (.getfield 9, 3) := by decide +kernel
theorem dX2_settles_17 : decode cX2_settles 17 = .ok (.iload_n 1, 1) := by decide +kernel
theorem dX2_settles_18 : decode cX2_settles 18 = .ok (.baload, 1) := by decide +kernel
theorem dX2_settles_19 : decode cX2_settles 19 = .ok (.ifCond .eq 7, 3) := by decide +kernel
theorem dX2_settles_22 : decode cX2_settles 22 = .ok (.iconst 1, 1) := by decide +kernel
theorem dX2_settles_23 : decode cX2_settles 23 = .ok (.goto 4, 3) := by decide +kernel
theorem dX2_settles_26 : decode cX2_settles 26 = .ok (.iconst 0, 1) := by decide +kernel
theorem dX2_settles_27 : decode cX2_settles 27 = .ok (.istore_n 2, 1) := by decide +kernel
theorem dX2_settles_28 : decode cX2_settles 28 = .ok (.iload_n 1, 1) := by decide +kernel
theorem dX2_settles_29 : decode cX2_settles 29 = .ok (.bipush 7, 2) := by decide +kernel
theorem dX2_settles_31 : decode cX2_settles 31 = .ok (.irem, 1) := by decide +kernel
theorem dX2_settles_32 : decode cX2_settles 32 = .ok (.iconst 5, 1) := by decide +kernel
theorem dX2_settles_33 : decode cX2_settles 33 = .ok (.if_icmp .ge 11, 3) := by decide +kernel
theorem dX2_settles_36 : decode cX2_settles 36 = .ok (.iload_n 2, 1) := by decide +kernel
theorem dX2_settles_37 : decode cX2_settles 37 = .ok (.ifCond .ne 7, 3) := by decide +kernel
theorem dX2_settles_40 : decode cX2_settles 40 = .ok (.iconst 1, 1) := by decide +kernel
theorem dX2_settles_41 : decode cX2_settles 41 = .ok (.goto 4, 3) := by decide +kernel
theorem dX2_settles_44 : decode cX2_settles 44 = .ok (.iconst 0, 1) := by decide +kernel
theorem dX2_settles_45 : decode cX2_settles 45 = .ok (.ireturn, 1) := by decide +kernel
set_option maxRecDepth 20000 in
theorem ggX2_firstSettlingFrom_X2_settles : GoodIn wsX2_firstSettlingFrom wsX2_settles := goodIn_r _ [5, 6, 7] (by decide +kernel) (by decide +kernel)
set_option maxRecDepth 20000 in
theorem gX2_firstSettlingFrom_X2_settles : GoodIn wsX2_firstSettlingFrom (wsV RX2 15 RX2 yX2_settles wsX2_settles) := goodIn_app (goodIn_of _ (by decide +kernel)) ggX2_firstSettlingFrom_X2_settles
theorem dX2_firstSettlingFrom_0 : decode cX2_firstSettlingFrom 0 = .ok (.iload_n 1, 1) := by decide +kernel
theorem dX2_firstSettlingFrom_1 : decode cX2_firstSettlingFrom 1 = .ok (.istore_n 2, 1) := by decide +kernel
theorem dX2_firstSettlingFrom_2 : decode cX2_firstSettlingFrom 2 = .ok (.iload_n 2, 1) := by decide +kernel
theorem dX2_firstSettlingFrom_3 : decode cX2_firstSettlingFrom 3 = .ok (.sipush 450, 3) := by decide +kernel
theorem dX2_firstSettlingFrom_6 : decode cX2_firstSettlingFrom 6 = .ok (.if_icmp .gt 19, 3) := by decide +kernel
theorem dX2_firstSettlingFrom_9 : decode cX2_firstSettlingFrom 9 = .ok (.aload_n 0, 1) := by decide +kernel
theorem dX2_firstSettlingFrom_10 : decode cX2_firstSettlingFrom 10 = .ok (.iload_n 2, 1) := by decide +kernel
theorem dX2_firstSettlingFrom_11 : decode cX2_firstSettlingFrom 11 = .ok (.invokevirtual 15, 3) := by decide +kernel
theorem dX2_firstSettlingFrom_14 : decode cX2_firstSettlingFrom 14 = .ok (.ifCond .eq 5, 3) := by decide +kernel
theorem dX2_firstSettlingFrom_17 : decode cX2_firstSettlingFrom 17 = .ok (.iload_n 2, 1) := by decide +kernel
theorem dX2_firstSettlingFrom_18 : decode cX2_firstSettlingFrom 18 = .ok (.ireturn, 1) := by decide +kernel
theorem dX2_firstSettlingFrom_19 : decode cX2_firstSettlingFrom 19 = .ok (.iinc 2 1, 3) := by decide +kernel
theorem dX2_firstSettlingFrom_22 : decode cX2_firstSettlingFrom 22 = .ok (.goto (-20), 3) := by decide +kernel
theorem dX2_firstSettlingFrom_25 : decode cX2_firstSettlingFrom 25 = .ok (.iconst (-1), 1) := by decide +kernel
theorem dX2_firstSettlingFrom_26 : decode cX2_firstSettlingFrom 26 = .ok (.ireturn, 1) := by decide +kernel
set_option maxRecDepth 20000 in
theorem ggX2_countSettling_X2_settles : GoodIn wsX2_countSettling wsX2_settles := goodIn_r _ [5, 6, 7] (by decide +kernel) (by decide +kernel)
set_option maxRecDepth 20000 in
theorem gX2_countSettling_X2_settles : GoodIn wsX2_countSettling (wsV RX2 15 RX2 yX2_settles wsX2_settles) := goodIn_app (goodIn_of _ (by decide +kernel)) ggX2_countSettling_X2_settles
theorem dX2_countSettling_0 : decode cX2_countSettling 0 = .ok (.iconst 0, 1) := by decide +kernel
theorem dX2_countSettling_1 : decode cX2_countSettling 1 = .ok (.istore_n 1, 1) := by decide +kernel
theorem dX2_countSettling_2 : decode cX2_countSettling 2 = .ok (.iconst 0, 1) := by decide +kernel
theorem dX2_countSettling_3 : decode cX2_countSettling 3 = .ok (.istore_n 2, 1) := by decide +kernel
theorem dX2_countSettling_4 : decode cX2_countSettling 4 = .ok (.iload_n 2, 1) := by decide +kernel
theorem dX2_countSettling_5 : decode cX2_countSettling 5 = .ok (.sipush 450, 3) := by decide +kernel
theorem dX2_countSettling_8 : decode cX2_countSettling 8 = .ok (.if_icmp .gt 20, 3) := by decide +kernel
theorem dX2_countSettling_11 : decode cX2_countSettling 11 = .ok (.aload_n 0, 1) := by decide +kernel
theorem dX2_countSettling_12 : decode cX2_countSettling 12 = .ok (.iload_n 2, 1) := by decide +kernel
theorem dX2_countSettling_13 : decode cX2_countSettling 13 = .ok (.invokevirtual 15, 3) := by decide +kernel
theorem dX2_countSettling_16 : decode cX2_countSettling 16 = .ok (.ifCond .eq 6, 3) := by decide +kernel
theorem dX2_countSettling_19 : decode cX2_countSettling 19 = .ok (.iinc 1 1, 3) := by decide +kernel
theorem dX2_countSettling_22 : decode cX2_countSettling 22 = .ok (.iinc 2 1, 3) := by decide +kernel
theorem dX2_countSettling_25 : decode cX2_countSettling 25 = .ok (.goto (-21), 3) := by decide +kernel
theorem dX2_countSettling_28 : decode cX2_countSettling 28 = .ok (.iload_n 1, 1) := by decide +kernel
theorem dX2_countSettling_29 : decode cX2_countSettling 29 = .ok (.ireturn, 1) := by decide +kernel
set_option maxRecDepth 20000 in
theorem ggX3_init_Jx4a65c_init_da8c8 : GoodIn wsX3_init wsJx4a65c_init_da8c8 := goodIn_r _ [21, 22, 23, 24, 25, 26, 27, 28, 29, 30, 31, 32, 33, 2, 3, 98, 99, 100] (by decide +kernel) (by decide +kernel)
set_option maxRecDepth 20000 in
theorem gX3_init_Jx4a65c_init_da8c8 : GoodIn wsX3_init (wsJx4a65c_init_da8c8) := ggX3_init_Jx4a65c_init_da8c8
set_option maxRecDepth 20000 in
theorem ggX3_init_X2_init : GoodIn wsX3_init wsX2_init := goodIn_r _ [35, 36, 2, 3, 37, 38, 109] (by decide +kernel) (by decide +kernel)
set_option maxRecDepth 20000 in
theorem gX3_init_X2_init_n32 : GoodIn wsX3_init (wsX2_init) := ggX3_init_X2_init
set_option maxRecDepth 20000 in
theorem ggX3_init_X1_init : GoodIn wsX3_init wsX1_init := goodIn_r _ [41, 42, 2, 3, 43, 44, 110, 111, 112] (by decide +kernel) (by decide +kernel)
set_option maxRecDepth 20000 in
theorem gX3_init_X1_init : GoodIn wsX3_init (wsX1_init) := ggX3_init_X1_init
set_option maxRecDepth 20000 in
theorem ggX3_init_Jx4a65c_add_9ea2d : GoodIn wsX3_init wsJx4a65c_add_9ea2d := goodIn_r _ [48, 49, 50, 23, 51, 52, 53, 54, 6, 55, 56, 57, 58, 59, 60, 61, 62, 63, 22, 64, 65, 66, 67, 68, 69, 70, 71, 72, 73, 74, 75, 76, 77, 78, 79, 80, 81, 82, 83, 84, 85, 86, 87, 88, 89, 90, 91, 92, 93, 94, 95, 96, 97, 98, 99, 100] (by decide +kernel) (by decide +kernel)
set_option maxRecDepth 20000 in
theorem gX3_init_Jx4a65c_add_9ea2d : GoodIn wsX3_init (wsV RX3 42 RJx4a65c yJx4a65c_add_9ea2d wsJx4a65c_add_9ea2d) := goodIn_app (goodIn_of _ (by decide +kernel)) ggX3_init_Jx4a65c_add_9ea2d
theorem dX3_init_0 : decode cX3_init 0 = .ok (.aload_n 0, 1) := by decide +kernel
theorem dX3_init_1 : decode cX3_init 1 = .ok (.invokespecial 3, 3) := by decide +kernel
theorem dX3_init_4 : decode cX3_init 4 = .ok (.aload_n 0, 1) := by decide +kernel
theorem dX3_init_5 : decode cX3_init 5 = .ok (.new 9, 3) := by decide +kernel
theorem dX3_init_8 : decode cX3_init 8 = .ok (.dup, 1) := by decide +kernel
theorem dX3_init_9 : decode cX3_init 9 = .ok (.invokespecial 11, 3) := by decide +kernel
theorem dX3_init_12 : decode cX3_init 12 = .ok (.putfield 12, 3) := by decide +kernel
theorem dX3_init_15 : decode cX3_init 15 = .ok (.aload_n 0, 1) := by decide +kernel
theorem dX3_init_16 : decode cX3_init 16 = .ok (.new 9, 3) := by decide +kernel
theorem dX3_init_19 : decode cX3_init 19 = .ok (.dup, 1) := by decide +kernel
theorem dX3_init_20 : decode cX3_init 20 = .ok (.invokespecial 11, 3) := by decide +kernel
theorem dX3_init_23 : decode cX3_init 23 = .ok (.putfield 18, 3) := by decide +kernel
theorem dX3_init_26 : decode cX3_init 26 = .ok (.aload_n 0, 1) := by decide +kernel
theorem dX3_init_27 : decode cX3_init 27 = .ok (.new 9, 3) := by decide +kernel
theorem dX3_init_30 : decode cX3_init 30 = .ok (.dup, 1) := by decide +kernel
theorem dX3_init_31 : decode cX3_init 31 = .ok (.invokespecial 11, 3) := by decide +kernel
theorem dX3_init_34 : decode cX3_init 34 = .ok (.putfield 21, 3) := by decide +kernel
theorem dX3_init_37 : decode cX3_init 37 = .ok (.aload_n 0, 1) := by decide +kernel
theorem dX3_init_38 : decode cX3_init 38 = .ok (.new 9, 3) := by decide +kernel
theorem dX3_init_41 : decode cX3_init 41 = .ok (.dup, 1) := by decide +kernel
theorem dX3_init_42 : decode cX3_init 42 = .ok (.invokespecial 11, 3) := by decide +kernel
theorem dX3_init_45 : decode cX3_init 45 = .ok (.putfield 24, 3) := by decide +kernel
theorem dX3_init_48 : decode cX3_init 48 = .ok (.aload_n 0, 1) := by decide +kernel
theorem dX3_init_49 : decode cX3_init 49 = .ok (.new 9, 3) := by decide +kernel
theorem dX3_init_52 : decode cX3_init 52 = .ok (.dup, 1) := by decide +kernel
theorem dX3_init_53 : decode cX3_init 53 = .ok (.invokespecial 11, 3) := by decide +kernel
theorem dX3_init_56 : decode cX3_init 56 = .ok (.putfield 27, 3) := by decide +kernel
theorem dX3_init_59 : decode cX3_init 59 = .ok (.aload_n 0, 1) := by decide +kernel
theorem dX3_init_60 : decode cX3_init 60 = .ok (.new 30, 3) := by decide +kernel
theorem dX3_init_63 : decode cX3_init 63 = .ok (.dup, 1) := by decide +kernel
theorem dX3_init_64 : decode cX3_init 64 = .ok (.invokespecial 32, 3) := by decide +kernel
theorem dX3_init_67 : decode cX3_init 67 = .ok (.putfield 33, 3) := by decide +kernel
theorem dX3_init_70 : decode cX3_init 70 = .ok (.iconst 0, 1) := by decide +kernel
theorem dX3_init_71 : decode cX3_init 71 = .ok (.istore_n 1, 1) := by decide +kernel
theorem dX3_init_72 : decode cX3_init 72 = .ok (.iload_n 1, 1) := by decide +kernel
theorem dX3_init_73 : decode cX3_init 73 = .ok (.iconst 4, 1) := by decide +kernel
theorem dX3_init_74 : decode cX3_init 74 = .ok (.if_icmp .ge 25, 3) := by decide +kernel
theorem dX3_init_77 : decode cX3_init 77 = .ok (.aload_n 0, 1) := by decide +kernel
theorem dX3_init_78 : decode cX3_init 78 = .ok (.getfield 27, 3) := by decide +kernel
theorem dX3_init_81 : decode cX3_init 81 = .ok (.new 37, 3) := by decide +kernel
theorem dX3_init_84 : decode cX3_init 84 = .ok (.dup, 1) := by decide +kernel
theorem dX3_init_85 : decode cX3_init 85 = .ok (.iload_n 1, 1) := by decide +kernel
theorem dX3_init_86 : decode cX3_init 86 = .ok (.invokespecial 39, 3) := by decide +kernel
theorem dX3_init_89 : decode cX3_init 89 = .ok (.invokevirtual 42, 3) := by decide +kernel
theorem dX3_init_92 : decode cX3_init 92 = .ok (.pop, 1) := by decide +kernel
theorem dX3_init_93 : decode cX3_init 93 = .ok (.iinc 1 1, 3) := by decide +kernel
theorem dX3_init_96 : decode cX3_init 96 = .ok (.goto (-24), 3) := by decide +kernel
theorem dX3_init_99 : decode cX3_init 99 = .ok (.return_, 1) := by decide +kernel
set_option maxRecDepth 20000 in
theorem ggX3_openPool_Jx4a65c_size_8abf5 : GoodIn wsX3_openPool wsJx4a65c_size_8abf5 := goodIn_r _ [13, 14, 152, 153, 154] (by decide +kernel) (by decide +kernel)
set_option maxRecDepth 20000 in
theorem gX3_openPool_Jx4a65c_size_8abf5 : GoodIn wsX3_openPool (wsV RX3 46 RJx4a65c yJx4a65c_size_8abf5 wsJx4a65c_size_8abf5) := goodIn_app (goodIn_of _ (by decide +kernel)) ggX3_openPool_Jx4a65c_size_8abf5
set_option maxRecDepth 20000 in
theorem ggX3_openPool_X6_init : GoodIn wsX3_openPool wsX6_init := goodIn_r _ [17, 18, 19, 20, 21, 22, 12, 23, 24, 25, 26, 27, 28, 29, 30, 31, 32, 33, 34, 35, 36, 37, 38, 39, 40, 41, 42, 43, 44, 45, 46, 47, 48, 49, 50, 51, 52, 53, 54, 55, 56, 152, 153, 154, 135, 136, 137, 138, 139, 155, 156, 157, 158, 159, 160, 161, 162, 163, 164] (by decide +kernel) (by decide +kernel)
set_option maxRecDepth 20000 in
theorem gX3_openPool_X6_init : GoodIn wsX3_openPool (wsX6_init) := ggX3_openPool_X6_init
set_option maxRecDepth 20000 in
theorem ggX3_openPool_X0_init : GoodIn wsX3_openPool wsX0_init := goodIn_r _ [59, 60, 19, 20, 61, 22, 12, 62, 63, 64, 65, 66, 67, 32, 33, 34, 35, 36, 37, 38, 39, 40, 41, 42, 43, 44, 45, 152, 153, 154, 140, 141, 142, 143, 144, 145, 146, 147, 148, 149, 150, 151] (by decide +kernel) (by decide +kernel)
set_option maxRecDepth 20000 in
theorem gX3_openPool_X0_init : GoodIn wsX3_openPool (wsX0_init) := ggX3_openPool_X0_init
set_option maxRecDepth 20000 in
theorem ggX3_openPool_Jx4a65c_add_9ea2d : GoodIn wsX3_openPool wsJx4a65c_add_9ea2d := goodIn_r _ [71, 72, 73, 35, 14, 74, 75, 76, 12, 77, 78, 79, 80, 81, 82, 83, 84, 85, 34, 86, 87, 88, 89, 90, 91, 92, 93, 94, 95, 96, 97, 98, 99, 100, 101, 102, 103, 104, 105, 106, 107, 108, 109, 110, 111, 112, 113, 114, 115, 116, 117, 118, 119, 152, 153, 154] (by decide +kernel) (by decide +kernel)
set_option maxRecDepth 20000 in
theorem gX3_openPool_Jx4a65c_add_9ea2d : GoodIn wsX3_openPool (wsV RX3 42 RJx4a65c yJx4a65c_add_9ea2d wsJx4a65c_add_9ea2d) := goodIn_app (goodIn_of _ (by decide +kernel)) ggX3_openPool_Jx4a65c_add_9ea2d
set_option maxRecDepth 20000 in
theorem ggX3_openPool_X3_enter : GoodIn wsX3_openPool wsX3_enter := goodIn_r _ [124, 1, 125, 126, 68, 69, 70, 12, 71, 72, 73, 35, 14, 74, 75, 76, 77, 78, 79, 80, 81, 82, 83, 84, 85, 34, 86, 87, 88, 89, 90, 91, 92, 93, 94, 95, 96, 97, 98, 99, 100, 101, 102, 103, 104, 105, 106, 107, 108, 109, 110, 111, 112, 113, 114, 115, 116, 117, 118, 119, 127, 128, 129, 130, 131, 132, 133, 134, 140, 141, 142, 143, 144, 145, 146, 147, 148, 149, 150, 151, 135, 136, 137, 138, 139, 152, 153, 154] (by decide +kernel) (by decide +kernel)
set_option maxRecDepth 20000 in
theorem gX3_openPool_X3_enter : GoodIn wsX3_openPool (wsV RX3 60 RX3 yX3_enter wsX3_enter) := goodIn_app (goodIn_of _ (by decide +kernel)) ggX3_openPool_X3_enter
theorem dX3_openPool_0 : decode cX3_openPool 0 = .ok (.aload_n 0, 1) := by decide +kernel
theorem dX3_openPool_1 : decode cX3_openPool 1 = .ok (.getfield 12, 3) := by decide +kernel
theorem dX3_openPool_4 : decode cX3_openPool 4 = .ok (.invokevirtual 46, 3) := by decide +kernel
theorem dX3_openPool_7 : decode cX3_openPool 7 = .ok (.istore 4, 2) := by decide +kernel
theorem dX3_openPool_9 : decode cX3_openPool 9 = .ok (.new 50, 3) := by decide +kernel
theorem dX3_openPool_12 : decode cX3_openPool 12 = .ok (.dup, 1) := by decide +kernel
theorem dX3_openPool_13 : decode cX3_openPool 13 = .ok (.iload 4, 2) := by decide +kernel
theorem dX3_openPool_15 : decode cX3_openPool 15 = .ok (.iload_n 2, 1) := by decide +kernel
theorem dX3_openPool_16 : decode cX3_openPool 16 = .ok (.iload_n 3, 1) := by decide +kernel
theorem dX3_openPool_17 : decode cX3_openPool 17 = .ok (.invokespecial 52, 3) := by decide +kernel
theorem dX3_openPool_20 : decode cX3_openPool 20 = .ok (.astore 5, 2) := by decide +kernel
theorem dX3_openPool_22 : decode cX3_openPool 22 = .ok (.new 55, 3) := by decide +kernel
theorem dX3_openPool_25 : decode cX3_openPool 25 = .ok (.dup, 1) := by decide +kernel
theorem dX3_openPool_26 : decode cX3_openPool 26 = .ok (.iload 4, 2) := by decide +kernel
theorem dX3_openPool_28 : decode cX3_openPool 28 = .ok (.aconst_null, 1) := by decide +kernel
theorem dX3_openPool_29 : decode cX3_openPool 29 = .ok (.aload 5, 2) := by decide +kernel
theorem dX3_openPool_31 : decode cX3_openPool 31 = .ok (.aload_n 1, 1) := by decide +kernel
theorem dX3_openPool_32 : decode cX3_openPool 32 = .ok (.invokespecial 57, 3) := by decide +kernel
theorem dX3_openPool_35 : decode cX3_openPool 35 = .ok (.astore 6, 2) := by decide +kernel
theorem dX3_openPool_37 : decode cX3_openPool 37 = .ok (.aload_n 0, 1) := by decide +kernel
theorem dX3_openPool_38 : decode cX3_openPool 38 = .ok (.getfield 18, 3) := by decide +kernel
theorem dX3_openPool_41 : decode cX3_openPool 41 = .ok (.aload 6, 2) := by decide +kernel
theorem dX3_openPool_43 : decode cX3_openPool 43 = .ok (.invokevirtual 42, 3) := by decide +kernel
theorem dX3_openPool_46 : decode cX3_openPool 46 = .ok (.pop, 1) := by decide +kernel
theorem dX3_openPool_47 : decode cX3_openPool 47 = .ok (.aload_n 0, 1) := by decide +kernel
theorem dX3_openPool_48 : decode cX3_openPool 48 = .ok (.aload 6, 2) := by decide +kernel
theorem dX3_openPool_50 : decode cX3_openPool 50 = .ok (.invokevirtual 60, 3) := by decide +kernel
theorem dX3_openPool_53 : decode cX3_openPool 53 = .ok (.iload 4, 2) := by decide +kernel
theorem dX3_openPool_55 : decode cX3_openPool 55 = .ok (.ireturn, 1) := by decide +kernel
set_option maxRecDepth 20000 in
theorem ggX3_openAccount_Jx4a65c_size_8abf5 : GoodIn wsX3_openAccount wsJx4a65c_size_8abf5 := goodIn_r _ [11, 12, 119, 120, 121] (by decide +kernel) (by decide +kernel)
set_option maxRecDepth 20000 in
theorem gX3_openAccount_Jx4a65c_size_8abf5 : GoodIn wsX3_openAccount (wsV RX3 46 RJx4a65c yJx4a65c_size_8abf5 wsJx4a65c_size_8abf5) := goodIn_app (goodIn_of _ (by decide +kernel)) ggX3_openAccount_Jx4a65c_size_8abf5
set_option maxRecDepth 20000 in
theorem ggX3_openAccount_X0_init : GoodIn wsX3_openAccount wsX0_init := goodIn_r _ [15, 16, 17, 18, 19, 20, 10, 21, 22, 23, 24, 25, 26, 27, 28, 29, 30, 31, 32, 33, 34, 35, 36, 37, 38, 39, 40, 119, 120, 121, 107, 108, 109, 110, 111, 112, 113, 114, 115, 116, 117, 118] (by decide +kernel) (by decide +kernel)
set_option maxRecDepth 20000 in
theorem gX3_openAccount_X0_init : GoodIn wsX3_openAccount (wsX0_init) := ggX3_openAccount_X0_init
set_option maxRecDepth 20000 in
theorem ggX3_openAccount_Jx4a65c_add_9ea2d : GoodIn wsX3_openAccount wsJx4a65c_add_9ea2d := goodIn_r _ [44, 45, 46, 30, 12, 47, 48, 49, 10, 50, 51, 52, 53, 54, 55, 56, 57, 58, 29, 59, 60, 61, 62, 63, 64, 65, 66, 67, 68, 69, 70, 71, 72, 73, 74, 75, 76, 77, 78, 79, 80, 81, 82, 83, 84, 85, 86, 87, 88, 89, 90, 91, 92, 119, 120, 121] (by decide +kernel) (by decide +kernel)
set_option maxRecDepth 20000 in
theorem gX3_openAccount_Jx4a65c_add_9ea2d : GoodIn wsX3_openAccount (wsV RX3 42 RJx4a65c yJx4a65c_add_9ea2d wsJx4a65c_add_9ea2d) := goodIn_app (goodIn_of _ (by decide +kernel)) ggX3_openAccount_Jx4a65c_add_9ea2d
set_option maxRecDepth 20000 in
theorem ggX3_openAccount_X3_enter : GoodIn wsX3_openAccount wsX3_enter := goodIn_r _ [97, 1, 5, 98, 41, 42, 43, 10, 44, 45, 46, 30, 12, 47, 48, 49, 50, 51, 52, 53, 54, 55, 56, 57, 58, 29, 59, 60, 61, 62, 63, 64, 65, 66, 67, 68, 69, 70, 71, 72, 73, 74, 75, 76, 77, 78, 79, 80, 81, 82, 83, 84, 85, 86, 87, 88, 89, 90, 91, 92, 99, 100, 101, 102, 103, 104, 105, 106, 107, 108, 109, 110, 111, 112, 113, 114, 115, 116, 117, 118, 122, 123, 124, 125, 126, 119, 120, 121] (by decide +kernel) (by decide +kernel)
set_option maxRecDepth 20000 in
theorem gX3_openAccount_X3_enter : GoodIn wsX3_openAccount (wsV RX3 60 RX3 yX3_enter wsX3_enter) := goodIn_app (goodIn_of _ (by decide +kernel)) ggX3_openAccount_X3_enter
theorem dX3_openAccount_0 : decode cX3_openAccount 0 = .ok (.aload_n 0, 1) := by decide +kernel
theorem dX3_openAccount_1 : decode cX3_openAccount 1 = .ok (.getfield 12, 3) := by decide +kernel
theorem dX3_openAccount_4 : decode cX3_openAccount 4 = .ok (.invokevirtual 46, 3) := by decide +kernel
theorem dX3_openAccount_7 : decode cX3_openAccount 7 = .ok (.istore_n 3, 1) := by decide +kernel
theorem dX3_openAccount_8 : decode cX3_openAccount 8 = .ok (.new 55, 3) := by decide +kernel
theorem dX3_openAccount_11 : decode cX3_openAccount 11 = .ok (.dup, 1) := by decide +kernel
theorem dX3_openAccount_12 : decode cX3_openAccount 12 = .ok (.iload_n 3, 1) := by decide +kernel
theorem dX3_openAccount_13 : decode cX3_openAccount 13 = .ok (.aload_n 1, 1) := by decide +kernel
theorem dX3_openAccount_14 : decode cX3_openAccount 14 = .ok (.aload_n 1, 1) := by decide +kernel
theorem dX3_openAccount_15 : decode cX3_openAccount 15 = .ok (.getfield 64, 3) := by decide +kernel
theorem dX3_openAccount_18 : decode cX3_openAccount 18 = .ok (.aload_n 2, 1) := by decide +kernel
theorem dX3_openAccount_19 : decode cX3_openAccount 19 = .ok (.invokespecial 57, 3) := by decide +kernel
theorem dX3_openAccount_22 : decode cX3_openAccount 22 = .ok (.astore 4, 2) := by decide +kernel
theorem dX3_openAccount_24 : decode cX3_openAccount 24 = .ok (.aload_n 1, 1) := by decide +kernel
theorem dX3_openAccount_25 : decode cX3_openAccount 25 = .ok (.getfield 68, 3) := by decide +kernel
theorem dX3_openAccount_28 : decode cX3_openAccount 28 = .ok (.aload 4, 2) := by decide +kernel
theorem dX3_openAccount_30 : decode cX3_openAccount 30 = .ok (.invokevirtual 42, 3) := by decide +kernel
theorem dX3_openAccount_33 : decode cX3_openAccount 33 = .ok (.pop, 1) := by decide +kernel
theorem dX3_openAccount_34 : decode cX3_openAccount 34 = .ok (.aload_n 0, 1) := by decide +kernel
theorem dX3_openAccount_35 : decode cX3_openAccount 35 = .ok (.aload 4, 2) := by decide +kernel
theorem dX3_openAccount_37 : decode cX3_openAccount 37 = .ok (.invokevirtual 60, 3) := by decide +kernel
theorem dX3_openAccount_40 : decode cX3_openAccount 40 = .ok (.iload_n 3, 1) := by decide +kernel
theorem dX3_openAccount_41 : decode cX3_openAccount 41 = .ok (.ireturn, 1) := by decide +kernel
set_option maxRecDepth 20000 in
theorem ggX3_enter_Jx4a65c_add_9ea2d : GoodIn wsX3_enter wsJx4a65c_add_9ea2d := goodIn_r _ [8, 9, 10, 11, 12, 13, 14, 15, 7, 16, 17, 18, 19, 20, 21, 22, 23, 24, 25, 26, 27, 28, 29, 30, 31, 32, 33, 34, 35, 36, 37, 38, 39, 40, 41, 42, 43, 44, 45, 46, 47, 48, 49, 50, 51, 52, 53, 54, 55, 56, 57, 58, 59, 85, 86, 87] (by decide +kernel) (by decide +kernel)
set_option maxRecDepth 20000 in
theorem gX3_enter_Jx4a65c_add_9ea2d : GoodIn wsX3_enter (wsV RX3 42 RJx4a65c yJx4a65c_add_9ea2d wsJx4a65c_add_9ea2d) := goodIn_app (goodIn_of _ (by decide +kernel)) ggX3_enter_Jx4a65c_add_9ea2d
theorem dX3_enter_0 : decode cX3_enter 0 = .ok (.aload_n 0, 1) := by decide +kernel
theorem dX3_enter_1 : decode cX3_enter 1 = .ok (.getfield 12, 3) := by decide +kernel
theorem dX3_enter_4 : decode cX3_enter 4 = .ok (.aload_n 1, 1) := by decide +kernel
theorem dX3_enter_5 : decode cX3_enter 5 = .ok (.invokevirtual 42, 3) := by decide +kernel
theorem dX3_enter_8 : decode cX3_enter 8 = .ok (.pop, 1) := by decide +kernel
theorem dX3_enter_9 : decode cX3_enter 9 = .ok (.aload_n 1, 1) := by decide +kernel
theorem dX3_enter_10 : decode cX3_enter 10 = .ok (.getfield 64, 3) := by decide +kernel
theorem dX3_enter_13 : decode cX3_enter 13 = .ok (.getfield 71, 3) := by decide +kernel
theorem dX3_enter_16 : decode cX3_enter 16 = .ok (.aload_n 1, 1) := by decide +kernel
theorem dX3_enter_17 : decode cX3_enter 17 = .ok (.invokevirtual 42, 3) := by decide +kernel
theorem dX3_enter_20 : decode cX3_enter 20 = .ok (.pop, 1) := by decide +kernel
theorem dX3_enter_21 : decode cX3_enter 21 = .ok (.return_, 1) := by decide +kernel
set_option maxRecDepth 20000 in
theorem ggX3_openLine_X5_init : GoodIn wsX3_openLine wsX5_init := goodIn_r _ [8, 9, 10, 11, 12, 13, 14, 109, 110, 111, 112, 113, 114, 115, 116, 117] (by decide +kernel) (by decide +kernel)
set_option maxRecDepth 20000 in
theorem gX3_openLine_X5_init : GoodIn wsX3_openLine (wsX5_init) := ggX3_openLine_X5_init
set_option maxRecDepth 20000 in
theorem ggX3_openLine_Jx4a65c_add_9ea2d : GoodIn wsX3_openLine wsJx4a65c_add_9ea2d := goodIn_r _ [19, 20, 21, 22, 23, 24, 25, 26, 18, 27, 28, 29, 30, 31, 32, 33, 34, 35, 36, 37, 38, 39, 40, 41, 42, 43, 44, 45, 46, 47, 48, 49, 50, 51, 52, 53, 54, 55, 56, 57, 58, 59, 60, 61, 62, 63, 64, 65, 66, 67, 68, 69, 70, 138, 139, 140] (by decide +kernel) (by decide +kernel)
set_option maxRecDepth 20000 in
theorem gX3_openLine_Jx4a65c_add_9ea2d : GoodIn wsX3_openLine (wsV RX3 42 RJx4a65c yJx4a65c_add_9ea2d wsJx4a65c_add_9ea2d) := goodIn_app (goodIn_of _ (by decide +kernel)) ggX3_openLine_Jx4a65c_add_9ea2d
set_option maxRecDepth 20000 in
theorem ggX3_openLine_X6_rank : GoodIn wsX3_openLine wsX6_rank := goodIn_r _ [75, 76, 77, 78, 79, 80, 81, 18, 82, 23, 83, 84, 85, 86, 87, 88, 89, 90, 91, 92, 93, 94, 95, 96, 97, 98, 22, 99, 100, 101, 102, 20, 21, 103, 68, 69, 70, 104, 105, 106, 107, 28, 29, 30, 31, 32, 33, 34, 35, 36, 37, 38, 39, 40, 41, 42, 43, 44, 45, 46, 47, 48, 49, 50, 51, 52, 53, 54, 55, 56, 57, 58, 59, 60, 61, 62, 63, 64, 65, 66, 67, 141, 142, 143, 144, 145, 109, 110, 111, 112, 113, 114, 115, 116, 117, 138, 139, 140] (by decide +kernel) (by decide +kernel)
set_option maxRecDepth 20000 in
theorem gX3_openLine_X6_rank : GoodIn wsX3_openLine (wsV RX3 79 RX6 yX6_rank wsX6_rank) := goodIn_app (goodIn_of _ (by decide +kernel)) ggX3_openLine_X6_rank
set_option maxRecDepth 20000 in
theorem ggX3_openLine_Jx4a65c_size_8abf5 : GoodIn wsX3_openLine wsJx4a65c_size_8abf5 := goodIn_r _ [82, 23, 138, 139, 140] (by decide +kernel) (by decide +kernel)
set_option maxRecDepth 20000 in
theorem gX3_openLine_Jx4a65c_size_8abf5 : GoodIn wsX3_openLine (wsV RX3 46 RJx4a65c yJx4a65c_size_8abf5 wsJx4a65c_size_8abf5) := goodIn_app (goodIn_of _ (by decide +kernel)) ggX3_openLine_Jx4a65c_size_8abf5
theorem dX3_openLine_0 : decode cX3_openLine 0 = .ok (.new 74, 3) := by decide +kernel
theorem dX3_openLine_3 : decode cX3_openLine 3 = .ok (.dup, 1) := by decide +kernel
theorem dX3_openLine_4 : decode cX3_openLine 4 = .ok (.aload_n 1, 1) := by decide +kernel
theorem dX3_openLine_5 : decode cX3_openLine 5 = .ok (.iload_n 2, 1) := by decide +kernel
theorem dX3_openLine_6 : decode cX3_openLine 6 = .ok (.iload_n 3, 1) := by decide +kernel
theorem dX3_openLine_7 : decode cX3_openLine 7 = .ok (.invokespecial 76, 3) := by decide +kernel
theorem dX3_openLine_10 : decode cX3_openLine 10 = .ok (.astore 4, 2) := by decide +kernel
theorem dX3_openLine_12 : decode cX3_openLine 12 = .ok (.aload_n 0, 1) := by decide +kernel
theorem dX3_openLine_13 : decode cX3_openLine 13 = .ok (.getfield 21, 3) := by decide +kernel
theorem dX3_openLine_16 : decode cX3_openLine 16 = .ok (.aload 4, 2) := by decide +kernel
theorem dX3_openLine_18 : decode cX3_openLine 18 = .ok (.invokevirtual 42, 3) := by decide +kernel
theorem dX3_openLine_21 : decode cX3_openLine 21 = .ok (.pop, 1) := by decide +kernel
theorem dX3_openLine_22 : decode cX3_openLine 22 = .ok (.aload_n 1, 1) := by decide +kernel
theorem dX3_openLine_23 : decode cX3_openLine 23 = .ok (.getfield 64, 3) := by decide +kernel
theorem dX3_openLine_26 : decode cX3_openLine 26 = .ok (.aload 4, 2) := by decide +kernel
theorem dX3_openLine_28 : decode cX3_openLine 28 = .ok (.invokevirtual 79, 3) := by decide +kernel
theorem dX3_openLine_31 : decode cX3_openLine 31 = .ok (.aload_n 0, 1) := by decide +kernel
theorem dX3_openLine_32 : decode cX3_openLine 32 = .ok (.getfield 21, 3) := by decide +kernel
theorem dX3_openLine_35 : decode cX3_openLine 35 = .ok (.invokevirtual 46, 3) := by decide +kernel
theorem dX3_openLine_38 : decode cX3_openLine 38 = .ok (.iconst 1, 1) := by decide +kernel
theorem dX3_openLine_39 : decode cX3_openLine 39 = .ok (.isub, 1) := by decide +kernel
theorem dX3_openLine_40 : decode cX3_openLine 40 = .ok (.ireturn, 1) := by decide +kernel
set_option maxRecDepth 20000 in
theorem ggX3_passDay_X2_settles : GoodIn wsX3_passDay wsX2_settles := goodIn_r _ [7, 8, 243] (by decide +kernel) (by decide +kernel)
set_option maxRecDepth 20000 in
theorem gX3_passDay_X2_settles : GoodIn wsX3_passDay (wsV RX3 87 RX2 yX2_settles wsX2_settles) := goodIn_app (goodIn_of _ (by decide +kernel)) ggX3_passDay_X2_settles
set_option maxRecDepth 20000 in
theorem ggX3_passDay_X3_bookDueFlows : GoodIn wsX3_passDay wsX3_bookDueFlows := goodIn_r _ [13, 14, 15, 2, 16, 17, 18, 19, 20, 21, 22, 23, 24, 25, 26, 27, 28, 29, 30, 31, 32, 33, 34, 35, 36, 37, 38, 39, 40, 41, 42, 43, 44, 45, 46, 47, 48, 49, 235, 236, 237, 238, 239, 240, 241, 242, 244, 245, 246, 247, 248, 249, 250, 251, 252, 253, 254, 255, 256, 257, 258, 259, 260, 261, 262, 263, 264, 265] (by decide +kernel) (by decide +kernel)
set_option maxRecDepth 20000 in
theorem gX3_passDay_X3_bookDueFlows : GoodIn wsX3_passDay (wsV RX3 91 RX3 yX3_bookDueFlows wsX3_bookDueFlows) := goodIn_app (goodIn_of _ (by decide +kernel)) ggX3_passDay_X3_bookDueFlows
set_option maxRecDepth 20000 in
theorem ggX3_passDay_X3_sweepPools : GoodIn wsX3_passDay wsX3_sweepPools := goodIn_r _ [53, 54, 55, 16, 17, 18, 19, 20, 21, 22, 23, 24, 25, 26, 27, 28, 29, 30, 31, 32, 33, 34, 35, 36, 37, 38, 56, 57, 58, 59, 60, 61, 62, 63, 64, 65, 66, 67, 68, 69, 70, 71, 72, 73, 74, 75, 76, 77, 78, 79, 80, 81, 82, 83, 84, 85, 86, 87, 88, 89, 90, 91, 235, 236, 237, 238, 239, 240, 241, 242, 244, 245, 246, 254, 255, 256, 257, 258, 259, 260, 261, 262, 263, 264, 265] (by decide +kernel) (by decide +kernel)
set_option maxRecDepth 20000 in
theorem gX3_passDay_X3_sweepPools : GoodIn wsX3_passDay (wsV RX3 94 RX3 yX3_sweepPools wsX3_sweepPools) := goodIn_app (goodIn_of _ (by decide +kernel)) ggX3_passDay_X3_sweepPools
set_option maxRecDepth 20000 in
theorem ggX3_passDay_X3_coverPools : GoodIn wsX3_passDay wsX3_coverPools := goodIn_r _ [95, 54, 55, 96, 16, 17, 18, 19, 20, 21, 22, 23, 24, 25, 26, 27, 28, 29, 30, 31, 32, 33, 34, 35, 36, 37, 38, 97, 98, 99, 100, 101, 102, 103, 104, 105, 67, 68, 69, 106, 107, 108, 82, 83, 109, 110, 111, 112, 113, 114, 235, 236, 237, 238, 239, 240, 241, 242, 254, 255, 256, 257, 258, 259, 260, 261, 262, 263, 264, 265, 244, 245, 246, 266, 267, 268, 269, 270, 271, 272, 273, 274, 275, 276, 277, 278, 279] (by decide +kernel) (by decide +kernel)
set_option maxRecDepth 20000 in
theorem gX3_passDay_X3_coverPools : GoodIn wsX3_passDay (wsV RX3 97 RX3 yX3_coverPools wsX3_coverPools) := goodIn_app (goodIn_of _ (by decide +kernel)) ggX3_passDay_X3_coverPools
set_option maxRecDepth 20000 in
theorem ggX3_passDay_X3_easeBanks : GoodIn wsX3_passDay wsX3_easeBanks := goodIn_r _ [118, 119, 120, 121, 122, 12, 123, 124, 125, 126, 127, 55, 128, 129, 130, 67, 68, 69, 16, 17, 18, 19, 20, 21, 22, 23, 24, 25, 26, 27, 28, 29, 30, 31, 32, 33, 34, 35, 36, 37, 38, 131, 132, 133, 134, 96, 135, 136, 137, 138, 139, 140, 141, 142, 143, 144, 145, 146, 147, 148, 149, 150, 151, 152, 153, 154, 155, 156, 157, 158, 159, 82, 83, 235, 236, 237, 238, 239, 240, 241, 242, 280, 281, 282, 254, 255, 256, 257, 258, 259, 260, 261, 262, 263, 264, 265, 244, 245, 246, 266, 267, 268, 269, 270] (by decide +kernel) (by decide +kernel)
set_option maxRecDepth 20000 in
theorem gX3_passDay_X3_easeBanks : GoodIn wsX3_passDay (wsV RX3 100 RX3 yX3_easeBanks wsX3_easeBanks) := goodIn_app (goodIn_of _ (by decide +kernel)) ggX3_passDay_X3_easeBanks
set_option maxRecDepth 20000 in
theorem ggX3_passDay_X3_accrueInterest : GoodIn wsX3_passDay wsX3_accrueInterest := goodIn_r _ [163, 54, 55, 96, 164, 165, 16, 17, 18, 19, 20, 21, 22, 23, 24, 25, 26, 27, 28, 29, 30, 31, 32, 33, 34, 35, 36, 37, 38, 166, 167, 168, 100, 169, 170, 171, 104, 172, 173, 109, 110, 174, 175, 176, 177, 178, 179, 180, 181, 182, 183, 184, 185, 67, 68, 69, 186, 187, 188, 189, 190, 191, 192, 193, 194, 195, 235, 236, 237, 238, 239, 240, 241, 242, 254, 255, 256, 257, 258, 259, 260, 261, 262, 263, 264, 265, 244, 245, 246, 266, 267, 268, 269, 270, 283, 284, 285, 286, 287, 288, 289, 290, 291, 292, 271, 272, 273, 274, 275, 276, 277, 278, 279] (by decide +kernel) (by decide +kernel)
set_option maxRecDepth 20000 in
theorem gX3_passDay_X3_accrueInterest : GoodIn wsX3_passDay (wsV RX3 103 RX3 yX3_accrueInterest wsX3_accrueInterest) := goodIn_app (goodIn_of _ (by decide +kernel)) ggX3_passDay_X3_accrueInterest
set_option maxRecDepth 20000 in
theorem ggX3_passDay_X3_bookInterest : GoodIn wsX3_passDay wsX3_bookInterest := goodIn_r _ [199, 54, 55, 96, 164, 165, 16, 17, 18, 19, 20, 21, 22, 23, 24, 25, 26, 27, 28, 29, 30, 31, 32, 33, 34, 35, 36, 37, 38, 200, 201, 202, 100, 203, 172, 170, 173, 204, 205, 206, 177, 207, 180, 208, 209, 182, 183, 179, 210, 211, 212, 213, 214, 215, 216, 217, 218, 219, 220, 186, 187, 221, 222, 223, 76, 224, 225, 226, 227, 228, 229, 191, 230, 193, 231, 232, 233, 234, 235, 236, 237, 238, 239, 240, 241, 242, 254, 255, 256, 257, 258, 259, 260, 261, 262, 263, 264, 265, 244, 245, 246, 266, 267, 268, 269, 270, 283, 284, 285, 286, 287, 288, 289, 290, 291, 292, 271, 272, 273, 274, 275, 276, 277, 278, 279] (by decide +kernel) (by decide +kernel)
set_option maxRecDepth 20000 in
theorem gX3_passDay_X3_bookInterest : GoodIn wsX3_passDay (wsV RX3 106 RX3 yX3_bookInterest wsX3_bookInterest) := goodIn_app (goodIn_of _ (by decide +kernel)) ggX3_passDay_X3_bookInterest
theorem dX3_passDay_0 : decode cX3_passDay 0 = .ok (.aload_n 0, 1) := by decide +kernel
theorem dX3_passDay_1 : decode cX3_passDay 1 = .ok (.getfield 33, 3) := by decide +kernel
theorem dX3_passDay_4 : decode cX3_passDay 4 = .ok (.aload_n 0, 1) := by decide +kernel
theorem dX3_passDay_5 : decode cX3_passDay 5 = .ok (.getfield 83, 3) := by decide +kernel
theorem dX3_passDay_8 : decode cX3_passDay 8 = .ok (.invokevirtual 87, 3) := by decide +kernel
theorem dX3_passDay_11 : decode cX3_passDay 11 = .ok (.ifCond .eq 19, 3) := by decide +kernel
theorem dX3_passDay_14 : decode cX3_passDay 14 = .ok (.aload_n 0, 1) := by decide +kernel
theorem dX3_passDay_15 : decode cX3_passDay 15 = .ok (.invokevirtual 91, 3) := by decide +kernel
theorem dX3_passDay_18 : decode cX3_passDay 18 = .ok (.aload_n 0, 1) := by decide +kernel
theorem dX3_passDay_19 : decode cX3_passDay 19 = .ok (.invokevirtual 94, 3) := by decide +kernel
theorem dX3_passDay_22 : decode cX3_passDay 22 = .ok (.aload_n 0, 1) := by decide +kernel
theorem dX3_passDay_23 : decode cX3_passDay 23 = .ok (.invokevirtual 97, 3) := by decide +kernel
theorem dX3_passDay_26 : decode cX3_passDay 26 = .ok (.aload_n 0, 1) := by decide +kernel
theorem dX3_passDay_27 : decode cX3_passDay 27 = .ok (.invokevirtual 100, 3) := by decide +kernel
theorem dX3_passDay_30 : decode cX3_passDay 30 = .ok (.aload_n 0, 1) := by decide +kernel
theorem dX3_passDay_31 : decode cX3_passDay 31 = .ok (.invokevirtual 103, 3) := by decide +kernel
theorem dX3_passDay_34 : decode cX3_passDay 34 = .ok (.aload_n 0, 1) := by decide +kernel
theorem dX3_passDay_35 : decode cX3_passDay 35 = .ok (.getfield 83, 3) := by decide +kernel
theorem dX3_passDay_38 : decode cX3_passDay 38 = .ok (.iconst 1, 1) := by decide +kernel
theorem dX3_passDay_39 : decode cX3_passDay 39 = .ok (.iadd, 1) := by decide +kernel
theorem dX3_passDay_40 : decode cX3_passDay 40 = .ok (.bipush 20, 2) := by decide +kernel
theorem dX3_passDay_42 : decode cX3_passDay 42 = .ok (.irem, 1) := by decide +kernel
theorem dX3_passDay_43 : decode cX3_passDay 43 = .ok (.ifCond .ne 7, 3) := by decide +kernel
theorem dX3_passDay_46 : decode cX3_passDay 46 = .ok (.aload_n 0, 1) := by decide +kernel
theorem dX3_passDay_47 : decode cX3_passDay 47 = .ok (.invokevirtual 106, 3) := by decide +kernel
theorem dX3_passDay_50 : decode cX3_passDay 50 = .ok (.aload_n 0, 1) := by decide +kernel
theorem dX3_passDay_51 : decode cX3_passDay 51 = .ok (.dup, 1) := by decide +kernel
theorem dX3_passDay_52 : decode cX3_passDay 52 = .ok (.getfield 83, 3) := by decide +kernel
theorem dX3_passDay_55 : decode cX3_passDay 55 = .ok (.iconst 1, 1) := by decide +kernel
theorem dX3_passDay_56 : decode cX3_passDay 56 = .ok (.iadd, 1) := by decide +kernel
theorem dX3_passDay_57 : decode cX3_passDay 57 = .ok (.putfield 83, 3) := by decide +kernel
theorem dX3_passDay_60 : decode cX3_passDay 60 = .ok (.return_, 1) := by decide +kernel
set_option maxRecDepth 20000 in
theorem ggX3_bookDueFlows_Jx4a65c_size_8abf5 : GoodIn wsX3_bookDueFlows wsJx4a65c_size_8abf5 := goodIn_r _ [8, 9, 46, 47, 48] (by decide +kernel) (by decide +kernel)
set_option maxRecDepth 20000 in
theorem gX3_bookDueFlows_Jx4a65c_size_8abf5 : GoodIn wsX3_bookDueFlows (wsV RX3 46 RJx4a65c yJx4a65c_size_8abf5 wsJx4a65c_size_8abf5) := goodIn_app (goodIn_of _ (by decide +kernel)) ggX3_bookDueFlows_Jx4a65c_size_8abf5
set_option maxRecDepth 20000 in
theorem ggX3_bookDueFlows_Jx4a65c_get_915e3 : GoodIn wsX3_bookDueFlows wsJx4a65c_get_915e3 := goodIn_r _ [13, 9, 14, 15, 16, 17, 18, 19, 20, 21, 22, 23, 24, 7, 25, 26, 46, 47, 48] (by decide +kernel) (by decide +kernel)
set_option maxRecDepth 20000 in
theorem gX3_bookDueFlows_Jx4a65c_get_915e3 : GoodIn wsX3_bookDueFlows (wsV RX3 109 RJx4a65c yJx4a65c_get_915e3 wsJx4a65c_get_915e3) := goodIn_app (goodIn_of _ (by decide +kernel)) ggX3_bookDueFlows_Jx4a65c_get_915e3
set_option maxRecDepth 20000 in
theorem ggX3_bookDueFlows_X4_bookUpTo : GoodIn wsX3_bookDueFlows wsX4_bookUpTo := goodIn_r _ [31, 32, 33, 34, 35, 36, 37, 49, 50, 51, 52, 53, 54, 55, 56, 57, 58, 59, 60, 61, 62, 63, 64, 65, 66, 67] (by decide +kernel) (by decide +kernel)
set_option maxRecDepth 20000 in
theorem gX3_bookDueFlows_X4_bookUpTo : GoodIn wsX3_bookDueFlows (wsV RX3 115 RX4 yX4_bookUpTo wsX4_bookUpTo) := goodIn_app (goodIn_of _ (by decide +kernel)) ggX3_bookDueFlows_X4_bookUpTo
theorem dX3_bookDueFlows_0 : decode cX3_bookDueFlows 0 = .ok (.iconst 0, 1) := by decide +kernel
theorem dX3_bookDueFlows_1 : decode cX3_bookDueFlows 1 = .ok (.istore_n 1, 1) := by decide +kernel
theorem dX3_bookDueFlows_2 : decode cX3_bookDueFlows 2 = .ok (.iload_n 1, 1) := by decide +kernel
theorem dX3_bookDueFlows_3 : decode cX3_bookDueFlows 3 = .ok (.aload_n 0, 1) := by decide +kernel
theorem dX3_bookDueFlows_4 : decode cX3_bookDueFlows 4 = .ok (.getfield 24, 3) := by decide +kernel
theorem dX3_bookDueFlows_7 : decode cX3_bookDueFlows 7 = .ok (.invokevirtual 46, 3) := by decide +kernel
theorem dX3_bookDueFlows_10 : decode cX3_bookDueFlows 10 = .ok (.if_icmp .ge 27, 3) := by decide +kernel
theorem dX3_bookDueFlows_13 : decode cX3_bookDueFlows 13 = .ok (.aload_n 0, 1) := by decide +kernel
theorem dX3_bookDueFlows_14 : decode cX3_bookDueFlows 14 = .ok (.getfield 24, 3) := by decide +kernel
theorem dX3_bookDueFlows_17 : decode cX3_bookDueFlows 17 = .ok (.iload_n 1, 1) := by decide +kernel
theorem dX3_bookDueFlows_18 : decode cX3_bookDueFlows 18 = .ok (.invokevirtual 109, 3) := by decide +kernel
theorem dX3_bookDueFlows_21 : decode cX3_bookDueFlows 21 = .ok (.checkcast 113, 3) := by decide +kernel
theorem dX3_bookDueFlows_24 : decode cX3_bookDueFlows 24 = .ok (.aload_n 0, 1) := by decide +kernel
theorem dX3_bookDueFlows_25 : decode cX3_bookDueFlows 25 = .ok (.getfield 83, 3) := by decide +kernel
theorem dX3_bookDueFlows_28 : decode cX3_bookDueFlows 28 = .ok (.invokevirtual 115, 3) := by decide +kernel
theorem dX3_bookDueFlows_31 : decode cX3_bookDueFlows 31 = .ok (.iinc 1 1, 3) := by decide +kernel
theorem dX3_bookDueFlows_34 : decode cX3_bookDueFlows 34 = .ok (.goto (-32), 3) := by decide +kernel
theorem dX3_bookDueFlows_37 : decode cX3_bookDueFlows 37 = .ok (.return_, 1) := by decide +kernel
set_option maxRecDepth 20000 in
theorem ggX3_sweepPools_Jx4a65c_size_8abf5 : GoodIn wsX3_sweepPools wsJx4a65c_size_8abf5 := goodIn_r _ [7, 8, 70, 71, 72] (by decide +kernel) (by decide +kernel)
set_option maxRecDepth 20000 in
theorem gX3_sweepPools_Jx4a65c_size_8abf5 : GoodIn wsX3_sweepPools (wsV RX3 46 RJx4a65c yJx4a65c_size_8abf5 wsJx4a65c_size_8abf5) := goodIn_app (goodIn_of _ (by decide +kernel)) ggX3_sweepPools_Jx4a65c_size_8abf5
set_option maxRecDepth 20000 in
theorem ggX3_sweepPools_Jx4a65c_get_915e3 : GoodIn wsX3_sweepPools wsJx4a65c_get_915e3 := goodIn_r _ [12, 8, 13, 14, 15, 16, 17, 18, 19, 20, 21, 22, 23, 6, 24, 25, 70, 71, 72] (by decide +kernel) (by decide +kernel)
set_option maxRecDepth 20000 in
theorem gX3_sweepPools_Jx4a65c_get_915e3 : GoodIn wsX3_sweepPools (wsV RX3 109 RJx4a65c yJx4a65c_get_915e3 wsJx4a65c_get_915e3) := goodIn_app (goodIn_of _ (by decide +kernel)) ggX3_sweepPools_Jx4a65c_get_915e3
set_option maxRecDepth 20000 in
theorem ggX3_sweepPools_X8_sweep : GoodIn wsX3_sweepPools wsX8_sweep := goodIn_r _ [29, 30, 31, 28, 32, 33, 34, 35, 36, 37, 38, 39, 40, 41, 4, 5, 6, 7, 8, 42, 10, 11, 12, 13, 14, 15, 16, 17, 18, 19, 20, 21, 22, 23, 24, 25, 43, 44, 45, 46, 47, 48, 49, 50, 51, 52, 53, 54, 55, 56, 57, 58, 59, 60, 61, 73, 74, 75, 76, 77, 78, 79, 80, 81, 82, 83, 84, 70, 71, 72] (by decide +kernel) (by decide +kernel)
set_option maxRecDepth 20000 in
theorem gX3_sweepPools_X8_sweep : GoodIn wsX3_sweepPools (va_wsS RX3 118 yX8_sweep wsX8_sweep) := goodIn_app (goodIn_of _ (by decide +kernel)) ggX3_sweepPools_X8_sweep
theorem dX3_sweepPools_0 : decode cX3_sweepPools 0 = .ok (.iconst 0, 1) := by decide +kernel
theorem dX3_sweepPools_1 : decode cX3_sweepPools 1 = .ok (.istore_n 1, 1) := by decide +kernel
theorem dX3_sweepPools_2 : decode cX3_sweepPools 2 = .ok (.iload_n 1, 1) := by decide +kernel
theorem dX3_sweepPools_3 : decode cX3_sweepPools 3 = .ok (.aload_n 0, 1) := by decide +kernel
theorem dX3_sweepPools_4 : decode cX3_sweepPools 4 = .ok (.getfield 18, 3) := by decide +kernel
theorem dX3_sweepPools_7 : decode cX3_sweepPools 7 = .ok (.invokevirtual 46, 3) := by decide +kernel
theorem dX3_sweepPools_10 : decode cX3_sweepPools 10 = .ok (.if_icmp .ge 23, 3) := by decide +kernel
theorem dX3_sweepPools_13 : decode cX3_sweepPools 13 = .ok (.aload_n 0, 1) := by decide +kernel
theorem dX3_sweepPools_14 : decode cX3_sweepPools 14 = .ok (.getfield 18, 3) := by decide +kernel
theorem dX3_sweepPools_17 : decode cX3_sweepPools 17 = .ok (.iload_n 1, 1) := by decide +kernel
theorem dX3_sweepPools_18 : decode cX3_sweepPools 18 = .ok (.invokevirtual 109, 3) := by decide +kernel
theorem dX3_sweepPools_21 : decode cX3_sweepPools 21 = .ok (.checkcast 55, 3) := by decide +kernel
theorem dX3_sweepPools_24 : decode cX3_sweepPools 24 = .ok (.invokestatic 118, 3) := by decide +kernel
theorem dX3_sweepPools_27 : decode cX3_sweepPools 27 = .ok (.iinc 1 1, 3) := by decide +kernel
theorem dX3_sweepPools_30 : decode cX3_sweepPools 30 = .ok (.goto (-28), 3) := by decide +kernel
theorem dX3_sweepPools_33 : decode cX3_sweepPools 33 = .ok (.return_, 1) := by decide +kernel
set_option maxRecDepth 20000 in
theorem ggX3_coverPools_Jx4a65c_size_8abf5 : GoodIn wsX3_coverPools wsJx4a65c_size_8abf5 := goodIn_r _ [8, 9, 70, 71, 72] (by decide +kernel) (by decide +kernel)
set_option maxRecDepth 20000 in
theorem gX3_coverPools_Jx4a65c_size_8abf5 : GoodIn wsX3_coverPools (wsV RX3 46 RJx4a65c yJx4a65c_size_8abf5 wsJx4a65c_size_8abf5) := goodIn_app (goodIn_of _ (by decide +kernel)) ggX3_coverPools_Jx4a65c_size_8abf5
set_option maxRecDepth 20000 in
theorem ggX3_coverPools_Jx4a65c_get_915e3 : GoodIn wsX3_coverPools wsJx4a65c_get_915e3 := goodIn_r _ [13, 9, 14, 15, 16, 17, 18, 19, 20, 21, 22, 23, 24, 7, 25, 26, 70, 71, 72] (by decide +kernel) (by decide +kernel)
set_option maxRecDepth 20000 in
theorem gX3_coverPools_Jx4a65c_get_915e3 : GoodIn wsX3_coverPools (wsV RX3 109 RJx4a65c yJx4a65c_get_915e3 wsJx4a65c_get_915e3) := goodIn_app (goodIn_of _ (by decide +kernel)) ggX3_coverPools_Jx4a65c_get_915e3
set_option maxRecDepth 20000 in
theorem ggX3_coverPools_X6_drawMissing : GoodIn wsX3_coverPools wsX6_drawMissing := goodIn_r _ [31, 32, 33, 34, 35, 36, 37, 38, 39, 40, 41, 42, 43, 44, 5, 6, 7, 8, 9, 45, 11, 12, 13, 14, 15, 16, 17, 18, 19, 20, 21, 22, 23, 24, 25, 26, 73, 74, 75, 76, 77, 58, 59, 60, 61, 62, 63, 64, 65, 66, 67, 68, 69, 78, 79, 80, 81, 82, 83, 84, 85, 86, 70, 71, 72] (by decide +kernel) (by decide +kernel)
set_option maxRecDepth 20000 in
theorem gX3_coverPools_X6_drawMissing : GoodIn wsX3_coverPools (wsV RX3 123 RX6 yX6_drawMissing wsX6_drawMissing) := goodIn_app (goodIn_of _ (by decide +kernel)) ggX3_coverPools_X6_drawMissing
set_option maxRecDepth 20000 in
theorem ggX3_coverPools_X6_payBack : GoodIn wsX3_coverPools wsX6_payBack := goodIn_r _ [49, 32, 33, 34, 35, 36, 37, 38, 40, 41, 42, 43, 44, 5, 6, 7, 8, 9, 45, 11, 12, 13, 14, 15, 16, 17, 18, 19, 20, 21, 22, 23, 24, 25, 26, 73, 74, 75, 76, 77, 58, 59, 60, 61, 62, 63, 64, 65, 66, 67, 68, 69, 78, 79, 80, 81, 82, 83, 84, 85, 86, 70, 71, 72] (by decide +kernel) (by decide +kernel)
set_option maxRecDepth 20000 in
theorem gX3_coverPools_X6_payBack : GoodIn wsX3_coverPools (wsV RX3 126 RX6 yX6_payBack wsX6_payBack) := goodIn_app (goodIn_of _ (by decide +kernel)) ggX3_coverPools_X6_payBack
theorem dX3_coverPools_0 : decode cX3_coverPools 0 = .ok (.iconst 0, 1) := by decide +kernel
theorem dX3_coverPools_1 : decode cX3_coverPools 1 = .ok (.istore_n 1, 1) := by decide +kernel
theorem dX3_coverPools_2 : decode cX3_coverPools 2 = .ok (.iload_n 1, 1) := by decide +kernel
theorem dX3_coverPools_3 : decode cX3_coverPools 3 = .ok (.aload_n 0, 1) := by decide +kernel
theorem dX3_coverPools_4 : decode cX3_coverPools 4 = .ok (.getfield 18, 3) := by decide +kernel
theorem dX3_coverPools_7 : decode cX3_coverPools 7 = .ok (.invokevirtual 46, 3) := by decide +kernel
theorem dX3_coverPools_10 : decode cX3_coverPools 10 = .ok (.if_icmp .ge 37, 3) := by decide +kernel
theorem dX3_coverPools_13 : decode cX3_coverPools 13 = .ok (.aload_n 0, 1) := by decide +kernel
theorem dX3_coverPools_14 : decode cX3_coverPools 14 = .ok (.getfield 18, 3) := by decide +kernel
theorem dX3_coverPools_17 : decode cX3_coverPools 17 = .ok (.iload_n 1, 1) := by decide +kernel
theorem dX3_coverPools_18 : decode cX3_coverPools 18 = .ok (.invokevirtual 109, 3) := by decide +kernel
theorem dX3_coverPools_21 : decode cX3_coverPools 21 = .ok (.checkcast 55, 3) := by decide +kernel
theorem dX3_coverPools_24 : decode cX3_coverPools 24 = .ok (.astore_n 2, 1) := by decide +kernel
theorem dX3_coverPools_25 : decode cX3_coverPools 25 = .ok (.aload_n 2, 1) := by decide +kernel
theorem dX3_coverPools_26 : decode cX3_coverPools 26 = .ok (.getfield 64, 3) := by decide +kernel
theorem dX3_coverPools_29 : decode cX3_coverPools 29 = .ok (.aload_n 2, 1) := by decide +kernel
theorem dX3_coverPools_30 : decode cX3_coverPools 30 = .ok (.invokevirtual 123, 3) := by decide +kernel
theorem dX3_coverPools_33 : decode cX3_coverPools 33 = .ok (.aload_n 2, 1) := by decide +kernel
theorem dX3_coverPools_34 : decode cX3_coverPools 34 = .ok (.getfield 64, 3) := by decide +kernel
theorem dX3_coverPools_37 : decode cX3_coverPools 37 = .ok (.aload_n 2, 1) := by decide +kernel
theorem dX3_coverPools_38 : decode cX3_coverPools 38 = .ok (.invokevirtual 126, 3) := by decide +kernel
theorem dX3_coverPools_41 : decode cX3_coverPools 41 = .ok (.iinc 1 1, 3) := by decide +kernel
theorem dX3_coverPools_44 : decode cX3_coverPools 44 = .ok (.goto (-42), 3) := by decide +kernel
theorem dX3_coverPools_47 : decode cX3_coverPools 47 = .ok (.return_, 1) := by decide +kernel
set_option maxRecDepth 20000 in
theorem ggX3_easeBanks_X3_measureBanks : GoodIn wsX3_easeBanks wsX3_measureBanks := goodIn_r _ [6, 7, 8, 9, 10, 11, 12, 13, 14, 15, 16, 17, 18, 19, 20, 21, 22, 23, 24, 25, 26, 27, 28, 29, 30, 31, 32, 33, 34, 35, 36, 37, 38, 39, 40, 73, 74, 75, 76, 77, 78, 79, 80, 81, 82, 83, 84, 85, 86, 87, 88, 89, 90, 91, 92, 93, 94, 95, 96, 97, 98] (by decide +kernel) (by decide +kernel)
set_option maxRecDepth 20000 in
theorem gX3_easeBanks_X3_measureBanks : GoodIn wsX3_easeBanks (wsV RX3 130 RX3 yX3_measureBanks wsX3_measureBanks) := goodIn_app (goodIn_of _ (by decide +kernel)) ggX3_easeBanks_X3_measureBanks
set_option maxRecDepth 20000 in
theorem ggX3_easeBanks_X3_findGiver : GoodIn wsX3_easeBanks wsX3_findGiver := goodIn_r _ [44, 10, 11, 13, 12, 45, 18, 19, 20, 21, 22, 23, 24, 25, 26, 27, 28, 29, 30, 31, 32, 33, 34, 35, 36, 37, 38, 39, 40, 46, 47, 48, 49, 50, 51, 52, 53, 15, 16, 17, 54, 55, 5, 56, 57, 58, 59, 60, 61, 62, 63, 64, 65, 66, 73, 74, 75, 76, 77, 78, 79, 80, 84, 85, 86, 87, 88, 89, 90, 91, 92, 93, 94, 95, 96, 97, 98, 81, 82, 83, 99, 100, 101, 102, 103] (by decide +kernel) (by decide +kernel)
set_option maxRecDepth 20000 in
theorem gX3_easeBanks_X3_findGiver : GoodIn wsX3_easeBanks (wsV RX3 133 RX3 yX3_findGiver wsX3_findGiver) := goodIn_app (goodIn_of _ (by decide +kernel)) ggX3_easeBanks_X3_findGiver
set_option maxRecDepth 20000 in
theorem ggX3_easeBanks_X3_moveAway : GoodIn wsX3_easeBanks wsX3_moveAway := goodIn_r _ [69, 45, 13, 12, 70, 71, 16, 72, 54, 55, 5, 56, 57, 11, 18, 19, 20, 21, 22, 23, 24, 25, 26, 27, 28, 29, 30, 31, 32, 33, 34, 35, 36, 37, 38, 39, 40, 58, 59, 60, 49, 61, 51, 62, 52, 53, 15, 17, 46, 47, 48, 50, 84, 85, 86, 87, 88, 89, 90, 91, 92, 93, 94, 95, 99, 100, 101, 102, 103, 96, 97, 98, 81, 82, 83] (by decide +kernel) (by decide +kernel)
set_option maxRecDepth 20000 in
theorem gX3_easeBanks_X3_moveAway : GoodIn wsX3_easeBanks (va_wsS RX3 137 yX3_moveAway wsX3_moveAway) := goodIn_app (goodIn_of _ (by decide +kernel)) ggX3_easeBanks_X3_moveAway
theorem dX3_easeBanks_0 : decode cX3_easeBanks 0 = .ok (.iconst 1, 1) := by decide +kernel
theorem dX3_easeBanks_1 : decode cX3_easeBanks 1 = .ok (.istore_n 1, 1) := by decide +kernel
theorem dX3_easeBanks_2 : decode cX3_easeBanks 2 = .ok (.iconst 0, 1) := by decide +kernel
theorem dX3_easeBanks_3 : decode cX3_easeBanks 3 = .ok (.istore_n 2, 1) := by decide +kernel
theorem dX3_easeBanks_4 : decode cX3_easeBanks 4 = .ok (.iload_n 1, 1) := by decide +kernel
theorem dX3_easeBanks_5 : decode cX3_easeBanks 5 = .ok (.ifCond .eq 41, 3) := by decide +kernel
theorem dX3_easeBanks_8 : decode cX3_easeBanks 8 = .ok (.iload_n 2, 1) := by decide +kernel
theorem dX3_easeBanks_9 : decode cX3_easeBanks 9 = .ok (.ldc 129, 2) := by decide +kernel
theorem dX3_easeBanks_11 : decode cX3_easeBanks 11 = .ok (.if_icmp .ge 35, 3) := by decide +kernel
theorem dX3_easeBanks_14 : decode cX3_easeBanks 14 = .ok (.aload_n 0, 1) := by decide +kernel
theorem dX3_easeBanks_15 : decode cX3_easeBanks 15 = .ok (.invokevirtual 130, 3) := by decide +kernel
theorem dX3_easeBanks_18 : decode cX3_easeBanks 18 = .ok (.aload_n 0, 1) := by decide +kernel
theorem dX3_easeBanks_19 : decode cX3_easeBanks 19 = .ok (.invokevirtual 133, 3) := by decide +kernel
theorem dX3_easeBanks_22 : decode cX3_easeBanks 22 = .ok (.astore_n 3, 1) := by decide +kernel
theorem dX3_easeBanks_23 : decode cX3_easeBanks 23 = .ok (.aload_n 3, 1) := by decide +kernel
theorem dX3_easeBanks_24 : decode cX3_easeBanks 24 = .ok (.ifnull 14, 3) := by decide +kernel
theorem dX3_easeBanks_27 : decode cX3_easeBanks 27 = .ok (.aload_n 3, 1) := by decide +kernel
theorem dX3_easeBanks_28 : decode cX3_easeBanks 28 = .ok (.invokestatic 137, 3) := by decide +kernel
theorem dX3_easeBanks_31 : decode cX3_easeBanks 31 = .ok (.ifCond .eq 7, 3) := by decide +kernel
theorem dX3_easeBanks_34 : decode cX3_easeBanks 34 = .ok (.iconst 1, 1) := by decide +kernel
theorem dX3_easeBanks_35 : decode cX3_easeBanks 35 = .ok (.goto 4, 3) := by decide +kernel
theorem dX3_easeBanks_38 : decode cX3_easeBanks 38 = .ok (.iconst 0, 1) := by decide +kernel
theorem dX3_easeBanks_39 : decode cX3_easeBanks 39 = .ok (.istore_n 1, 1) := by decide +kernel
theorem dX3_easeBanks_40 : decode cX3_easeBanks 40 = .ok (.iinc 2 1, 3) := by decide +kernel
theorem dX3_easeBanks_43 : decode cX3_easeBanks 43 = .ok (.goto (-39), 3) := by decide +kernel
theorem dX3_easeBanks_46 : decode cX3_easeBanks 46 = .ok (.return_, 1) := by decide +kernel
set_option maxRecDepth 20000 in
theorem ggX3_measureBanks_Jx4a65c_size_8abf5 : GoodIn wsX3_measureBanks wsJx4a65c_size_8abf5 := goodIn_r _ [16, 17, 58, 59, 60] (by decide +kernel) (by decide +kernel)
set_option maxRecDepth 20000 in
theorem gX3_measureBanks_Jx4a65c_size_8abf5 : GoodIn wsX3_measureBanks (wsV RX3 46 RJx4a65c yJx4a65c_size_8abf5 wsJx4a65c_size_8abf5) := goodIn_app (goodIn_of _ (by decide +kernel)) ggX3_measureBanks_Jx4a65c_size_8abf5
set_option maxRecDepth 20000 in
theorem ggX3_measureBanks_Jx4a65c_get_915e3 : GoodIn wsX3_measureBanks wsJx4a65c_get_915e3 := goodIn_r _ [21, 17, 22, 23, 24, 25, 26, 27, 28, 29, 30, 31, 32, 15, 33, 34, 58, 59, 60] (by decide +kernel) (by decide +kernel)
set_option maxRecDepth 20000 in
theorem gX3_measureBanks_Jx4a65c_get_915e3 : GoodIn wsX3_measureBanks (wsV RX3 109 RJx4a65c yJx4a65c_get_915e3 wsJx4a65c_get_915e3) := goodIn_app (goodIn_of _ (by decide +kernel)) ggX3_measureBanks_Jx4a65c_get_915e3
theorem dX3_measureBanks_0 : decode cX3_measureBanks 0 = .ok (.iconst 0, 1) := by decide +kernel
theorem dX3_measureBanks_1 : decode cX3_measureBanks 1 = .ok (.istore_n 1, 1) := by decide +kernel
theorem dX3_measureBanks_2 : decode cX3_measureBanks 2 = .ok (.iload_n 1, 1) := by decide +kernel
theorem dX3_measureBanks_3 : decode cX3_measureBanks 3 = .ok (.aload_n 0, 1) := by decide +kernel
theorem dX3_measureBanks_4 : decode cX3_measureBanks 4 = .ok (.getfield 27, 3) := by decide +kernel
theorem dX3_measureBanks_7 : decode cX3_measureBanks 7 = .ok (.invokevirtual 46, 3) := by decide +kernel
theorem dX3_measureBanks_10 : decode cX3_measureBanks 10 = .ok (.if_icmp .ge 24, 3) := by decide +kernel
theorem dX3_measureBanks_13 : decode cX3_measureBanks 13 = .ok (.aload_n 0, 1) := by decide +kernel
theorem dX3_measureBanks_14 : decode cX3_measureBanks 14 = .ok (.getfield 27, 3) := by decide +kernel
theorem dX3_measureBanks_17 : decode cX3_measureBanks 17 = .ok (.iload_n 1, 1) := by decide +kernel
theorem dX3_measureBanks_18 : decode cX3_measureBanks 18 = .ok (.invokevirtual 109, 3) := by decide +kernel
theorem dX3_measureBanks_21 : decode cX3_measureBanks 21 = .ok (.checkcast 37, 3) := by decide +kernel
theorem dX3_measureBanks_24 : decode cX3_measureBanks 24 = .ok (.lconst 0, 1) := by decide +kernel
theorem dX3_measureBanks_25 : decode cX3_measureBanks 25 = .ok (.putfield 141, 3) := by decide +kernel
theorem dX3_measureBanks_28 : decode cX3_measureBanks 28 = .ok (.iinc 1 1, 3) := by decide +kernel
theorem dX3_measureBanks_31 : decode cX3_measureBanks 31 = .ok (.goto (-29), 3) := by decide +kernel
theorem dX3_measureBanks_34 : decode cX3_measureBanks 34 = .ok (.iconst 0, 1) := by decide +kernel
theorem dX3_measureBanks_35 : decode cX3_measureBanks 35 = .ok (.istore_n 1, 1) := by decide +kernel
theorem dX3_measureBanks_36 : decode cX3_measureBanks 36 = .ok (.iload_n 1, 1) := by decide +kernel
theorem dX3_measureBanks_37 : decode cX3_measureBanks 37 = .ok (.aload_n 0, 1) := by decide +kernel
theorem dX3_measureBanks_38 : decode cX3_measureBanks 38 = .ok (.getfield 12, 3) := by decide +kernel
theorem dX3_measureBanks_41 : decode cX3_measureBanks 41 = .ok (.invokevirtual 46, 3) := by decide +kernel
theorem dX3_measureBanks_44 : decode cX3_measureBanks 44 = .ok (.if_icmp .ge 41, 3) := by decide +kernel
theorem dX3_measureBanks_47 : decode cX3_measureBanks 47 = .ok (.aload_n 0, 1) := by decide +kernel
theorem dX3_measureBanks_48 : decode cX3_measureBanks 48 = .ok (.getfield 12, 3) := by decide +kernel
theorem dX3_measureBanks_51 : decode cX3_measureBanks 51 = .ok (.iload_n 1, 1) := by decide +kernel
theorem dX3_measureBanks_52 : decode cX3_measureBanks 52 = .ok (.invokevirtual 109, 3) := by decide +kernel
theorem dX3_measureBanks_55 : decode cX3_measureBanks 55 = .ok (.checkcast 55, 3) := by decide +kernel
theorem dX3_measureBanks_58 : decode cX3_measureBanks 58 = .ok (.astore_n 2, 1) := by decide +kernel
theorem dX3_measureBanks_59 : decode cX3_measureBanks 59 = .ok (.aload_n 2, 1) := by decide +kernel
theorem dX3_measureBanks_60 : decode cX3_measureBanks 60 = .ok (.getfield 145, 3) := by decide +kernel
theorem dX3_measureBanks_63 : decode cX3_measureBanks 63 = .ok (.dup, 1) := by decide +kernel
theorem dX3_measureBanks_64 : decode cX3_measureBanks 64 = .ok (.getfield 141, 3) := by decide +kernel
theorem dX3_measureBanks_67 : decode cX3_measureBanks 67 = .ok (.aload_n 2, 1) := by decide +kernel
theorem dX3_measureBanks_68 : decode cX3_measureBanks 68 = .ok (.getfield 149, 3) := by decide +kernel
theorem dX3_measureBanks_71 : decode cX3_measureBanks 71 = .ok (.lconst 0, 1) := by decide +kernel
theorem dX3_measureBanks_72 : decode cX3_measureBanks 72 = .ok (.invokestatic 152, 3) := by decide +kernel
theorem dX3_measureBanks_75 : decode cX3_measureBanks 75 = .ok (.ladd, 1) := by decide +kernel
theorem dX3_measureBanks_76 : decode cX3_measureBanks 76 = .ok (.putfield 141, 3) := by decide +kernel
theorem dX3_measureBanks_79 : decode cX3_measureBanks 79 = .ok (.iinc 1 1, 3) := by decide +kernel
theorem dX3_measureBanks_82 : decode cX3_measureBanks 82 = .ok (.goto (-46), 3) := by decide +kernel
theorem dX3_measureBanks_85 : decode cX3_measureBanks 85 = .ok (.return_, 1) := by decide +kernel
set_option maxRecDepth 20000 in
theorem ggX3_findGiver_Jx4a65c_size_8abf5 : GoodIn wsX3_findGiver wsJx4a65c_size_8abf5 := goodIn_r _ [10, 11, 74, 75, 76] (by decide +kernel) (by decide +kernel)
set_option maxRecDepth 20000 in
theorem gX3_findGiver_Jx4a65c_size_8abf5 : GoodIn wsX3_findGiver (wsV RX3 46 RJx4a65c yJx4a65c_size_8abf5 wsJx4a65c_size_8abf5) := goodIn_app (goodIn_of _ (by decide +kernel)) ggX3_findGiver_Jx4a65c_size_8abf5
set_option maxRecDepth 20000 in
theorem ggX3_findGiver_Jx4a65c_get_915e3 : GoodIn wsX3_findGiver wsJx4a65c_get_915e3 := goodIn_r _ [15, 11, 16, 17, 18, 19, 20, 21, 22, 23, 24, 25, 26, 9, 27, 28, 74, 75, 76] (by decide +kernel) (by decide +kernel)
set_option maxRecDepth 20000 in
theorem gX3_findGiver_Jx4a65c_get_915e3 : GoodIn wsX3_findGiver (wsV RX3 109 RJx4a65c yJx4a65c_get_915e3 wsJx4a65c_get_915e3) := goodIn_app (goodIn_of _ (by decide +kernel)) ggX3_findGiver_Jx4a65c_get_915e3
set_option maxRecDepth 20000 in
theorem ggX3_findGiver_X1_excess : GoodIn wsX3_findGiver wsX1_excess := goodIn_r _ [33, 34, 35, 36, 37, 38, 39, 77, 78, 79] (by decide +kernel) (by decide +kernel)
set_option maxRecDepth 20000 in
theorem gX3_findGiver_X1_excess : GoodIn wsX3_findGiver (wsV RX3 158 RX1 yX1_excess wsX1_excess) := goodIn_app (goodIn_of _ (by decide +kernel)) ggX3_findGiver_X1_excess
set_option maxRecDepth 20000 in
theorem ggX3_findGiver_X3_findGetter : GoodIn wsX3_findGiver wsX3_findGetter := goodIn_r _ [43, 44, 2, 3, 4, 6, 7, 8, 9, 10, 11, 12, 13, 14, 15, 16, 17, 18, 19, 20, 21, 22, 23, 24, 25, 26, 27, 28, 45, 46, 47, 32, 48, 34, 49, 35, 36, 37, 38, 39, 80, 81, 82, 83, 84, 62, 63, 64, 65, 66, 67, 68, 69, 70, 71, 72, 73, 74, 75, 76, 77, 78, 79] (by decide +kernel) (by decide +kernel)
set_option maxRecDepth 20000 in
theorem gX3_findGiver_X3_findGetter : GoodIn wsX3_findGiver (va_wsS RX3 162 yX3_findGetter wsX3_findGetter) := goodIn_app (goodIn_of _ (by decide +kernel)) ggX3_findGiver_X3_findGetter
set_option maxRecDepth 20000 in
theorem ggX3_findGiver_X3_givesBefore : GoodIn wsX3_findGiver wsX3_givesBefore := goodIn_r _ [52, 4, 53, 3, 29, 30, 31, 32, 33, 34, 35, 36, 37, 38, 39, 62, 63, 64, 65, 66, 67, 68, 69, 70, 71, 72, 73, 77, 78, 79] (by decide +kernel) (by decide +kernel)
set_option maxRecDepth 20000 in
theorem gX3_findGiver_X3_givesBefore : GoodIn wsX3_findGiver (va_wsS RX3 166 yX3_givesBefore wsX3_givesBefore) := goodIn_app (goodIn_of _ (by decide +kernel)) ggX3_findGiver_X3_givesBefore
theorem dX3_findGiver_0 : decode cX3_findGiver 0 = .ok (.aconst_null, 1) := by decide +kernel
theorem dX3_findGiver_1 : decode cX3_findGiver 1 = .ok (.astore_n 1, 1) := by decide +kernel
theorem dX3_findGiver_2 : decode cX3_findGiver 2 = .ok (.iconst 0, 1) := by decide +kernel
theorem dX3_findGiver_3 : decode cX3_findGiver 3 = .ok (.istore_n 2, 1) := by decide +kernel
theorem dX3_findGiver_4 : decode cX3_findGiver 4 = .ok (.iload_n 2, 1) := by decide +kernel
theorem dX3_findGiver_5 : decode cX3_findGiver 5 = .ok (.aload_n 0, 1) := by decide +kernel
theorem dX3_findGiver_6 : decode cX3_findGiver 6 = .ok (.getfield 12, 3) := by decide +kernel
theorem dX3_findGiver_9 : decode cX3_findGiver 9 = .ok (.invokevirtual 46, 3) := by decide +kernel
theorem dX3_findGiver_12 : decode cX3_findGiver 12 = .ok (.if_icmp .ge 78, 3) := by decide +kernel
theorem dX3_findGiver_15 : decode cX3_findGiver 15 = .ok (.aload_n 0, 1) := by decide +kernel
theorem dX3_findGiver_16 : decode cX3_findGiver 16 = .ok (.getfield 12, 3) := by decide +kernel
theorem dX3_findGiver_19 : decode cX3_findGiver 19 = .ok (.iload_n 2, 1) := by decide +kernel
theorem dX3_findGiver_20 : decode cX3_findGiver 20 = .ok (.invokevirtual 109, 3) := by decide +kernel
theorem dX3_findGiver_23 : decode cX3_findGiver 23 = .ok (.checkcast 55, 3) := by decide +kernel
theorem dX3_findGiver_26 : decode cX3_findGiver 26 = .ok (.astore_n 3, 1) := by decide +kernel
theorem dX3_findGiver_27 : decode cX3_findGiver 27 = .ok (.aload_n 3, 1) := by decide +kernel
theorem dX3_findGiver_28 : decode cX3_findGiver 28 = .ok (.getfield 149, 3) := by decide +kernel
theorem dX3_findGiver_31 : decode cX3_findGiver 31 = .ok (.lconst 0, 1) := by decide +kernel
theorem dX3_findGiver_32 : decode cX3_findGiver 32 = .ok (.lcmp, 1) := by decide +kernel
theorem dX3_findGiver_33 : decode cX3_findGiver 33 = .ok (.ifCond .le 29, 3) := by decide +kernel
theorem dX3_findGiver_36 : decode cX3_findGiver 36 = .ok (.aload_n 3, 1) := by decide +kernel
theorem dX3_findGiver_37 : decode cX3_findGiver 37 = .ok (.getfield 145, 3) := by decide +kernel
theorem dX3_findGiver_40 : decode cX3_findGiver 40 = .ok (.invokevirtual 158, 3) := by decide +kernel
theorem dX3_findGiver_43 : decode cX3_findGiver 43 = .ok (.lconst 0, 1) := by decide +kernel
theorem dX3_findGiver_44 : decode cX3_findGiver 44 = .ok (.lcmp, 1) := by decide +kernel
theorem dX3_findGiver_45 : decode cX3_findGiver 45 = .ok (.ifCond .le 17, 3) := by decide +kernel
theorem dX3_findGiver_48 : decode cX3_findGiver 48 = .ok (.aload_n 3, 1) := by decide +kernel
theorem dX3_findGiver_49 : decode cX3_findGiver 49 = .ok (.getfield 64, 3) := by decide +kernel
theorem dX3_findGiver_52 : decode cX3_findGiver 52 = .ok (.invokestatic 162, 3) := by decide +kernel
theorem dX3_findGiver_55 : decode cX3_findGiver 55 = .ok (.ifnull 7, 3) := by decide +kernel
theorem dX3_findGiver_58 : decode cX3_findGiver 58 = .ok (.iconst 1, 1) := by decide +kernel
theorem dX3_findGiver_59 : decode cX3_findGiver 59 = .ok (.goto 4, 3) := by decide +kernel
theorem dX3_findGiver_62 : decode cX3_findGiver 62 = .ok (.iconst 0, 1) := by decide +kernel
theorem dX3_findGiver_63 : decode cX3_findGiver 63 = .ok (.istore 4, 2) := by decide +kernel
theorem dX3_findGiver_65 : decode cX3_findGiver 65 = .ok (.iload 4, 2) := by decide +kernel
theorem dX3_findGiver_67 : decode cX3_findGiver 67 = .ok (.ifCond .eq 17, 3) := by decide +kernel
theorem dX3_findGiver_70 : decode cX3_findGiver 70 = .ok (.aload_n 1, 1) := by decide +kernel
theorem dX3_findGiver_71 : decode cX3_findGiver 71 = .ok (.ifnull 11, 3) := by decide +kernel
theorem dX3_findGiver_74 : decode cX3_findGiver 74 = .ok (.aload_n 3, 1) := by decide +kernel
theorem dX3_findGiver_75 : decode cX3_findGiver 75 = .ok (.aload_n 1, 1) := by decide +kernel
theorem dX3_findGiver_76 : decode cX3_findGiver 76 = .ok (.invokestatic 166, 3) := by decide +kernel
theorem dX3_findGiver_79 : decode cX3_findGiver 79 = .ok (.ifCond .eq 5, 3) := by decide +kernel
theorem dX3_findGiver_82 : decode cX3_findGiver 82 = .ok (.aload_n 3, 1) := by decide +kernel
theorem dX3_findGiver_83 : decode cX3_findGiver 83 = .ok (.astore_n 1, 1) := by decide +kernel
theorem dX3_findGiver_84 : decode cX3_findGiver 84 = .ok (.iinc 2 1, 3) := by decide +kernel
theorem dX3_findGiver_87 : decode cX3_findGiver 87 = .ok (.goto (-83), 3) := by decide +kernel
theorem dX3_findGiver_90 : decode cX3_findGiver 90 = .ok (.aload_n 1, 1) := by decide +kernel
theorem dX3_findGiver_91 : decode cX3_findGiver 91 = .ok (.areturn, 1) := by decide +kernel
set_option maxRecDepth 20000 in
theorem ggX3_givesBefore_X1_excess : GoodIn wsX3_givesBefore wsX1_excess := goodIn_r _ [8, 9, 10, 11, 12, 13, 14, 27, 28, 29] (by decide +kernel) (by decide +kernel)
set_option maxRecDepth 20000 in
theorem gX3_givesBefore_X1_excess : GoodIn wsX3_givesBefore (wsV RX3 158 RX1 yX1_excess wsX1_excess) := goodIn_app (goodIn_of _ (by decide +kernel)) ggX3_givesBefore_X1_excess
theorem dX3_givesBefore_0 : decode cX3_givesBefore 0 = .ok (.aload_n 0, 1) := by decide +kernel
theorem dX3_givesBefore_1 : decode cX3_givesBefore 1 = .ok (.getfield 145, 3) := by decide +kernel
theorem dX3_givesBefore_4 : decode cX3_givesBefore 4 = .ok (.getfield 170, 3) := by decide +kernel
theorem dX3_givesBefore_7 : decode cX3_givesBefore 7 = .ok (.aload_n 1, 1) := by decide +kernel
theorem dX3_givesBefore_8 : decode cX3_givesBefore 8 = .ok (.getfield 145, 3) := by decide +kernel
theorem dX3_givesBefore_11 : decode cX3_givesBefore 11 = .ok (.getfield 170, 3) := by decide +kernel
theorem dX3_givesBefore_14 : decode cX3_givesBefore 14 = .ok (.if_icmp .ne 21, 3) := by decide +kernel
theorem dX3_givesBefore_17 : decode cX3_givesBefore 17 = .ok (.aload_n 0, 1) := by decide +kernel
theorem dX3_givesBefore_18 : decode cX3_givesBefore 18 = .ok (.getfield 149, 3) := by decide +kernel
theorem dX3_givesBefore_21 : decode cX3_givesBefore 21 = .ok (.aload_n 1, 1) := by decide +kernel
theorem dX3_givesBefore_22 : decode cX3_givesBefore 22 = .ok (.getfield 149, 3) := by decide +kernel
theorem dX3_givesBefore_25 : decode cX3_givesBefore 25 = .ok (.lcmp, 1) := by decide +kernel
theorem dX3_givesBefore_26 : decode cX3_givesBefore 26 = .ok (.ifCond .le 7, 3) := by decide +kernel
theorem dX3_givesBefore_29 : decode cX3_givesBefore 29 = .ok (.iconst 1, 1) := by decide +kernel
theorem dX3_givesBefore_30 : decode cX3_givesBefore 30 = .ok (.goto 4, 3) := by decide +kernel
theorem dX3_givesBefore_33 : decode cX3_givesBefore 33 = .ok (.iconst 0, 1) := by decide +kernel
theorem dX3_givesBefore_34 : decode cX3_givesBefore 34 = .ok (.ireturn, 1) := by decide +kernel
theorem dX3_givesBefore_35 : decode cX3_givesBefore 35 = .ok (.aload_n 0, 1) := by decide +kernel
theorem dX3_givesBefore_36 : decode cX3_givesBefore 36 = .ok (.getfield 145, 3) := by decide +kernel
theorem dX3_givesBefore_39 : decode cX3_givesBefore 39 = .ok (.invokevirtual 158, 3) := by decide +kernel
theorem dX3_givesBefore_42 : decode cX3_givesBefore 42 = .ok (.aload_n 1, 1) := by decide +kernel
theorem dX3_givesBefore_43 : decode cX3_givesBefore 43 = .ok (.getfield 145, 3) := by decide +kernel
theorem dX3_givesBefore_46 : decode cX3_givesBefore 46 = .ok (.invokevirtual 158, 3) := by decide +kernel
theorem dX3_givesBefore_49 : decode cX3_givesBefore 49 = .ok (.lcmp, 1) := by decide +kernel
theorem dX3_givesBefore_50 : decode cX3_givesBefore 50 = .ok (.ifCond .eq 27, 3) := by decide +kernel
theorem dX3_givesBefore_53 : decode cX3_givesBefore 53 = .ok (.aload_n 0, 1) := by decide +kernel
theorem dX3_givesBefore_54 : decode cX3_givesBefore 54 = .ok (.getfield 145, 3) := by decide +kernel
theorem dX3_givesBefore_57 : decode cX3_givesBefore 57 = .ok (.invokevirtual 158, 3) := by decide +kernel
theorem dX3_givesBefore_60 : decode cX3_givesBefore 60 = .ok (.aload_n 1, 1) := by decide +kernel
theorem dX3_givesBefore_61 : decode cX3_givesBefore 61 = .ok (.getfield 145, 3) := by decide +kernel
theorem dX3_givesBefore_64 : decode cX3_givesBefore 64 = .ok (.invokevirtual 158, 3) := by decide +kernel
theorem dX3_givesBefore_67 : decode cX3_givesBefore 67 = .ok (.lcmp, 1) := by decide +kernel
theorem dX3_givesBefore_68 : decode cX3_givesBefore 68 = .ok (.ifCond .le 7, 3) := by decide +kernel
theorem dX3_givesBefore_71 : decode cX3_givesBefore 71 = .ok (.iconst 1, 1) := by decide +kernel
theorem dX3_givesBefore_72 : decode cX3_givesBefore 72 = .ok (.goto 4, 3) := by decide +kernel
theorem dX3_givesBefore_75 : decode cX3_givesBefore 75 = .ok (.iconst 0, 1) := by decide +kernel
theorem dX3_givesBefore_76 : decode cX3_givesBefore 76 = .ok (.ireturn, 1) := by decide +kernel
theorem dX3_givesBefore_77 : decode cX3_givesBefore 77 = .ok (.aload_n 0, 1) := by decide +kernel
theorem dX3_givesBefore_78 : decode cX3_givesBefore 78 = .ok (.getfield 145, 3) := by decide +kernel
theorem dX3_givesBefore_81 : decode cX3_givesBefore 81 = .ok (.getfield 170, 3) := by decide +kernel
theorem dX3_givesBefore_84 : decode cX3_givesBefore 84 = .ok (.aload_n 1, 1) := by decide +kernel
theorem dX3_givesBefore_85 : decode cX3_givesBefore 85 = .ok (.getfield 145, 3) := by decide +kernel
theorem dX3_givesBefore_88 : decode cX3_givesBefore 88 = .ok (.getfield 170, 3) := by decide +kernel
theorem dX3_givesBefore_91 : decode cX3_givesBefore 91 = .ok (.if_icmp .ge 7, 3) := by decide +kernel
theorem dX3_givesBefore_94 : decode cX3_givesBefore 94 = .ok (.iconst 1, 1) := by decide +kernel
theorem dX3_givesBefore_95 : decode cX3_givesBefore 95 = .ok (.goto 4, 3) := by decide +kernel
theorem dX3_givesBefore_98 : decode cX3_givesBefore 98 = .ok (.iconst 0, 1) := by decide +kernel
theorem dX3_givesBefore_99 : decode cX3_givesBefore 99 = .ok (.ireturn, 1) := by decide +kernel
set_option maxRecDepth 20000 in
theorem ggX3_findGetter_Jx4a65c_size_8abf5 : GoodIn wsX3_findGetter wsJx4a65c_size_8abf5 := goodIn_r _ [9, 10, 57, 58, 59] (by decide +kernel) (by decide +kernel)
set_option maxRecDepth 20000 in
theorem gX3_findGetter_Jx4a65c_size_8abf5 : GoodIn wsX3_findGetter (wsV RX3 46 RJx4a65c yJx4a65c_size_8abf5 wsJx4a65c_size_8abf5) := goodIn_app (goodIn_of _ (by decide +kernel)) ggX3_findGetter_Jx4a65c_size_8abf5
set_option maxRecDepth 20000 in
theorem ggX3_findGetter_Jx4a65c_get_915e3 : GoodIn wsX3_findGetter wsJx4a65c_get_915e3 := goodIn_r _ [14, 10, 15, 16, 17, 18, 19, 20, 21, 22, 23, 24, 25, 8, 26, 27, 57, 58, 59] (by decide +kernel) (by decide +kernel)
set_option maxRecDepth 20000 in
theorem gX3_findGetter_Jx4a65c_get_915e3 : GoodIn wsX3_findGetter (wsV RX3 109 RJx4a65c yJx4a65c_get_915e3 wsJx4a65c_get_915e3) := goodIn_app (goodIn_of _ (by decide +kernel)) ggX3_findGetter_Jx4a65c_get_915e3
set_option maxRecDepth 20000 in
theorem ggX3_findGetter_X1_room : GoodIn wsX3_findGetter wsX1_room := goodIn_r _ [32, 33, 34, 35, 36, 37, 38, 39, 60, 61, 62] (by decide +kernel) (by decide +kernel)
set_option maxRecDepth 20000 in
theorem gX3_findGetter_X1_room : GoodIn wsX3_findGetter (wsV RX3 173 RX1 yX1_room wsX1_room) := goodIn_app (goodIn_of _ (by decide +kernel)) ggX3_findGetter_X1_room
theorem dX3_findGetter_0 : decode cX3_findGetter 0 = .ok (.aconst_null, 1) := by decide +kernel
theorem dX3_findGetter_1 : decode cX3_findGetter 1 = .ok (.astore_n 1, 1) := by decide +kernel
theorem dX3_findGetter_2 : decode cX3_findGetter 2 = .ok (.iconst 0, 1) := by decide +kernel
theorem dX3_findGetter_3 : decode cX3_findGetter 3 = .ok (.istore_n 2, 1) := by decide +kernel
theorem dX3_findGetter_4 : decode cX3_findGetter 4 = .ok (.iload_n 2, 1) := by decide +kernel
theorem dX3_findGetter_5 : decode cX3_findGetter 5 = .ok (.aload_n 0, 1) := by decide +kernel
theorem dX3_findGetter_6 : decode cX3_findGetter 6 = .ok (.getfield 71, 3) := by decide +kernel
theorem dX3_findGetter_9 : decode cX3_findGetter 9 = .ok (.invokevirtual 46, 3) := by decide +kernel
theorem dX3_findGetter_12 : decode cX3_findGetter 12 = .ok (.if_icmp .ge 78, 3) := by decide +kernel
theorem dX3_findGetter_15 : decode cX3_findGetter 15 = .ok (.aload_n 0, 1) := by decide +kernel
theorem dX3_findGetter_16 : decode cX3_findGetter 16 = .ok (.getfield 71, 3) := by decide +kernel
theorem dX3_findGetter_19 : decode cX3_findGetter 19 = .ok (.iload_n 2, 1) := by decide +kernel
theorem dX3_findGetter_20 : decode cX3_findGetter 20 = .ok (.invokevirtual 109, 3) := by decide +kernel
theorem dX3_findGetter_23 : decode cX3_findGetter 23 = .ok (.checkcast 55, 3) := by decide +kernel
theorem dX3_findGetter_26 : decode cX3_findGetter 26 = .ok (.astore_n 3, 1) := by decide +kernel
theorem dX3_findGetter_27 : decode cX3_findGetter 27 = .ok (.aload_n 3, 1) := by decide +kernel
theorem dX3_findGetter_28 : decode cX3_findGetter 28 = .ok (.getfield 149, 3) := by decide +kernel
theorem dX3_findGetter_31 : decode cX3_findGetter 31 = .ok (.lconst 0, 1) := by decide +kernel
theorem dX3_findGetter_32 : decode cX3_findGetter 32 = .ok (.lcmp, 1) := by decide +kernel
theorem dX3_findGetter_33 : decode cX3_findGetter 33 = .ok (.ifCond .lt 19, 3) := by decide +kernel
theorem dX3_findGetter_36 : decode cX3_findGetter 36 = .ok (.aload_n 3, 1) := by decide +kernel
theorem dX3_findGetter_37 : decode cX3_findGetter 37 = .ok (.getfield 145, 3) := by decide +kernel
theorem dX3_findGetter_40 : decode cX3_findGetter 40 = .ok (.invokevirtual 173, 3) := by decide +kernel
theorem dX3_findGetter_43 : decode cX3_findGetter 43 = .ok (.lconst 0, 1) := by decide +kernel
theorem dX3_findGetter_44 : decode cX3_findGetter 44 = .ok (.lcmp, 1) := by decide +kernel
theorem dX3_findGetter_45 : decode cX3_findGetter 45 = .ok (.ifCond .le 7, 3) := by decide +kernel
theorem dX3_findGetter_48 : decode cX3_findGetter 48 = .ok (.iconst 1, 1) := by decide +kernel
theorem dX3_findGetter_49 : decode cX3_findGetter 49 = .ok (.goto 4, 3) := by decide +kernel
theorem dX3_findGetter_52 : decode cX3_findGetter 52 = .ok (.iconst 0, 1) := by decide +kernel
theorem dX3_findGetter_53 : decode cX3_findGetter 53 = .ok (.istore 4, 2) := by decide +kernel
theorem dX3_findGetter_55 : decode cX3_findGetter 55 = .ok (.iload 4, 2) := by decide +kernel
theorem dX3_findGetter_57 : decode cX3_findGetter 57 = .ok (.ifCond .eq 27, 3) := by decide +kernel
theorem dX3_findGetter_60 : decode cX3_findGetter 60 = .ok (.aload_n 1, 1) := by decide +kernel
theorem dX3_findGetter_61 : decode cX3_findGetter 61 = .ok (.ifnull 21, 3) := by decide +kernel
theorem dX3_findGetter_64 : decode cX3_findGetter 64 = .ok (.aload_n 3, 1) := by decide +kernel
theorem dX3_findGetter_65 : decode cX3_findGetter 65 = .ok (.getfield 145, 3) := by decide +kernel
theorem dX3_findGetter_68 : decode cX3_findGetter 68 = .ok (.invokevirtual 173, 3) := by decide +kernel
theorem dX3_findGetter_71 : decode cX3_findGetter 71 = .ok (.aload_n 1, 1) := by decide +kernel
theorem dX3_findGetter_72 : decode cX3_findGetter 72 = .ok (.getfield 145, 3) := by decide +kernel
theorem dX3_findGetter_75 : decode cX3_findGetter 75 = .ok (.invokevirtual 173, 3) := by decide +kernel
theorem dX3_findGetter_78 : decode cX3_findGetter 78 = .ok (.lcmp, 1) := by decide +kernel
theorem dX3_findGetter_79 : decode cX3_findGetter 79 = .ok (.ifCond .le 5, 3) := by decide +kernel
theorem dX3_findGetter_82 : decode cX3_findGetter 82 = .ok (.aload_n 3, 1) := by decide +kernel
theorem dX3_findGetter_83 : decode cX3_findGetter 83 = .ok (.astore_n 1, 1) := by decide +kernel
theorem dX3_findGetter_84 : decode cX3_findGetter 84 = .ok (.iinc 2 1, 3) := by decide +kernel
theorem dX3_findGetter_87 : decode cX3_findGetter 87 = .ok (.goto (-83), 3) := by decide +kernel
theorem dX3_findGetter_90 : decode cX3_findGetter 90 = .ok (.aload_n 1, 1) := by decide +kernel
theorem dX3_findGetter_91 : decode cX3_findGetter 91 = .ok (.areturn, 1) := by decide +kernel
set_option maxRecDepth 20000 in
theorem ggX3_moveAway_X3_findGetter : GoodIn wsX3_moveAway wsX3_findGetter := goodIn_r _ [11, 12, 13, 2, 3, 14, 15, 16, 17, 18, 19, 20, 21, 22, 23, 24, 25, 26, 27, 28, 29, 30, 31, 32, 33, 34, 35, 36, 37, 38, 39, 40, 41, 42, 43, 44, 45, 46, 6, 47, 64, 65, 66, 67, 68, 52, 53, 54, 55, 56, 57, 58, 59, 60, 61, 62, 63, 69, 70, 71, 72, 73, 74] (by decide +kernel) (by decide +kernel)
set_option maxRecDepth 20000 in
theorem gX3_moveAway_X3_findGetter : GoodIn wsX3_moveAway (va_wsS RX3 162 yX3_findGetter wsX3_findGetter) := goodIn_app (goodIn_of _ (by decide +kernel)) ggX3_moveAway_X3_findGetter
set_option maxRecDepth 20000 in
theorem ggX3_moveAway_X1_room : GoodIn wsX3_moveAway wsX1_room := goodIn_r _ [41, 42, 43, 44, 45, 46, 6, 47, 72, 73, 74] (by decide +kernel) (by decide +kernel)
set_option maxRecDepth 20000 in
theorem gX3_moveAway_X1_room : GoodIn wsX3_moveAway (wsV RX3 173 RX1 yX1_room wsX1_room) := goodIn_app (goodIn_of _ (by decide +kernel)) ggX3_moveAway_X1_room
set_option maxRecDepth 20000 in
theorem ggX3_moveAway_X1_excess : GoodIn wsX3_moveAway wsX1_excess := goodIn_r _ [51, 42, 44, 45, 46, 6, 47, 72, 73, 74] (by decide +kernel) (by decide +kernel)
set_option maxRecDepth 20000 in
theorem gX3_moveAway_X1_excess : GoodIn wsX3_moveAway (wsV RX3 158 RX1 yX1_excess wsX1_excess) := goodIn_app (goodIn_of _ (by decide +kernel)) ggX3_moveAway_X1_excess
theorem dX3_moveAway_0 : decode cX3_moveAway 0 = .ok (.aload_n 0, 1) := by decide +kernel
theorem dX3_moveAway_1 : decode cX3_moveAway 1 = .ok (.getfield 64, 3) := by decide +kernel
theorem dX3_moveAway_4 : decode cX3_moveAway 4 = .ok (.invokestatic 162, 3) := by decide +kernel
theorem dX3_moveAway_7 : decode cX3_moveAway 7 = .ok (.astore_n 1, 1) := by decide +kernel
theorem dX3_moveAway_8 : decode cX3_moveAway 8 = .ok (.aload_n 1, 1) := by decide +kernel
theorem dX3_moveAway_9 : decode cX3_moveAway 9 = .ok (.ifnonnull 5, 3) := by decide +kernel
theorem dX3_moveAway_12 : decode cX3_moveAway 12 = .ok (.iconst 0, 1) := by decide +kernel
theorem dX3_moveAway_13 : decode cX3_moveAway 13 = .ok (.ireturn, 1) := by decide +kernel
theorem dX3_moveAway_14 : decode cX3_moveAway 14 = .ok (.aload_n 0, 1) := by decide +kernel
theorem dX3_moveAway_15 : decode cX3_moveAway 15 = .ok (.getfield 149, 3) := by decide +kernel
theorem dX3_moveAway_18 : decode cX3_moveAway 18 = .ok (.aload_n 1, 1) := by decide +kernel
theorem dX3_moveAway_19 : decode cX3_moveAway 19 = .ok (.getfield 145, 3) := by decide +kernel
theorem dX3_moveAway_22 : decode cX3_moveAway 22 = .ok (.invokevirtual 173, 3) := by decide +kernel
theorem dX3_moveAway_25 : decode cX3_moveAway 25 = .ok (.invokestatic 176, 3) := by decide +kernel
theorem dX3_moveAway_28 : decode cX3_moveAway 28 = .ok (.lstore_n 2, 1) := by decide +kernel
theorem dX3_moveAway_29 : decode cX3_moveAway 29 = .ok (.aload_n 0, 1) := by decide +kernel
theorem dX3_moveAway_30 : decode cX3_moveAway 30 = .ok (.getfield 145, 3) := by decide +kernel
theorem dX3_moveAway_33 : decode cX3_moveAway 33 = .ok (.invokevirtual 158, 3) := by decide +kernel
theorem dX3_moveAway_36 : decode cX3_moveAway 36 = .ok (.lload_n 2, 1) := by decide +kernel
theorem dX3_moveAway_37 : decode cX3_moveAway 37 = .ok (.invokestatic 176, 3) := by decide +kernel
theorem dX3_moveAway_40 : decode cX3_moveAway 40 = .ok (.lstore 4, 2) := by decide +kernel
theorem dX3_moveAway_42 : decode cX3_moveAway 42 = .ok (.aload_n 0, 1) := by decide +kernel
theorem dX3_moveAway_43 : decode cX3_moveAway 43 = .ok (.dup, 1) := by decide +kernel
theorem dX3_moveAway_44 : decode cX3_moveAway 44 = .ok (.getfield 149, 3) := by decide +kernel
theorem dX3_moveAway_47 : decode cX3_moveAway 47 = .ok (.lload 4, 2) := by decide +kernel
theorem dX3_moveAway_49 : decode cX3_moveAway 49 = .ok (.lsub, 1) := by decide +kernel
theorem dX3_moveAway_50 : decode cX3_moveAway 50 = .ok (.putfield 149, 3) := by decide +kernel
theorem dX3_moveAway_53 : decode cX3_moveAway 53 = .ok (.aload_n 1, 1) := by decide +kernel
theorem dX3_moveAway_54 : decode cX3_moveAway 54 = .ok (.dup, 1) := by decide +kernel
theorem dX3_moveAway_55 : decode cX3_moveAway 55 = .ok (.getfield 149, 3) := by decide +kernel
theorem dX3_moveAway_58 : decode cX3_moveAway 58 = .ok (.lload 4, 2) := by decide +kernel
theorem dX3_moveAway_60 : decode cX3_moveAway 60 = .ok (.ladd, 1) := by decide +kernel
theorem dX3_moveAway_61 : decode cX3_moveAway 61 = .ok (.putfield 149, 3) := by decide +kernel
theorem dX3_moveAway_64 : decode cX3_moveAway 64 = .ok (.iconst 1, 1) := by decide +kernel
theorem dX3_moveAway_65 : decode cX3_moveAway 65 = .ok (.ireturn, 1) := by decide +kernel
set_option maxRecDepth 20000 in
theorem ggX3_accrueInterest_Jx4a65c_size_8abf5 : GoodIn wsX3_accrueInterest wsJx4a65c_size_8abf5 := goodIn_r _ [10, 11, 86, 87, 88] (by decide +kernel) (by decide +kernel)
set_option maxRecDepth 20000 in
theorem gX3_accrueInterest_Jx4a65c_size_8abf5 : GoodIn wsX3_accrueInterest (wsV RX3 46 RJx4a65c yJx4a65c_size_8abf5 wsJx4a65c_size_8abf5) := goodIn_app (goodIn_of _ (by decide +kernel)) ggX3_accrueInterest_Jx4a65c_size_8abf5
set_option maxRecDepth 20000 in
theorem ggX3_accrueInterest_Jx4a65c_get_915e3 : GoodIn wsX3_accrueInterest wsJx4a65c_get_915e3 := goodIn_r _ [15, 11, 16, 17, 18, 19, 20, 21, 22, 23, 24, 25, 26, 9, 27, 28, 86, 87, 88] (by decide +kernel) (by decide +kernel)
set_option maxRecDepth 20000 in
theorem gX3_accrueInterest_Jx4a65c_get_915e3 : GoodIn wsX3_accrueInterest (wsV RX3 109 RJx4a65c yJx4a65c_get_915e3 wsJx4a65c_get_915e3) := goodIn_app (goodIn_of _ (by decide +kernel)) ggX3_accrueInterest_Jx4a65c_get_915e3
set_option maxRecDepth 20000 in
theorem ggX3_accrueInterest_X6_accrue : GoodIn wsX3_accrueInterest wsX6_accrue := goodIn_r _ [33, 34, 35, 36, 37, 38, 39, 7, 8, 9, 10, 11, 40, 13, 14, 15, 16, 17, 18, 19, 20, 21, 22, 23, 24, 25, 26, 27, 28, 41, 42, 43, 44, 45, 46, 47, 48, 49, 50, 51, 52, 53, 54, 55, 56, 57, 89, 90, 91, 92, 93, 74, 75, 76, 77, 78, 79, 80, 81, 82, 83, 84, 85, 86, 87, 88, 94, 95, 96, 97, 98, 99, 100, 101, 102, 103] (by decide +kernel) (by decide +kernel)
set_option maxRecDepth 20000 in
theorem gX3_accrueInterest_X6_accrue : GoodIn wsX3_accrueInterest (wsV RX3 179 RX6 yX6_accrue wsX6_accrue) := goodIn_app (goodIn_of _ (by decide +kernel)) ggX3_accrueInterest_X6_accrue
set_option maxRecDepth 20000 in
theorem ggX3_accrueInterest_X5_accrue : GoodIn wsX3_accrueInterest wsX5_accrue := goodIn_r _ [62, 63, 64, 65, 104, 105, 106, 107, 108, 109, 110, 111, 112] (by decide +kernel) (by decide +kernel)
set_option maxRecDepth 20000 in
theorem gX3_accrueInterest_X5_accrue : GoodIn wsX3_accrueInterest (wsV RX3 182 RX5 yX5_accrue wsX5_accrue) := goodIn_app (goodIn_of _ (by decide +kernel)) ggX3_accrueInterest_X5_accrue
theorem dX3_accrueInterest_0 : decode cX3_accrueInterest 0 = .ok (.iconst 0, 1) := by decide +kernel
theorem dX3_accrueInterest_1 : decode cX3_accrueInterest 1 = .ok (.istore_n 1, 1) := by decide +kernel
theorem dX3_accrueInterest_2 : decode cX3_accrueInterest 2 = .ok (.iload_n 1, 1) := by decide +kernel
theorem dX3_accrueInterest_3 : decode cX3_accrueInterest 3 = .ok (.aload_n 0, 1) := by decide +kernel
theorem dX3_accrueInterest_4 : decode cX3_accrueInterest 4 = .ok (.getfield 18, 3) := by decide +kernel
theorem dX3_accrueInterest_7 : decode cX3_accrueInterest 7 = .ok (.invokevirtual 46, 3) := by decide +kernel
theorem dX3_accrueInterest_10 : decode cX3_accrueInterest 10 = .ok (.if_icmp .ge 26, 3) := by decide +kernel
theorem dX3_accrueInterest_13 : decode cX3_accrueInterest 13 = .ok (.aload_n 0, 1) := by decide +kernel
theorem dX3_accrueInterest_14 : decode cX3_accrueInterest 14 = .ok (.getfield 18, 3) := by decide +kernel
theorem dX3_accrueInterest_17 : decode cX3_accrueInterest 17 = .ok (.iload_n 1, 1) := by decide +kernel
theorem dX3_accrueInterest_18 : decode cX3_accrueInterest 18 = .ok (.invokevirtual 109, 3) := by decide +kernel
theorem dX3_accrueInterest_21 : decode cX3_accrueInterest 21 = .ok (.checkcast 55, 3) := by decide +kernel
theorem dX3_accrueInterest_24 : decode cX3_accrueInterest 24 = .ok (.getfield 64, 3) := by decide +kernel
theorem dX3_accrueInterest_27 : decode cX3_accrueInterest 27 = .ok (.invokevirtual 179, 3) := by decide +kernel
theorem dX3_accrueInterest_30 : decode cX3_accrueInterest 30 = .ok (.iinc 1 1, 3) := by decide +kernel
theorem dX3_accrueInterest_33 : decode cX3_accrueInterest 33 = .ok (.goto (-31), 3) := by decide +kernel
theorem dX3_accrueInterest_36 : decode cX3_accrueInterest 36 = .ok (.iconst 0, 1) := by decide +kernel
theorem dX3_accrueInterest_37 : decode cX3_accrueInterest 37 = .ok (.istore_n 1, 1) := by decide +kernel
theorem dX3_accrueInterest_38 : decode cX3_accrueInterest 38 = .ok (.iload_n 1, 1) := by decide +kernel
theorem dX3_accrueInterest_39 : decode cX3_accrueInterest 39 = .ok (.aload_n 0, 1) := by decide +kernel
theorem dX3_accrueInterest_40 : decode cX3_accrueInterest 40 = .ok (.getfield 21, 3) := by decide +kernel
theorem dX3_accrueInterest_43 : decode cX3_accrueInterest 43 = .ok (.invokevirtual 46, 3) := by decide +kernel
theorem dX3_accrueInterest_46 : decode cX3_accrueInterest 46 = .ok (.if_icmp .ge 23, 3) := by decide +kernel
theorem dX3_accrueInterest_49 : decode cX3_accrueInterest 49 = .ok (.aload_n 0, 1) := by decide +kernel
theorem dX3_accrueInterest_50 : decode cX3_accrueInterest 50 = .ok (.getfield 21, 3) := by decide +kernel
theorem dX3_accrueInterest_53 : decode cX3_accrueInterest 53 = .ok (.iload_n 1, 1) := by decide +kernel
theorem dX3_accrueInterest_54 : decode cX3_accrueInterest 54 = .ok (.invokevirtual 109, 3) := by decide +kernel
theorem dX3_accrueInterest_57 : decode cX3_accrueInterest 57 = .ok (.checkcast 74, 3) := by decide +kernel
theorem dX3_accrueInterest_60 : decode cX3_accrueInterest 60 = .ok (.invokevirtual 182, 3) := by decide +kernel
theorem dX3_accrueInterest_63 : decode cX3_accrueInterest 63 = .ok (.iinc 1 1, 3) := by decide +kernel
theorem dX3_accrueInterest_66 : decode cX3_accrueInterest 66 = .ok (.goto (-28), 3) := by decide +kernel
theorem dX3_accrueInterest_69 : decode cX3_accrueInterest 69 = .ok (.return_, 1) := by decide +kernel
set_option maxRecDepth 20000 in
theorem ggX3_bookInterest_Jx4a65c_size_8abf5 : GoodIn wsX3_bookInterest wsJx4a65c_size_8abf5 := goodIn_r _ [10, 11, 98, 99, 100] (by decide +kernel) (by decide +kernel)
set_option maxRecDepth 20000 in
theorem gX3_bookInterest_Jx4a65c_size_8abf5 : GoodIn wsX3_bookInterest (wsV RX3 46 RJx4a65c yJx4a65c_size_8abf5 wsJx4a65c_size_8abf5) := goodIn_app (goodIn_of _ (by decide +kernel)) ggX3_bookInterest_Jx4a65c_size_8abf5
set_option maxRecDepth 20000 in
theorem ggX3_bookInterest_Jx4a65c_get_915e3 : GoodIn wsX3_bookInterest wsJx4a65c_get_915e3 := goodIn_r _ [15, 11, 16, 17, 18, 19, 20, 21, 22, 23, 24, 25, 26, 9, 27, 28, 98, 99, 100] (by decide +kernel) (by decide +kernel)
set_option maxRecDepth 20000 in
theorem gX3_bookInterest_Jx4a65c_get_915e3 : GoodIn wsX3_bookInterest (wsV RX3 109 RJx4a65c yJx4a65c_get_915e3 wsJx4a65c_get_915e3) := goodIn_app (goodIn_of _ (by decide +kernel)) ggX3_bookInterest_Jx4a65c_get_915e3
set_option maxRecDepth 20000 in
theorem ggX3_bookInterest_X6_bookInterest : GoodIn wsX3_bookInterest wsX6_bookInterest := goodIn_r _ [33, 34, 35, 36, 37, 38, 39, 40, 41, 42, 43, 44, 45, 46, 47, 48, 49, 50, 51, 52, 53, 54, 55, 56, 57, 58, 59, 7, 8, 9, 10, 11, 60, 13, 14, 15, 16, 17, 18, 19, 20, 21, 22, 23, 24, 25, 26, 27, 28, 61, 62, 63, 64, 65, 66, 67, 101, 102, 103, 104, 105, 106, 107, 108, 109, 110, 111, 112, 113, 114, 115, 98, 99, 100, 86, 87, 88, 89, 90, 91, 92, 93, 94, 95, 96, 97] (by decide +kernel) (by decide +kernel)
set_option maxRecDepth 20000 in
theorem gX3_bookInterest_X6_bookInterest : GoodIn wsX3_bookInterest (wsV RX3 183 RX6 yX6_bookInterest wsX6_bookInterest) := goodIn_app (goodIn_of _ (by decide +kernel)) ggX3_bookInterest_X6_bookInterest
set_option maxRecDepth 20000 in
theorem ggX3_bookInterest_X5_bookInterest : GoodIn wsX3_bookInterest wsX5_bookInterest := goodIn_r _ [72, 73, 74, 75, 76, 77, 116, 117, 118, 119, 120, 121, 122, 123, 124, 86, 87, 88, 89, 90, 91, 92, 93, 94, 95, 96, 97] (by decide +kernel) (by decide +kernel)
set_option maxRecDepth 20000 in
theorem gX3_bookInterest_X5_bookInterest : GoodIn wsX3_bookInterest (wsV RX3 184 RX5 yX5_bookInterest wsX5_bookInterest) := goodIn_app (goodIn_of _ (by decide +kernel)) ggX3_bookInterest_X5_bookInterest
theorem dX3_bookInterest_0 : decode cX3_bookInterest 0 = .ok (.iconst 0, 1) := by decide +kernel
theorem dX3_bookInterest_1 : decode cX3_bookInterest 1 = .ok (.istore_n 1, 1) := by decide +kernel
theorem dX3_bookInterest_2 : decode cX3_bookInterest 2 = .ok (.iload_n 1, 1) := by decide +kernel
theorem dX3_bookInterest_3 : decode cX3_bookInterest 3 = .ok (.aload_n 0, 1) := by decide +kernel
theorem dX3_bookInterest_4 : decode cX3_bookInterest 4 = .ok (.getfield 18, 3) := by decide +kernel
theorem dX3_bookInterest_7 : decode cX3_bookInterest 7 = .ok (.invokevirtual 46, 3) := by decide +kernel
theorem dX3_bookInterest_10 : decode cX3_bookInterest 10 = .ok (.if_icmp .ge 26, 3) := by decide +kernel
theorem dX3_bookInterest_13 : decode cX3_bookInterest 13 = .ok (.aload_n 0, 1) := by decide +kernel
theorem dX3_bookInterest_14 : decode cX3_bookInterest 14 = .ok (.getfield 18, 3) := by decide +kernel
theorem dX3_bookInterest_17 : decode cX3_bookInterest 17 = .ok (.iload_n 1, 1) := by decide +kernel
theorem dX3_bookInterest_18 : decode cX3_bookInterest 18 = .ok (.invokevirtual 109, 3) := by decide +kernel
theorem dX3_bookInterest_21 : decode cX3_bookInterest 21 = .ok (.checkcast 55, 3) := by decide +kernel
theorem dX3_bookInterest_24 : decode cX3_bookInterest 24 = .ok (.getfield 64, 3) := by decide +kernel
theorem dX3_bookInterest_27 : decode cX3_bookInterest 27 = .ok (.invokevirtual 183, 3) := by decide +kernel
theorem dX3_bookInterest_30 : decode cX3_bookInterest 30 = .ok (.iinc 1 1, 3) := by decide +kernel
theorem dX3_bookInterest_33 : decode cX3_bookInterest 33 = .ok (.goto (-31), 3) := by decide +kernel
theorem dX3_bookInterest_36 : decode cX3_bookInterest 36 = .ok (.iconst 0, 1) := by decide +kernel
theorem dX3_bookInterest_37 : decode cX3_bookInterest 37 = .ok (.istore_n 1, 1) := by decide +kernel
theorem dX3_bookInterest_38 : decode cX3_bookInterest 38 = .ok (.iload_n 1, 1) := by decide +kernel
theorem dX3_bookInterest_39 : decode cX3_bookInterest 39 = .ok (.aload_n 0, 1) := by decide +kernel
theorem dX3_bookInterest_40 : decode cX3_bookInterest 40 = .ok (.getfield 21, 3) := by decide +kernel
theorem dX3_bookInterest_43 : decode cX3_bookInterest 43 = .ok (.invokevirtual 46, 3) := by decide +kernel
theorem dX3_bookInterest_46 : decode cX3_bookInterest 46 = .ok (.if_icmp .ge 23, 3) := by decide +kernel
theorem dX3_bookInterest_49 : decode cX3_bookInterest 49 = .ok (.aload_n 0, 1) := by decide +kernel
theorem dX3_bookInterest_50 : decode cX3_bookInterest 50 = .ok (.getfield 21, 3) := by decide +kernel
theorem dX3_bookInterest_53 : decode cX3_bookInterest 53 = .ok (.iload_n 1, 1) := by decide +kernel
theorem dX3_bookInterest_54 : decode cX3_bookInterest 54 = .ok (.invokevirtual 109, 3) := by decide +kernel
theorem dX3_bookInterest_57 : decode cX3_bookInterest 57 = .ok (.checkcast 74, 3) := by decide +kernel
theorem dX3_bookInterest_60 : decode cX3_bookInterest 60 = .ok (.invokevirtual 184, 3) := by decide +kernel
theorem dX3_bookInterest_63 : decode cX3_bookInterest 63 = .ok (.iinc 1 1, 3) := by decide +kernel
theorem dX3_bookInterest_66 : decode cX3_bookInterest 66 = .ok (.goto (-28), 3) := by decide +kernel
theorem dX3_bookInterest_69 : decode cX3_bookInterest 69 = .ok (.return_, 1) := by decide +kernel
set_option maxRecDepth 20000 in
theorem ggX3_sumOfFlows_Jx4a65c_size_8abf5 : GoodIn wsX3_sumOfFlows wsJx4a65c_size_8abf5 := goodIn_r _ [9, 10, 62, 63, 64] (by decide +kernel) (by decide +kernel)
set_option maxRecDepth 20000 in
theorem gX3_sumOfFlows_Jx4a65c_size_8abf5 : GoodIn wsX3_sumOfFlows (wsV RX3 46 RJx4a65c yJx4a65c_size_8abf5 wsJx4a65c_size_8abf5) := goodIn_app (goodIn_of _ (by decide +kernel)) ggX3_sumOfFlows_Jx4a65c_size_8abf5
set_option maxRecDepth 20000 in
theorem ggX3_sumOfFlows_Jx4a65c_get_915e3 : GoodIn wsX3_sumOfFlows wsJx4a65c_get_915e3 := goodIn_r _ [14, 10, 15, 16, 17, 18, 19, 20, 21, 22, 23, 24, 25, 8, 26, 27, 62, 63, 64] (by decide +kernel) (by decide +kernel)
set_option maxRecDepth 20000 in
theorem gX3_sumOfFlows_Jx4a65c_get_915e3 : GoodIn wsX3_sumOfFlows (wsV RX3 109 RJx4a65c yJx4a65c_get_915e3 wsJx4a65c_get_915e3) := goodIn_app (goodIn_of _ (by decide +kernel)) ggX3_sumOfFlows_Jx4a65c_get_915e3
set_option maxRecDepth 20000 in
theorem ggX3_sumOfFlows_X4_sumWithin : GoodIn wsX3_sumOfFlows wsX4_sumWithin := goodIn_r _ [32, 33, 34, 35, 36, 37, 38, 39, 40, 41, 42, 43, 44, 45, 46, 55, 56, 57, 58, 59, 60, 61, 65] (by decide +kernel) (by decide +kernel)
set_option maxRecDepth 20000 in
theorem gX3_sumOfFlows_X4_sumWithin : GoodIn wsX3_sumOfFlows (wsV RX3 189 RX4 yX4_sumWithin wsX4_sumWithin) := goodIn_app (goodIn_of _ (by decide +kernel)) ggX3_sumOfFlows_X4_sumWithin
theorem dX3_sumOfFlows_0 : decode cX3_sumOfFlows 0 = .ok (.lconst 0, 1) := by decide +kernel
theorem dX3_sumOfFlows_1 : decode cX3_sumOfFlows 1 = .ok (.lstore 4, 2) := by decide +kernel
theorem dX3_sumOfFlows_3 : decode cX3_sumOfFlows 3 = .ok (.iconst 0, 1) := by decide +kernel
theorem dX3_sumOfFlows_4 : decode cX3_sumOfFlows 4 = .ok (.istore 6, 2) := by decide +kernel
theorem dX3_sumOfFlows_6 : decode cX3_sumOfFlows 6 = .ok (.iload 6, 2) := by decide +kernel
theorem dX3_sumOfFlows_8 : decode cX3_sumOfFlows 8 = .ok (.aload_n 0, 1) := by decide +kernel
theorem dX3_sumOfFlows_9 : decode cX3_sumOfFlows 9 = .ok (.getfield 24, 3) := by decide +kernel
theorem dX3_sumOfFlows_12 : decode cX3_sumOfFlows 12 = .ok (.invokevirtual 46, 3) := by decide +kernel
theorem dX3_sumOfFlows_15 : decode cX3_sumOfFlows 15 = .ok (.if_icmp .ge 48, 3) := by decide +kernel
theorem dX3_sumOfFlows_18 : decode cX3_sumOfFlows 18 = .ok (.aload_n 0, 1) := by decide +kernel
theorem dX3_sumOfFlows_19 : decode cX3_sumOfFlows 19 = .ok (.getfield 24, 3) := by decide +kernel
theorem dX3_sumOfFlows_22 : decode cX3_sumOfFlows 22 = .ok (.iload 6, 2) := by decide +kernel
theorem dX3_sumOfFlows_24 : decode cX3_sumOfFlows 24 = .ok (.invokevirtual 109, 3) := by decide +kernel
theorem dX3_sumOfFlows_27 : decode cX3_sumOfFlows 27 = .ok (.checkcast 113, 3) := by decide +kernel
theorem dX3_sumOfFlows_30 : decode cX3_sumOfFlows 30 = .ok (.astore 7, 2) := by decide +kernel
theorem dX3_sumOfFlows_32 : decode cX3_sumOfFlows 32 = .ok (.aload 7, 2) := by decide +kernel
theorem dX3_sumOfFlows_34 : decode cX3_sumOfFlows 34 = .ok (.getfield 185, 3) := by decide +kernel
theorem dX3_sumOfFlows_37 : decode cX3_sumOfFlows 37 = .ok (.aload_n 1, 1) := by decide +kernel
theorem dX3_sumOfFlows_38 : decode cX3_sumOfFlows 38 = .ok (.if_acmp .ne 19, 3) := by decide +kernel
theorem dX3_sumOfFlows_41 : decode cX3_sumOfFlows 41 = .ok (.lload 4, 2) := by decide +kernel
theorem dX3_sumOfFlows_43 : decode cX3_sumOfFlows 43 = .ok (.aload 7, 2) := by decide +kernel
theorem dX3_sumOfFlows_45 : decode cX3_sumOfFlows 45 = .ok (.aload_n 0, 1) := by decide +kernel
theorem dX3_sumOfFlows_46 : decode cX3_sumOfFlows 46 = .ok (.getfield 33, 3) := by decide +kernel
theorem dX3_sumOfFlows_49 : decode cX3_sumOfFlows 49 = .ok (.iload_n 2, 1) := by decide +kernel
theorem dX3_sumOfFlows_50 : decode cX3_sumOfFlows 50 = .ok (.iload_n 3, 1) := by decide +kernel
theorem dX3_sumOfFlows_51 : decode cX3_sumOfFlows 51 = .ok (.invokevirtual 189, 3) := by decide +kernel
theorem dX3_sumOfFlows_54 : decode cX3_sumOfFlows 54 = .ok (.ladd, 1) := by decide +kernel
theorem dX3_sumOfFlows_55 : decode cX3_sumOfFlows 55 = .ok (.lstore 4, 2) := by decide +kernel
theorem dX3_sumOfFlows_57 : decode cX3_sumOfFlows 57 = .ok (.iinc 6 1, 3) := by decide +kernel
theorem dX3_sumOfFlows_60 : decode cX3_sumOfFlows 60 = .ok (.goto (-54), 3) := by decide +kernel
theorem dX3_sumOfFlows_63 : decode cX3_sumOfFlows 63 = .ok (.lload 4, 2) := by decide +kernel
theorem dX3_sumOfFlows_65 : decode cX3_sumOfFlows 65 = .ok (.lreturn, 1) := by decide +kernel
set_option maxRecDepth 20000 in
theorem ggX3_keep_Jx4a65c_size_8abf5 : GoodIn wsX3_keep wsJx4a65c_size_8abf5 := goodIn_r _ [15, 16, 105, 106, 107] (by decide +kernel) (by decide +kernel)
set_option maxRecDepth 20000 in
theorem gX3_keep_Jx4a65c_size_8abf5 : GoodIn wsX3_keep (wsV RX3 46 RJx4a65c yJx4a65c_size_8abf5 wsJx4a65c_size_8abf5) := goodIn_app (goodIn_of _ (by decide +kernel)) ggX3_keep_Jx4a65c_size_8abf5
set_option maxRecDepth 20000 in
theorem ggX3_keep_Jx4a65c_get_915e3 : GoodIn wsX3_keep wsJx4a65c_get_915e3 := goodIn_r _ [20, 16, 21, 22, 23, 24, 25, 26, 27, 28, 29, 30, 31, 14, 32, 33, 105, 106, 107] (by decide +kernel) (by decide +kernel)
set_option maxRecDepth 20000 in
theorem gX3_keep_Jx4a65c_get_915e3 : GoodIn wsX3_keep (wsV RX3 109 RJx4a65c yJx4a65c_get_915e3 wsJx4a65c_get_915e3) := goodIn_app (goodIn_of _ (by decide +kernel)) ggX3_keep_Jx4a65c_get_915e3
set_option maxRecDepth 20000 in
theorem ggX3_keep_X0_keep : GoodIn wsX3_keep wsX0_keep := goodIn_r _ [38, 39, 40, 41, 42, 93, 94, 95, 96, 97, 98, 99, 100, 101, 102, 103, 104] (by decide +kernel) (by decide +kernel)
set_option maxRecDepth 20000 in
theorem gX3_keep_X0_keep : GoodIn wsX3_keep (wsV RX3 196 RX0 yX0_keep wsX0_keep) := goodIn_app (goodIn_of _ (by decide +kernel)) ggX3_keep_X0_keep
set_option maxRecDepth 20000 in
theorem ggX3_keep_X6_keep : GoodIn wsX3_keep wsX6_keep := goodIn_r _ [47, 48, 49, 50, 51, 52, 53, 54, 55, 56, 57, 58, 59, 60, 61, 62, 63, 64, 108, 109, 110, 111, 112, 113, 114, 115, 116, 117, 118, 119, 120, 121, 122] (by decide +kernel) (by decide +kernel)
set_option maxRecDepth 20000 in
theorem gX3_keep_X6_keep : GoodIn wsX3_keep (wsV RX3 199 RX6 yX6_keep wsX6_keep) := goodIn_app (goodIn_of _ (by decide +kernel)) ggX3_keep_X6_keep
set_option maxRecDepth 20000 in
theorem ggX3_keep_X5_keep : GoodIn wsX3_keep wsX5_keep := goodIn_r _ [69, 70, 71, 72, 73, 74, 75, 123, 124, 125, 126, 127, 128, 129, 130, 131] (by decide +kernel) (by decide +kernel)
set_option maxRecDepth 20000 in
theorem gX3_keep_X5_keep : GoodIn wsX3_keep (wsV RX3 200 RX5 yX5_keep wsX5_keep) := goodIn_app (goodIn_of _ (by decide +kernel)) ggX3_keep_X5_keep
set_option maxRecDepth 20000 in
theorem ggX3_keep_X4_keep : GoodIn wsX3_keep wsX4_keep := goodIn_r _ [80, 81, 82, 83, 84, 132, 133, 134, 135, 136, 137, 138] (by decide +kernel) (by decide +kernel)
set_option maxRecDepth 20000 in
theorem gX3_keep_X4_keep : GoodIn wsX3_keep (wsV RX3 201 RX4 yX4_keep wsX4_keep) := goodIn_app (goodIn_of _ (by decide +kernel)) ggX3_keep_X4_keep
theorem dX3_keep_0 : decode cX3_keep 0 = .ok (.aload_n 0, 1) := by decide +kernel
theorem dX3_keep_1 : decode cX3_keep 1 = .ok (.aload_n 0, 1) := by decide +kernel
theorem dX3_keep_2 : decode cX3_keep 2 = .ok (.getfield 83, 3) := by decide +kernel
theorem dX3_keep_5 : decode cX3_keep 5 = .ok (.putfield 193, 3) := by decide +kernel
theorem dX3_keep_8 : decode cX3_keep 8 = .ok (.iconst 0, 1) := by decide +kernel
theorem dX3_keep_9 : decode cX3_keep 9 = .ok (.istore_n 1, 1) := by decide +kernel
theorem dX3_keep_10 : decode cX3_keep 10 = .ok (.iload_n 1, 1) := by decide +kernel
theorem dX3_keep_11 : decode cX3_keep 11 = .ok (.aload_n 0, 1) := by decide +kernel
theorem dX3_keep_12 : decode cX3_keep 12 = .ok (.getfield 12, 3) := by decide +kernel
theorem dX3_keep_15 : decode cX3_keep 15 = .ok (.invokevirtual 46, 3) := by decide +kernel
theorem dX3_keep_18 : decode cX3_keep 18 = .ok (.if_icmp .ge 23, 3) := by decide +kernel
theorem dX3_keep_21 : decode cX3_keep 21 = .ok (.aload_n 0, 1) := by decide +kernel
