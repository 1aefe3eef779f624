set_option maxRecDepth 20000 in
theorem ggX0_init_Jx4a65c_init_da8c8 : GoodIn wsX0_init wsJx4a65c_init_da8c8 := goodIn_r _ [14, 15, 16, 17, 18, 19, 20, 21, 22, 23, 24, 25, 26, 2, 3, 27, 28, 29] (by decide +kernel) (by decide +kernel)
set_option maxRecDepth 20000 in
theorem gX0_init_Jx4a65c_init_da8c8 : GoodIn wsX0_init (wsJx4a65c_init_da8c8) := ggX0_init_Jx4a65c_init_da8c8
theorem dX0_init_0 : decode cX0_init 0 = .ok (.aload_n 0, 1) := by decide +kernel
theorem dX0_init_1 : decode cX0_init 1 = .ok (.invokespecial 1, 3) := by decide +kernel
theorem dX0_init_4 : decode cX0_init 4 = .ok (.aload_n 0, 1) := by decide +kernel
theorem dX0_init_5 : decode cX0_init 5 = .ok (.new 7, 3) := by decide +kernel
theorem dX0_init_8 : decode cX0_init 8 = .ok (.dup, 1) := by decide +kernel
theorem dX0_init_9 : decode cX0_init 9 = .ok (.invokespecial 9, 3) := by decide +kernel
theorem dX0_init_12 : decode cX0_init 12 = .ok (.putfield 10, 3) := by decide +kernel
theorem dX0_init_15 : decode cX0_init 15 = .ok (.aload_n 0, 1) := by decide +kernel
theorem dX0_init_16 : decode cX0_init 16 = .ok (.iload_n 1, 1) := by decide +kernel
theorem dX0_init_17 : decode cX0_init 17 = .ok (.putfield 16, 3) := by decide +kernel
theorem dX0_init_20 : decode cX0_init 20 = .ok (.aload_n 0, 1) := by decide +kernel
theorem dX0_init_21 : decode cX0_init 21 = .ok (.aload_n 2, 1) := by decide +kernel
theorem dX0_init_22 : decode cX0_init 22 = .ok (.putfield 20, 3) := by decide +kernel
theorem dX0_init_25 : decode cX0_init 25 = .ok (.aload_n 0, 1) := by decide +kernel
theorem dX0_init_26 : decode cX0_init 26 = .ok (.aload_n 3, 1) := by decide +kernel
theorem dX0_init_27 : decode cX0_init 27 = .ok (.putfield 24, 3) := by decide +kernel
theorem dX0_init_30 : decode cX0_init 30 = .ok (.aload_n 0, 1) := by decide +kernel
theorem dX0_init_31 : decode cX0_init 31 = .ok (.aload 4, 2) := by decide +kernel
theorem dX0_init_33 : decode cX0_init 33 = .ok (.putfield 28, 3) := by decide +kernel
theorem dX0_init_36 : decode cX0_init 36 = .ok (.return_, 1) := by decide +kernel
theorem dX0_surplusOf_0 : decode cX0_surplusOf 0 = .ok (.aload_n 0, 1) := by decide +kernel
theorem dX0_surplusOf_1 : decode cX0_surplusOf 1 = .ok (.getfield 32, 3) := by decide +kernel
theorem dX0_surplusOf_4 : decode cX0_surplusOf 4 = .ok (.tableswitch 60 1 3 #[28, 36, 48], 28) := by decide +kernel
theorem dX0_surplusOf_32 : decode cX0_surplusOf 32 = .ok (.lload_n 1, 1) := by decide +kernel
theorem dX0_surplusOf_33 : decode cX0_surplusOf 33 = .ok (.aload_n 0, 1) := by decide +kernel
theorem dX0_surplusOf_34 : decode cX0_surplusOf 34 = .ok (.getfield 35, 3) := by decide +kernel
theorem dX0_surplusOf_37 : decode cX0_surplusOf 37 = .ok (.i2l, 1) := by decide +kernel
theorem dX0_surplusOf_38 : decode cX0_surplusOf 38 = .ok (.lsub, 1) := by decide +kernel
theorem dX0_surplusOf_39 : decode cX0_surplusOf 39 = .ok (.lreturn, 1) := by decide +kernel
theorem dX0_surplusOf_40 : decode cX0_surplusOf 40 = .ok (.lload_n 1, 1) := by decide +kernel
theorem dX0_surplusOf_41 : decode cX0_surplusOf 41 = .ok (.aload_n 0, 1) := by decide +kernel
theorem dX0_surplusOf_42 : decode cX0_surplusOf 42 = .ok (.getfield 35, 3) := by decide +kernel
theorem dX0_surplusOf_45 : decode cX0_surplusOf 45 = .ok (.i2l, 1) := by decide +kernel
theorem dX0_surplusOf_46 : decode cX0_surplusOf 46 = .ok (.lsub, 1) := by decide +kernel
theorem dX0_surplusOf_47 : decode cX0_surplusOf 47 = .ok (.lconst 0, 1) := by decide +kernel
theorem dX0_surplusOf_48 : decode cX0_surplusOf 48 = .ok (.invokestatic 38, 3) := by decide +kernel
theorem dX0_surplusOf_51 : decode cX0_surplusOf 51 = .ok (.lreturn, 1) := by decide +kernel
theorem dX0_surplusOf_52 : decode cX0_surplusOf 52 = .ok (.lload_n 1, 1) := by decide +kernel
theorem dX0_surplusOf_53 : decode cX0_surplusOf 53 = .ok (.aload_n 0, 1) := by decide +kernel
theorem dX0_surplusOf_54 : decode cX0_surplusOf 54 = .ok (.getfield 35, 3) := by decide +kernel
theorem dX0_surplusOf_57 : decode cX0_surplusOf 57 = .ok (.i2l, 1) := by decide +kernel
theorem dX0_surplusOf_58 : decode cX0_surplusOf 58 = .ok (.lsub, 1) := by decide +kernel
theorem dX0_surplusOf_59 : decode cX0_surplusOf 59 = .ok (.lconst 0, 1) := by decide +kernel
theorem dX0_surplusOf_60 : decode cX0_surplusOf 60 = .ok (.invokestatic 44, 3) := by decide +kernel
theorem dX0_surplusOf_63 : decode cX0_surplusOf 63 = .ok (.lreturn, 1) := by decide +kernel
theorem dX0_surplusOf_64 : decode cX0_surplusOf 64 = .ok (.lconst 0, 1) := by decide +kernel
theorem dX0_surplusOf_65 : decode cX0_surplusOf 65 = .ok (.lreturn, 1) := by decide +kernel
theorem dX0_addInterest_0 : decode cX0_addInterest 0 = .ok (.aload_n 0, 1) := by decide +kernel
theorem dX0_addInterest_1 : decode cX0_addInterest 1 = .ok (.dup, 1) := by decide +kernel
theorem dX0_addInterest_2 : decode cX0_addInterest 2 = .ok (.getfield 47, 3) := by decide +kernel
theorem dX0_addInterest_5 : decode cX0_addInterest 5 = .ok (.lload_n 1, 1) := by decide +kernel
theorem dX0_addInterest_6 : decode cX0_addInterest 6 = .ok (.ladd, 1) := by decide +kernel
theorem dX0_addInterest_7 : decode cX0_addInterest 7 = .ok (.putfield 47, 3) := by decide +kernel
theorem dX0_addInterest_10 : decode cX0_addInterest 10 = .ok (.aload_n 0, 1) := by decide +kernel
theorem dX0_addInterest_11 : decode cX0_addInterest 11 = .ok (.dup, 1) := by decide +kernel
theorem dX0_addInterest_12 : decode cX0_addInterest 12 = .ok (.getfield 51, 3) := by decide +kernel
theorem dX0_addInterest_15 : decode cX0_addInterest 15 = .ok (.lload_n 1, 1) := by decide +kernel
theorem dX0_addInterest_16 : decode cX0_addInterest 16 = .ok (.ladd, 1) := by decide +kernel
theorem dX0_addInterest_17 : decode cX0_addInterest 17 = .ok (.putfield 51, 3) := by decide +kernel
theorem dX0_addInterest_20 : decode cX0_addInterest 20 = .ok (.return_, 1) := by decide +kernel
theorem dX0_keep_0 : decode cX0_keep 0 = .ok (.aload_n 0, 1) := by decide +kernel
theorem dX0_keep_1 : decode cX0_keep 1 = .ok (.aload_n 0, 1) := by decide +kernel
theorem dX0_keep_2 : decode cX0_keep 2 = .ok (.getfield 47, 3) := by decide +kernel
theorem dX0_keep_5 : decode cX0_keep 5 = .ok (.putfield 54, 3) := by decide +kernel
theorem dX0_keep_8 : decode cX0_keep 8 = .ok (.aload_n 0, 1) := by decide +kernel
theorem dX0_keep_9 : decode cX0_keep 9 = .ok (.aload_n 0, 1) := by decide +kernel
theorem dX0_keep_10 : decode cX0_keep 10 = .ok (.getfield 51, 3) := by decide +kernel
theorem dX0_keep_13 : decode cX0_keep 13 = .ok (.putfield 57, 3) := by decide +kernel
theorem dX0_keep_16 : decode cX0_keep 16 = .ok (.return_, 1) := by decide +kernel
theorem dX0_goBack_0 : decode cX0_goBack 0 = .ok (.aload_n 0, 1) := by decide +kernel
theorem dX0_goBack_1 : decode cX0_goBack 1 = .ok (.aload_n 0, 1) := by decide +kernel
theorem dX0_goBack_2 : decode cX0_goBack 2 = .ok (.getfield 54, 3) := by decide +kernel
theorem dX0_goBack_5 : decode cX0_goBack 5 = .ok (.putfield 47, 3) := by decide +kernel
theorem dX0_goBack_8 : decode cX0_goBack 8 = .ok (.aload_n 0, 1) := by decide +kernel
theorem dX0_goBack_9 : decode cX0_goBack 9 = .ok (.aload_n 0, 1) := by decide +kernel
theorem dX0_goBack_10 : decode cX0_goBack 10 = .ok (.getfield 57, 3) := by decide +kernel
theorem dX0_goBack_13 : decode cX0_goBack 13 = .ok (.putfield 51, 3) := by decide +kernel
theorem dX0_goBack_16 : decode cX0_goBack 16 = .ok (.return_, 1) := by decide +kernel
theorem dX1_init_0 : decode cX1_init 0 = .ok (.aload_n 0, 1) := by decide +kernel
theorem dX1_init_1 : decode cX1_init 1 = .ok (.invokespecial 3, 3) := by decide +kernel
theorem dX1_init_4 : decode cX1_init 4 = .ok (.aload_n 0, 1) := by decide +kernel
theorem dX1_init_5 : decode cX1_init 5 = .ok (.iconst (-1), 1) := by decide +kernel
theorem dX1_init_6 : decode cX1_init 6 = .ok (.putfield 9, 3) := by decide +kernel
theorem dX1_init_9 : decode cX1_init 9 = .ok (.aload_n 0, 1) := by decide +kernel
theorem dX1_init_10 : decode cX1_init 10 = .ok (.iload_n 1, 1) := by decide +kernel
theorem dX1_init_11 : decode cX1_init 11 = .ok (.putfield 15, 3) := by decide +kernel
theorem dX1_init_14 : decode cX1_init 14 = .ok (.return_, 1) := by decide +kernel
theorem dX1_excess_0 : decode cX1_excess 0 = .ok (.aload_n 0, 1) := by decide +kernel
theorem dX1_excess_1 : decode cX1_excess 1 = .ok (.getfield 9, 3) := by decide +kernel
theorem dX1_excess_4 : decode cX1_excess 4 = .ok (.iconst (-1), 1) := by decide +kernel
theorem dX1_excess_5 : decode cX1_excess 5 = .ok (.if_icmp .ne 7, 3) := by decide +kernel
theorem dX1_excess_8 : decode cX1_excess 8 = .ok (.lconst 0, 1) := by decide +kernel
theorem dX1_excess_9 : decode cX1_excess 9 = .ok (.goto 17, 3) := by decide +kernel
theorem dX1_excess_12 : decode cX1_excess 12 = .ok (.aload_n 0, 1) := by decide +kernel
theorem dX1_excess_13 : decode cX1_excess 13 = .ok (.getfield 18, 3) := by decide +kernel
theorem dX1_excess_16 : decode cX1_excess 16 = .ok (.aload_n 0, 1) := by decide +kernel
theorem dX1_excess_17 : decode cX1_excess 17 = .ok (.getfield 9, 3) := by decide +kernel
theorem dX1_excess_20 : decode cX1_excess 20 = .ok (.i2l, 1) := by decide +kernel
theorem dX1_excess_21 : decode cX1_excess 21 = .ok (.lsub, 1) := by decide +kernel
theorem dX1_excess_22 : decode cX1_excess 22 = .ok (.lconst 0, 1) := by decide +kernel
theorem dX1_excess_23 : decode cX1_excess 23 = .ok (.invokestatic 22, 3) := by decide +kernel
theorem dX1_excess_26 : decode cX1_excess 26 = .ok (.lreturn, 1) := by decide +kernel
theorem dX1_room_0 : decode cX1_room 0 = .ok (.aload_n 0, 1) := by decide +kernel
theorem dX1_room_1 : decode cX1_room 1 = .ok (.getfield 9, 3) := by decide +kernel
theorem dX1_room_4 : decode cX1_room 4 = .ok (.iconst (-1), 1) := by decide +kernel
theorem dX1_room_5 : decode cX1_room 5 = .ok (.if_icmp .ne 9, 3) := by decide +kernel
theorem dX1_room_8 : decode cX1_room 8 = .ok (.ldc2_w 28, 3) := by decide +kernel
theorem dX1_room_11 : decode cX1_room 11 = .ok (.goto 17, 3) := by decide +kernel
theorem dX1_room_14 : decode cX1_room 14 = .ok (.aload_n 0, 1) := by decide +kernel
theorem dX1_room_15 : decode cX1_room 15 = .ok (.getfield 9, 3) := by decide +kernel
theorem dX1_room_18 : decode cX1_room 18 = .ok (.i2l, 1) := by decide +kernel
theorem dX1_room_19 : decode cX1_room 19 = .ok (.aload_n 0, 1) := by decide +kernel
theorem dX1_room_20 : decode cX1_room 20 = .ok (.getfield 18, 3) := by decide +kernel
theorem dX1_room_23 : decode cX1_room 23 = .ok (.lsub, 1) := by decide +kernel
theorem dX1_room_24 : decode cX1_room 24 = .ok (.lconst 0, 1) := by decide +kernel
theorem dX1_room_25 : decode cX1_room 25 = .ok (.invokestatic 22, 3) := by decide +kernel
theorem dX1_room_28 : decode cX1_room 28 = .ok (.lreturn, 1) := by decide +kernel
theorem dX2_init_0 : decode cX2_init 0 = .ok (.aload_n 0, 1) := by decide +kernel
theorem dX2_init_1 : decode cX2_init 1 = .ok (.invokespecial 3, 3) := by decide +kernel
theorem dX2_init_4 : decode cX2_init 4 = .ok (.aload_n 0, 1) := by decide +kernel
theorem dX2_init_5 : decode cX2_init 5 = .ok (.sipush 451, 3) := by decide +kernel
theorem dX2_init_8 : decode cX2_init 8 = .ok (.newarray .boolean, 2) := by decide +kernel
theorem dX2_init_10 : decode cX2_init 10 = .ok (.putfield 9, 3) := by decide +kernel
theorem dX2_init_13 : decode cX2_init 13 = .ok (.return_, 1) := by decide +kernel
theorem dX2_markHoliday_0 : decode cX2_markHoliday 0 = .ok (.iload_n 1, 1) := by decide +kernel
theorem dX2_markHoliday_1 : decode cX2_markHoliday 1 = .ok (.ifCond .lt 19, 3) := by decide +kernel
theorem dX2_markHoliday_4 : decode cX2_markHoliday 4 = .ok (.iload_n 1, 1) := by decide +kernel
theorem dX2_markHoliday_5 : decode cX2_markHoliday 5 = .ok (.aload_n 0, 1) := by decide +kernel
theorem dX2_markHoliday_6 : decode cX2_markHoliday 6 = .ok (.getfield 9, 3) := by decide +kernel
theorem dX2_markHoliday_9 : decode cX2_markHoliday 9 = .ok (.arraylength, 1) := by decide +kernel
theorem dX2_markHoliday_10 : decode cX2_markHoliday 10 = .ok (.if_icmp .ge 10, 3) := by decide +kernel
theorem dX2_markHoliday_13 : decode cX2_markHoliday 13 = .ok (.aload_n 0, 1) := by decide +kernel
theorem dX2_markHoliday_14 : decode cX2_markHoliday 14 = .ok (.getfield 9, 3) := by decide +kernel
theorem dX2_markHoliday_17 : decode cX2_markHoliday 17 = .ok (.iload_n 1, 1) := by decide +kernel
theorem dX2_markHoliday_18 : decode cX2_markHoliday 18 = .ok (.iconst 1, 1) := by decide +kernel
theorem dX2_markHoliday_19 : decode cX2_markHoliday 19 = .ok (.bastore, 1) := by decide +kernel
theorem dX2_markHoliday_20 : decode cX2_markHoliday 20 = .ok (.return_, 1) := by decide +kernel
theorem dX2_settles_0 : decode cX2_settles 0 = .ok (.iload_n 1, 1) := by decide +kernel
theorem dX2_settles_1 : decode cX2_settles 1 = .ok (.ifCond .lt 25, 3) := by decide +kernel
theorem dX2_settles_4 : decode cX2_settles 4 = .ok (.iload_n 1, 1) := by decide +kernel
theorem dX2_settles_5 : decode cX2_settles 5 = .ok (.aload_n 0, 1) := by decide +kernel
theorem dX2_settles_6 : decode cX2_settles 6 = .ok (.getfield 9, 3) := by decide +kernel
theorem dX2_settles_9 : decode cX2_settles 9 = .ok (.arraylength, 1) := by decide +kernel
theorem dX2_settles_10 : decode cX2_settles 10 = .ok (.if_icmp .ge 16, 3) := by decide +kernel
theorem dX2_settles_13 : decode cX2_settles 13 = .ok (.aload_n 0, 1) := by decide +kernel
theorem dX2_settles_14 : decode cX2_settles 14 = .ok (.getfield 9, 3) := by decide +kernel
theorem dX2_settles_17 : decode cX2_settles 17 = .ok (.iload_n 1, 1) := by decide +kernel
theorem dX2_settles_18 : decode cX2_settles 18 = .ok (.baload, 1) := by decide +kernel
theorem dX2_settles_19 : decode cX2_settles 19 = .ok (.ifCond .eq 7, 3) := by decide +kernel
theorem dX2_settles_22 : decode cX2_settles 22 = .ok (.iconst 1, 1) := by decide +kernel
theorem dX2_settles_23 : decode cX2_settles 23 = .ok (.goto 4, 3) := by decide +kernel
theorem dX2_settles_26 : decode cX2_settles 26 = .ok (.iconst 0, 1) := by decide +kernel
theorem dX2_settles_27 : decode cX2_settles 27 = .ok (.istore_n 2, 1) := by decide +kernel
theorem dX2_settles_28 : decode cX2_settles 28 = .ok (.iload_n 1, 1) := by decide +kernel
theorem dX2_settles_29 : decode cX2_settles 29 = .ok (.bipush 7, 2) := by decide +kernel
theorem dX2_settles_31 : decode cX2_settles 31 = .ok (.irem, 1) := by decide +kernel
theorem dX2_settles_32 : decode cX2_settles 32 = .ok (.iconst 5, 1) := by decide +kernel
theorem dX2_settles_33 : decode cX2_settles 33 = .ok (.if_icmp .ge 11, 3) := by decide +kernel
theorem dX2_settles_36 : decode cX2_settles 36 = .ok (.iload_n 2, 1) := by decide +kernel
theorem dX2_settles_37 : decode cX2_settles 37 = .ok (.ifCond .ne 7, 3) := by decide +kernel
theorem dX2_settles_40 : decode cX2_settles 40 = .ok (.iconst 1, 1) := by decide +kernel
theorem dX2_settles_41 : decode cX2_settles 41 = .ok (.goto 4, 3) := by decide +kernel
theorem dX2_settles_44 : decode cX2_settles 44 = .ok (.iconst 0, 1) := by decide +kernel
theorem dX2_settles_45 : decode cX2_settles 45 = .ok (.ireturn, 1) := by decide +kernel
set_option maxRecDepth 20000 in
theorem ggX2_firstSettlingFrom_X2_settles : GoodIn wsX2_firstSettlingFrom wsX2_settles := goodIn_r _ [5, 6, 7] (by decide +kernel) (by decide +kernel)
set_option maxRecDepth 20000 in
theorem gX2_firstSettlingFrom_X2_settles : GoodIn wsX2_firstSettlingFrom (wsV RX2 15 RX2 yX2_settles wsX2_settles) := goodIn_app (goodIn_of _ (by decide +kernel)) ggX2_firstSettlingFrom_X2_settles
theorem dX2_firstSettlingFrom_0 : decode cX2_firstSettlingFrom 0 = .ok (.iload_n 1, 1) := by decide +kernel
theorem dX2_firstSettlingFrom_1 : decode cX2_firstSettlingFrom 1 = .ok (.istore_n 2, 1) := by decide +kernel
theorem dX2_firstSettlingFrom_2 : decode cX2_firstSettlingFrom 2 = .ok (.iload_n 2, 1) := by decide +kernel
theorem dX2_firstSettlingFrom_3 : decode cX2_firstSettlingFrom 3 = .ok (.sipush 450, 3) := by decide +kernel
theorem dX2_firstSettlingFrom_6 : decode cX2_firstSettlingFrom 6 = .ok (.if_icmp .gt 19, 3) := by decide +kernel
theorem dX2_firstSettlingFrom_9 : decode cX2_firstSettlingFrom 9 = .ok (.aload_n 0, 1) := by decide +kernel
theorem dX2_firstSettlingFrom_10 : decode cX2_firstSettlingFrom 10 = .ok (.iload_n 2, 1) := by decide +kernel
theorem dX2_firstSettlingFrom_11 : decode cX2_firstSettlingFrom 11 = .ok (.invokevirtual 15, 3) := by decide +kernel
theorem dX2_firstSettlingFrom_14 : decode cX2_firstSettlingFrom 14 = .ok (.ifCond .eq 5, 3) := by decide +kernel
theorem dX2_firstSettlingFrom_17 : decode cX2_firstSettlingFrom 17 = .ok (.iload_n 2, 1) := by decide +kernel
theorem dX2_firstSettlingFrom_18 : decode cX2_firstSettlingFrom 18 = .ok (.ireturn, 1) := by decide +kernel
theorem dX2_firstSettlingFrom_19 : decode cX2_firstSettlingFrom 19 = .ok (.iinc 2 1, 3) := by decide +kernel
theorem dX2_firstSettlingFrom_22 : decode cX2_firstSettlingFrom 22 = .ok (.goto (-20), 3) := by decide +kernel
theorem dX2_firstSettlingFrom_25 : decode cX2_firstSettlingFrom 25 = .ok (.iconst (-1), 1) := by decide +kernel
theorem dX2_firstSettlingFrom_26 : decode cX2_firstSettlingFrom 26 = .ok (.ireturn, 1) := by decide +kernel
set_option maxRecDepth 20000 in
theorem ggX2_countSettling_X2_settles : GoodIn wsX2_countSettling wsX2_settles := goodIn_r _ [5, 6, 7] (by decide +kernel) (by decide +kernel)
set_option maxRecDepth 20000 in
theorem gX2_countSettling_X2_settles : GoodIn wsX2_countSettling (wsV RX2 15 RX2 yX2_settles wsX2_settles) := goodIn_app (goodIn_of _ (by decide +kernel)) ggX2_countSettling_X2_settles
theorem dX2_countSettling_0 : decode cX2_countSettling 0 = .ok (.iconst 0, 1) := by decide +kernel
theorem dX2_countSettling_1 : decode cX2_countSettling 1 = .ok (.istore_n 1, 1) := by decide +kernel
theorem dX2_countSettling_2 : decode cX2_countSettling 2 = .ok (.iconst 0, 1) := by decide +kernel
theorem dX2_countSettling_3 : decode cX2_countSettling 3 = .ok (.istore_n 2, 1) := by decide +kernel
theorem dX2_countSettling_4 : decode cX2_countSettling 4 = .ok (.iload_n 2, 1) := by decide +kernel
theorem dX2_countSettling_5 : decode cX2_countSettling 5 = .ok (.sipush 450, 3) := by decide +kernel
theorem dX2_countSettling_8 : decode cX2_countSettling 8 = .ok (.if_icmp .gt 20, 3) := by decide +kernel
theorem dX2_countSettling_11 : decode cX2_countSettling 11 = .ok (.aload_n 0, 1) := by decide +kernel
theorem dX2_countSettling_12 : decode cX2_countSettling 12 = .ok (.iload_n 2, 1) := by decide +kernel
theorem dX2_countSettling_13 : decode cX2_countSettling 13 = .ok (.invokevirtual 15, 3) := by decide +kernel
theorem dX2_countSettling_16 : decode cX2_countSettling 16 = .ok (.ifCond .eq 6, 3) := by decide +kernel
theorem dX2_countSettling_19 : decode cX2_countSettling 19 = .ok (.iinc 1 1, 3) := by decide +kernel
theorem dX2_countSettling_22 : decode cX2_countSettling 22 = .ok (.iinc 2 1, 3) := by decide +kernel
theorem dX2_countSettling_25 : decode cX2_countSettling 25 = .ok (.goto (-21), 3) := by decide +kernel
theorem dX2_countSettling_28 : decode cX2_countSettling 28 = .ok (.iload_n 1, 1) := by decide +kernel
theorem dX2_countSettling_29 : decode cX2_countSettling 29 = .ok (.ireturn, 1) := by decide +kernel
set_option maxRecDepth 20000 in
theorem ggX3_init_Jx4a65c_init_da8c8 : GoodIn wsX3_init wsJx4a65c_init_da8c8 := goodIn_r _ [21, 22, 23, 24, 25, 26, 27, 28, 29, 30, 31, 32, 33, 2, 3, 98, 99, 100] (by decide +kernel) (by decide +kernel)
set_option maxRecDepth 20000 in
theorem gX3_init_Jx4a65c_init_da8c8 : GoodIn wsX3_init (wsJx4a65c_init_da8c8) := ggX3_init_Jx4a65c_init_da8c8
set_option maxRecDepth 20000 in
theorem ggX3_init_X2_init : GoodIn wsX3_init wsX2_init := goodIn_r _ [35, 36, 2, 3, 37, 38, 109] (by decide +kernel) (by decide +kernel)
set_option maxRecDepth 20000 in
theorem gX3_init_X2_init_n32 : GoodIn wsX3_init (wsX2_init) := ggX3_init_X2_init
set_option maxRecDepth 20000 in
theorem ggX3_init_X1_init : GoodIn wsX3_init wsX1_init := goodIn_r _ [41, 42, 2, 3, 43, 44, 110, 111, 112] (by decide +kernel) (by decide +kernel)
set_option maxRecDepth 20000 in
theorem gX3_init_X1_init : GoodIn wsX3_init (wsX1_init) := ggX3_init_X1_init
set_option maxRecDepth 20000 in
theorem ggX3_init_Jx4a65c_add_9ea2d : GoodIn wsX3_init wsJx4a65c_add_9ea2d := goodIn_r _ [48, 49, 50, 23, 51, 52, 53, 54, 6, 55, 56, 57, 58, 59, 60, 61, 62, 63, 22, 64, 65, 66, 67, 68, 69, 70, 71, 72, 73, 74, 75, 76, 77, 78, 79, 80, 81, 82, 83, 84, 85, 86, 87, 88, 89, 90, 91, 92, 93, 94, 95, 96, 97, 98, 99, 100] (by decide +kernel) (by decide +kernel)
set_option maxRecDepth 20000 in
theorem gX3_init_Jx4a65c_add_9ea2d : GoodIn wsX3_init (wsV RX3 42 RJx4a65c yJx4a65c_add_9ea2d wsJx4a65c_add_9ea2d) := goodIn_app (goodIn_of _ (by decide +kernel)) ggX3_init_Jx4a65c_add_9ea2d
theorem dX3_init_0 : decode cX3_init 0 = .ok (.aload_n 0, 1) := by decide +kernel
theorem dX3_init_1 : decode cX3_init 1 = .ok (.invokespecial 3, 3) := by decide +kernel
theorem dX3_init_4 : decode cX3_init 4 = .ok (.aload_n 0, 1) := by decide +kernel
theorem dX3_init_5 : decode cX3_init 5 = .ok (.new 9, 3) := by decide +kernel
theorem dX3_init_8 : decode cX3_init 8 = .ok (.dup, 1) := by decide +kernel
theorem dX3_init_9 : decode cX3_init 9 = .ok (.invokespecial 11, 3) := by decide +kernel
theorem dX3_init_12 : decode cX3_init 12 = .ok (.putfield 12, 3) := by decide +kernel
theorem dX3_init_15 : decode cX3_init 15 = .ok (.aload_n 0, 1) := by decide +kernel
theorem dX3_init_16 : decode cX3_init 16 = .ok (.new 9, 3) := by decide +kernel
theorem dX3_init_19 : decode cX3_init 19 = .ok (.dup, 1) := by decide +kernel
theorem dX3_init_20 : decode cX3_init 20 = .ok (.invokespecial 11, 3) := by decide +kernel
theorem dX3_init_23 : decode cX3_init 23 = .ok (.putfield 18, 3) := by decide +kernel
theorem dX3_init_26 : decode cX3_init 26 = .ok (.aload_n 0, 1) := by decide +kernel
theorem dX3_init_27 : decode cX3_init 27 = .ok (.new 9, 3) := by decide +kernel
theorem dX3_init_30 : decode cX3_init 30 = .ok (.dup, 1) := by decide +kernel
theorem dX3_init_31 : decode cX3_init 31 = .ok (.invokespecial 11, 3) := by decide +kernel
theorem dX3_init_34 : decode cX3_init 34 = .ok (.putfield 21, 3) := by decide +kernel
theorem dX3_init_37 : decode cX3_init 37 = .ok (.aload_n 0, 1) := by decide +kernel
theorem dX3_init_38 : decode cX3_init 38 = .ok (.new 9, 3) := by decide +kernel
theorem dX3_init_41 : decode cX3_init 41 = .ok (.dup, 1) := by decide +kernel
theorem dX3_init_42 : decode cX3_init 42 = .ok (.invokespecial 11, 3) := by decide +kernel
theorem dX3_init_45 : decode cX3_init 45 = .ok (.putfield 24, 3) := by decide +kernel
theorem dX3_init_48 : decode cX3_init 48 = .ok (.aload_n 0, 1) := by decide +kernel
theorem dX3_init_49 : decode cX3_init 49 = .ok (.new 9, 3) := by decide +kernel
theorem dX3_init_52 : decode cX3_init 52 = .ok (.dup, 1) := by decide +kernel
theorem dX3_init_53 : decode cX3_init 53 = .ok (.invokespecial 11, 3) := by decide +kernel
theorem dX3_init_56 : decode cX3_init 56 = .ok (.putfield 27, 3) := by decide +kernel
theorem dX3_init_59 : decode cX3_init 59 = .ok (.aload_n 0, 1) := by decide +kernel
theorem dX3_init_60 : decode cX3_init 60 = .ok (.new 30, 3) := by decide +kernel
theorem dX3_init_63 : decode cX3_init 63 = .ok (.dup, 1) := by decide +kernel
theorem dX3_init_64 : decode cX3_init 64 = .ok (.invokespecial 32, 3) := by decide +kernel
theorem dX3_init_67 : decode cX3_init 67 = .ok (.putfield 33, 3) := by decide +kernel
theorem dX3_init_70 : decode cX3_init 70 = .ok (.iconst 0, 1) := by decide +kernel
theorem dX3_init_71 : decode cX3_init 71 = .ok (.istore_n 1, 1) := by decide +kernel
theorem dX3_init_72 : decode cX3_init 72 = .ok (.iload_n 1, 1) := by decide +kernel
theorem dX3_init_73 : decode cX3_init 73 = .ok (.iconst 4, 1) := by decide +kernel
theorem dX3_init_74 : decode cX3_init 74 = .ok (.if_icmp .ge 25, 3) := by decide +kernel
theorem dX3_init_77 : decode cX3_init 77 = .ok (.aload_n 0, 1) := by decide +kernel
theorem dX3_init_78 : decode cX3_init 78 = .ok (.getfield 27, 3) := by decide +kernel
theorem dX3_init_81 : decode cX3_init 81 = .ok (.new 37, 3) := by decide +kernel
theorem dX3_init_84 : decode cX3_init 84 = .ok (.dup, 1) := by decide +kernel
theorem dX3_init_85 : decode cX3_init 85 = .ok (.iload_n 1, 1) := by decide +kernel
theorem dX3_init_86 : decode cX3_init 86 = .ok (.invokespecial 39, 3) := by decide +kernel
theorem dX3_init_89 : decode cX3_init 89 = .ok (.invokevirtual 42, 3) := by decide +kernel
theorem dX3_init_92 : decode cX3_init 92 = .ok (.pop, 1) := by decide +kernel
theorem dX3_init_93 : decode cX3_init 93 = .ok (.iinc 1 1, 3) := by decide +kernel
theorem dX3_init_96 : decode cX3_init 96 = .ok (.goto (-24), 3) := by decide +kernel
theorem dX3_init_99 : decode cX3_init 99 = .ok (.return_, 1) := by decide +kernel
set_option maxRecDepth 20000 in
theorem ggX3_openPool_Jx4a65c_size_8abf5 : GoodIn wsX3_openPool wsJx4a65c_size_8abf5 := goodIn_r _ [13, 14, 152, 153, 154] (by decide +kernel) (by decide +kernel)
set_option maxRecDepth 20000 in
theorem gX3_openPool_Jx4a65c_size_8abf5 : GoodIn wsX3_openPool (wsV RX3 46 RJx4a65c yJx4a65c_size_8abf5 wsJx4a65c_size_8abf5) := goodIn_app (goodIn_of _ (by decide +kernel)) ggX3_openPool_Jx4a65c_size_8abf5
set_option maxRecDepth 20000 in
theorem ggX3_openPool_X6_init : GoodIn wsX3_openPool wsX6_init := goodIn_r _ [17, 18, 19, 20, 21, 22, 12, 23, 24, 25, 26, 27, 28, 29, 30, 31, 32, 33, 34, 35, 36, 37, 38, 39, 40, 41, 42, 43, 44, 45, 46, 47, 48, 49, 50, 51, 52, 53, 54, 55, 56, 152, 153, 154, 135, 136, 137, 138, 139, 155, 156, 157, 158, 159, 160, 161, 162, 163, 164] (by decide +kernel) (by decide +kernel)
set_option maxRecDepth 20000 in
theorem gX3_openPool_X6_init : GoodIn wsX3_openPool (wsX6_init) := ggX3_openPool_X6_init
set_option maxRecDepth 20000 in
theorem ggX3_openPool_X0_init : GoodIn wsX3_openPool wsX0_init := goodIn_r _ [59, 60, 19, 20, 61, 22, 12, 62, 63, 64, 65, 66, 67, 32, 33, 34, 35, 36, 37, 38, 39, 40, 41, 42, 43, 44, 45, 152, 153, 154, 140, 141, 142, 143, 144, 145, 146, 147, 148, 149, 150, 151] (by decide +kernel) (by decide +kernel)
set_option maxRecDepth 20000 in
theorem gX3_openPool_X0_init : GoodIn wsX3_openPool (wsX0_init) := ggX3_openPool_X0_init
set_option maxRecDepth 20000 in
theorem ggX3_openPool_Jx4a65c_add_9ea2d : GoodIn wsX3_openPool wsJx4a65c_add_9ea2d := goodIn_r _ [71, 72, 73, 35, 14, 74, 75, 76, 12, 77, 78, 79, 80, 81, 82, 83, 84, 85, 34, 86, 87, 88, 89, 90, 91, 92, 93, 94, 95, 96, 97, 98, 99, 100, 101, 102, 103, 104, 105, 106, 107, 108, 109, 110, 111, 112, 113, 114, 115, 116, 117, 118, 119, 152, 153, 154] (by decide +kernel) (by decide +kernel)
set_option maxRecDepth 20000 in
theorem gX3_openPool_Jx4a65c_add_9ea2d : GoodIn wsX3_openPool (wsV RX3 42 RJx4a65c yJx4a65c_add_9ea2d wsJx4a65c_add_9ea2d) := goodIn_app (goodIn_of _ (by decide +kernel)) ggX3_openPool_Jx4a65c_add_9ea2d
set_option maxRecDepth 20000 in
theorem ggX3_openPool_X3_enter : GoodIn wsX3_openPool wsX3_enter := goodIn_r _ [124, 1, 125, 126, 68, 69, 70, 12, 71, 72, 73, 35, 14, 74, 75, 76, 77, 78, 79, 80, 81, 82, 83, 84, 85, 34, 86, 87, 88, 89, 90, 91, 92, 93, 94, 95, 96, 97, 98, 99, 100, 101, 102, 103, 104, 105, 106, 107, 108, 109, 110, 111, 112, 113, 114, 115, 116, 117, 118, 119, 127, 128, 129, 130, 131, 132, 133, 134, 140, 141, 142, 143, 144, 145, 146, 147, 148, 149, 150, 151, 135, 136, 137, 138, 139, 152, 153, 154] (by decide +kernel) (by decide +kernel)
set_option maxRecDepth 20000 in
theorem gX3_openPool_X3_enter : GoodIn wsX3_openPool (wsV RX3 60 RX3 yX3_enter wsX3_enter) := goodIn_app (goodIn_of _ (by decide +kernel)) ggX3_openPool_X3_enter
theorem dX3_openPool_0 : decode cX3_openPool 0 = .ok (.aload_n 0, 1) := by decide +kernel
theorem dX3_openPool_1 : decode cX3_openPool 1 = .ok (.getfield 12, 3) := by decide +kernel
theorem dX3_openPool_4 : decode cX3_openPool 4 = .ok (.invokevirtual 46, 3) := by decide +kernel
theorem dX3_openPool_7 : decode cX3_openPool 7 = .ok (.istore 4, 2) := by decide +kernel
theorem dX3_openPool_9 : decode cX3_openPool 9 = .ok (.new 50, 3) := by decide +kernel
theorem dX3_openPool_12 : decode cX3_openPool 12 = .ok (.dup, 1) := by decide +kernel
theorem dX3_openPool_13 : decode cX3_openPool 13 = .ok (.iload 4, 2) := by decide +kernel
theorem dX3_openPool_15 : decode cX3_openPool 15 = .ok (.iload_n 2, 1) := by decide +kernel
theorem dX3_openPool_16 : decode cX3_openPool 16 = .ok (.iload_n 3, 1) := by decide +kernel
theorem dX3_openPool_17 : decode cX3_openPool 17 = .ok (.invokespecial 52, 3) := by decide +kernel
theorem dX3_openPool_20 : decode cX3_openPool 20 = .ok (.astore 5, 2) := by decide +kernel
theorem dX3_openPool_22 : decode cX3_openPool 22 = .ok (.new 55, 3) := by decide +kernel
theorem dX3_openPool_25 : decode cX3_openPool 25 = .ok (.dup, 1) := by decide +kernel
theorem dX3_openPool_26 : decode cX3_openPool 26 = .ok (.iload 4, 2) := by decide +kernel
theorem dX3_openPool_28 : decode cX3_openPool 28 = .ok (.aconst_null, 1) := by decide +kernel
theorem dX3_openPool_29 : decode cX3_openPool 29 = .ok (.aload 5, 2) := by decide +kernel
theorem dX3_openPool_31 : decode cX3_openPool 31 = .ok (.aload_n 1, 1) := by decide +kernel
theorem dX3_openPool_32 : decode cX3_openPool 32 = .ok (.invokespecial 57, 3) := by decide +kernel
theorem dX3_openPool_35 : decode cX3_openPool 35 = .ok (.astore 6, 2) := by decide +kernel
theorem dX3_openPool_37 : decode cX3_openPool 37 = .ok (.aload_n 0, 1) := by decide +kernel
theorem dX3_openPool_38 : decode cX3_openPool 38 = .ok (.getfield 18, 3) := by decide +kernel
theorem dX3_openPool_41 : decode cX3_openPool 41 = .ok (.aload 6, 2) := by decide +kernel
theorem dX3_openPool_43 : decode cX3_openPool 43 = .ok (.invokevirtual 42, 3) := by decide +kernel
theorem dX3_openPool_46 : decode cX3_openPool 46 = .ok (.pop, 1) := by decide +kernel
theorem dX3_openPool_47 : decode cX3_openPool 47 = .ok (.aload_n 0, 1) := by decide +kernel
theorem dX3_openPool_48 : decode cX3_openPool 48 = .ok (.aload 6, 2) := by decide +kernel
theorem dX3_openPool_50 : decode cX3_openPool 50 = .ok (.invokevirtual 60, 3) := by decide +kernel
theorem dX3_openPool_53 : decode cX3_openPool 53 = .ok (.iload 4, 2) := by decide +kernel
theorem dX3_openPool_55 : decode cX3_openPool 55 = .ok (.ireturn, 1) := by decide +kernel
set_option maxRecDepth 20000 in
theorem ggX3_openAccount_Jx4a65c_size_8abf5 : GoodIn wsX3_openAccount wsJx4a65c_size_8abf5 := goodIn_r _ [11, 12, 119, 120, 121] (by decide +kernel) (by decide +kernel)
set_option maxRecDepth 20000 in
theorem gX3_openAccount_Jx4a65c_size_8abf5 : GoodIn wsX3_openAccount (wsV RX3 46 RJx4a65c yJx4a65c_size_8abf5 wsJx4a65c_size_8abf5) := goodIn_app (goodIn_of _ (by decide +kernel)) ggX3_openAccount_Jx4a65c_size_8abf5
set_option maxRecDepth 20000 in
theorem ggX3_openAccount_X0_init : GoodIn wsX3_openAccount wsX0_init := goodIn_r _ [15, 16, 17, 18, 19, 20, 10, 21, 22, 23, 24, 25, 26, 27, 28, 29, 30, 31, 32, 33, 34, 35, 36, 37, 38, 39, 40, 119, 120, 121, 107, 108, 109, 110, 111, 112, 113, 114, 115, 116, 117, 118] (by decide +kernel) (by decide +kernel)
set_option maxRecDepth 20000 in
theorem gX3_openAccount_X0_init : GoodIn wsX3_openAccount (wsX0_init) := ggX3_openAccount_X0_init
set_option maxRecDepth 20000 in
theorem ggX3_openAccount_Jx4a65c_add_9ea2d : GoodIn wsX3_openAccount wsJx4a65c_add_9ea2d := goodIn_r _ [44, 45, 46, 30, 12, 47, 48, 49, 10, 50, 51, 52, 53, 54, 55, 56, 57, 58, 29, 59, 60, 61, 62, 63, 64, 65, 66, 67, 68, 69, 70, 71, 72, 73, 74, 75, 76, 77, 78, 79, 80, 81, 82, 83, 84, 85, 86, 87, 88, 89, 90, 91, 92, 119, 120, 121] (by decide +kernel) (by decide +kernel)
set_option maxRecDepth 20000 in
theorem gX3_openAccount_Jx4a65c_add_9ea2d : GoodIn wsX3_openAccount (wsV RX3 42 RJx4a65c yJx4a65c_add_9ea2d wsJx4a65c_add_9ea2d) := goodIn_app (goodIn_of _ (by decide +kernel)) ggX3_openAccount_Jx4a65c_add_9ea2d
set_option maxRecDepth 20000 in
theorem ggX3_openAccount_X3_enter : GoodIn wsX3_openAccount wsX3_enter := goodIn_r _ [97, 1, 5, 98, 41, 42, 43, 10, 44, 45, 46, 30, 12, 47, 48, 49, 50, 51, 52, 53, 54, 55, 56, 57, 58, 29, 59, 60, 61, 62, 63, 64, 65, 66, 67, 68, 69, 70, 71, 72, 73, 74, 75, 76, 77, 78, 79, 80, 81, 82, 83, 84, 85, 86, 87, 88, 89, 90, 91, 92, 99, 100, 101, 102, 103, 104, 105, 106, 107, 108, 109, 110, 111, 112, 113, 114, 115, 116, 117, 118, 122, 123, 124, 125, 126, 119, 120, 121] (by decide +kernel) (by decide +kernel)
set_option maxRecDepth 20000 in
theorem gX3_openAccount_X3_enter : GoodIn wsX3_openAccount (wsV RX3 60 RX3 yX3_enter wsX3_enter) := goodIn_app (goodIn_of _ (by decide +kernel)) ggX3_openAccount_X3_enter
theorem dX3_openAccount_0 : decode cX3_openAccount 0 = .ok (.aload_n 0, 1) := by decide +kernel
theorem dX3_openAccount_1 : decode cX3_openAccount 1 = .ok (.getfield 12, 3) := by decide +kernel
theorem dX3_openAccount_4 : decode cX3_openAccount 4 = .ok (.invokevirtual 46, 3) := by decide +kernel
theorem dX3_openAccount_7 : decode cX3_openAccount 7 = .ok (.istore_n 3, 1) := by decide +kernel
theorem dX3_openAccount_8 : decode cX3_openAccount 8 = .ok (.new 55, 3) := by decide +kernel
theorem dX3_openAccount_11 : decode cX3_openAccount 11 = .ok (.dup, 1) := by decide +kernel
theorem dX3_openAccount_12 : decode cX3_openAccount 12 = .ok (.iload_n 3, 1) := by decide +kernel
theorem dX3_openAccount_13 : decode cX3_openAccount 13 = .ok (.aload_n 1, 1) := by decide +kernel
theorem dX3_openAccount_14 : decode cX3_openAccount 14 = .ok (.aload_n 1, 1) := by decide +kernel
theorem dX3_openAccount_15 : decode cX3_openAccount 15 = .ok (.getfield 64, 3) := by decide +kernel
theorem dX3_openAccount_18 : decode cX3_openAccount 18 = .ok (.aload_n 2, 1) := by decide +kernel
theorem dX3_openAccount_19 : decode cX3_openAccount 19 = .ok (.invokespecial 57, 3) := by decide +kernel
theorem dX3_openAccount_22 : decode cX3_openAccount 22 = .ok (.astore 4, 2) := by decide +kernel
theorem dX3_openAccount_24 : decode cX3_openAccount 24 = .ok (.aload_n 1, 1) := by decide +kernel
theorem dX3_openAccount_25 : decode cX3_openAccount 25 = .ok (.getfield 68, 3) := by decide +kernel
theorem dX3_openAccount_28 : decode cX3_openAccount 28 = .ok (.aload 4, 2) := by decide +kernel
theorem dX3_openAccount_30 : decode cX3_openAccount 30 = .ok (.invokevirtual 42, 3) := by decide +kernel
theorem dX3_openAccount_33 : decode cX3_openAccount 33 = .ok (.pop, 1) := by decide +kernel
theorem dX3_openAccount_34 : decode cX3_openAccount 34 = .ok (.aload_n 0, 1) := by decide +kernel
theorem dX3_openAccount_35 : decode cX3_openAccount 35 = .ok (.aload 4, 2) := by decide +kernel
theorem dX3_openAccount_37 : decode cX3_openAccount 37 = .ok (.invokevirtual 60, 3) := by decide +kernel
theorem dX3_openAccount_40 : decode cX3_openAccount 40 = .ok (.iload_n 3, 1) := by decide +kernel
theorem dX3_openAccount_41 : decode cX3_openAccount 41 = .ok (.ireturn, 1) := by decide +kernel
set_option maxRecDepth 20000 in
theorem ggX3_enter_Jx4a65c_add_9ea2d : GoodIn wsX3_enter wsJx4a65c_add_9ea2d := goodIn_r _ [8, 9, 10, 11, 12, 13, 14, 15, 7, 16, 17, 18, 19, 20, 21, 22, 23, 24, 25, 26, 27, 28, 29, 30, 31, 32, 33, 34, 35, 36, 37, 38, 39, 40, 41, 42, 43, 44, 45, 46, 47, 48, 49, 50, 51, 52, 53, 54, 55, 56, 57, 58, 59, 85, 86, 87] (by decide +kernel) (by decide +kernel)
set_option maxRecDepth 20000 in
theorem gX3_enter_Jx4a65c_add_9ea2d : GoodIn wsX3_enter (wsV RX3 42 RJx4a65c yJx4a65c_add_9ea2d wsJx4a65c_add_9ea2d) := goodIn_app (goodIn_of _ (by decide +kernel)) ggX3_enter_Jx4a65c_add_9ea2d
theorem dX3_enter_0 : decode cX3_enter 0 = .ok (.aload_n 0, 1) := by decide +kernel
theorem dX3_enter_1 : decode cX3_enter 1 = .ok (.getfield 12, 3) := by decide +kernel
theorem dX3_enter_4 : decode cX3_enter 4 = .ok (.aload_n 1, 1) := by decide +kernel
theorem dX3_enter_5 : decode cX3_enter 5 = .ok (.invokevirtual 42, 3) := by decide +kernel
theorem dX3_enter_8 : decode cX3_enter 8 = .ok (.pop, 1) := by decide +kernel
theorem dX3_enter_9 : decode cX3_enter 9 = .ok (.aload_n 1, 1) := by decide +kernel
theorem dX3_enter_10 : decode cX3_enter 10 = .ok (.getfield 64, 3) := by decide +kernel
theorem dX3_enter_13 : decode cX3_enter 13 = .ok (.getfield 71, 3) := by decide +kernel
theorem dX3_enter_16 : decode cX3_enter 16 = .ok (.aload_n 1, 1) := by decide +kernel
theorem dX3_enter_17 : decode cX3_enter 17 = .ok (.invokevirtual 42, 3) := by decide +kernel
theorem dX3_enter_20 : decode cX3_enter 20 = .ok (.pop, 1) := by decide +kernel
theorem dX3_enter_21 : decode cX3_enter 21 = .ok (.return_, 1) := by decide +kernel
set_option maxRecDepth 20000 in
theorem ggX3_openLine_X5_init : GoodIn wsX3_openLine wsX5_init := goodIn_r _ [8, 9, 10, 11, 12, 13, 14, 109, 110, 111, 112, 113, 114, 115, 116, 117] (by decide +kernel) (by decide +kernel)
set_option maxRecDepth 20000 in
theorem gX3_openLine_X5_init : GoodIn wsX3_openLine (wsX5_init) := ggX3_openLine_X5_init
set_option maxRecDepth 20000 in
theorem ggX3_openLine_Jx4a65c_add_9ea2d : GoodIn wsX3_openLine wsJx4a65c_add_9ea2d := goodIn_r _ [19, 20, 21, 22, 23, 24, 25, 26, 18, 27, 28, 29, 30, 31, 32, 33, 34, 35, 36, 37, 38, 39, 40, 41, 42, 43, 44, 45, 46, 47, 48, 49, 50, 51, 52, 53, 54, 55, 56, 57, 58, 59, 60, 61, 62, 63, 64, 65, 66, 67, 68, 69, 70, 138, 139, 140] (by decide +kernel) (by decide +kernel)
set_option maxRecDepth 20000 in
theorem gX3_openLine_Jx4a65c_add_9ea2d : GoodIn wsX3_openLine (wsV RX3 42 RJx4a65c yJx4a65c_add_9ea2d wsJx4a65c_add_9ea2d) := goodIn_app (goodIn_of _ (by decide +kernel)) ggX3_openLine_Jx4a65c_add_9ea2d
set_option maxRecDepth 20000 in
theorem ggX3_openLine_X6_rank : GoodIn wsX3_openLine wsX6_rank := goodIn_r _ [75, 76, 77, 78, 79, 80, 81, 18, 82, 23, 83, 84, 85, 86, 87, 88, 89, 90, 91, 92, 93, 94, 95, 96, 97, 98, 22, 99, 100, 101, 102, 20, 21, 103, 68, 69, 70, 104, 105, 106, 107, 28, 29, 30, 31, 32, 33, 34, 35, 36, 37, 38, 39, 40, 41, 42, 43, 44, 45, 46, 47, 48, 49, 50, 51, 52, 53, 54, 55, 56, 57, 58, 59, 60, 61, 62, 63, 64, 65, 66, 67, 141, 142, 143, 144, 145, 109, 110, 111, 112, 113, 114, 115, 116, 117, 138, 139, 140] (by decide +kernel) (by decide +kernel)
set_option maxRecDepth 20000 in
theorem gX3_openLine_X6_rank : GoodIn wsX3_openLine (wsV RX3 79 RX6 yX6_rank wsX6_rank) := goodIn_app (goodIn_of _ (by decide +kernel)) ggX3_openLine_X6_rank
set_option maxRecDepth 20000 in
theorem ggX3_openLine_Jx4a65c_size_8abf5 : GoodIn wsX3_openLine wsJx4a65c_size_8abf5 := goodIn_r _ [82, 23, 138, 139, 140] (by decide +kernel) (by decide +kernel)
set_option maxRecDepth 20000 in
theorem gX3_openLine_Jx4a65c_size_8abf5 : GoodIn wsX3_openLine (wsV RX3 46 RJx4a65c yJx4a65c_size_8abf5 wsJx4a65c_size_8abf5) := goodIn_app (goodIn_of _ (by decide +kernel)) ggX3_openLine_Jx4a65c_size_8abf5
theorem dX3_openLine_0 : decode cX3_openLine 0 = .ok (.new 74, 3) := by decide +kernel
theorem dX3_openLine_3 : decode cX3_openLine 3 = .ok (.dup, 1) := by decide +kernel
theorem dX3_openLine_4 : decode cX3_openLine 4 = .ok (.aload_n 1, 1) := by decide +kernel
theorem dX3_openLine_5 : decode cX3_openLine 5 = .ok (.iload_n 2, 1) := by decide +kernel
theorem dX3_openLine_6 : decode cX3_openLine 6 = .ok (.iload_n 3, 1) := by decide +kernel
theorem dX3_openLine_7 : decode cX3_openLine 7 = .ok (.invokespecial 76, 3) := by decide +kernel
theorem dX3_openLine_10 : decode cX3_openLine 10 = .ok (.astore 4, 2) := by decide +kernel
theorem dX3_openLine_12 : decode cX3_openLine 12 = .ok (.aload_n 0, 1) := by decide +kernel
theorem dX3_openLine_13 : decode cX3_openLine 13 = .ok (.getfield 21, 3) := by decide +kernel
theorem dX3_openLine_16 : decode cX3_openLine 16 = .ok (.aload 4, 2) := by decide +kernel
theorem dX3_openLine_18 : decode cX3_openLine 18 = .ok (.invokevirtual 42, 3) := by decide +kernel
theorem dX3_openLine_21 : decode cX3_openLine 21 = .ok (.pop, 1) := by decide +kernel
theorem dX3_openLine_22 : decode cX3_openLine 22 = .ok (.aload_n 1, 1) := by decide +kernel
theorem dX3_openLine_23 : decode cX3_openLine 23 = .ok (.getfield 64, 3) := by decide +kernel
theorem dX3_openLine_26 : decode cX3_openLine 26 = .ok (.aload 4, 2) := by decide +kernel
theorem dX3_openLine_28 : decode cX3_openLine 28 = .ok (.invokevirtual 79, 3) := by decide +kernel
theorem dX3_openLine_31 : decode cX3_openLine 31 = .ok (.aload_n 0, 1) := by decide +kernel
theorem dX3_openLine_32 : decode cX3_openLine 32 = .ok (.getfield 21, 3) := by decide +kernel
theorem dX3_openLine_35 : decode cX3_openLine 35 = .ok (.invokevirtual 46, 3) := by decide +kernel
theorem dX3_openLine_38 : decode cX3_openLine 38 = .ok (.iconst 1, 1) := by decide +kernel
theorem dX3_openLine_39 : decode cX3_openLine 39 = .ok (.isub, 1) := by decide +kernel
theorem dX3_openLine_40 : decode cX3_openLine 40 = .ok (.ireturn, 1) := by decide +kernel
set_option maxRecDepth 20000 in
theorem ggX3_passDay_X2_settles : GoodIn wsX3_passDay wsX2_settles := goodIn_r _ [7, 8, 243] (by decide +kernel) (by decide +kernel)
set_option maxRecDepth 20000 in
theorem gX3_passDay_X2_settles : GoodIn wsX3_passDay (wsV RX3 87 RX2 yX2_settles wsX2_settles) := goodIn_app (goodIn_of _ (by decide +kernel)) ggX3_passDay_X2_settles
set_option maxRecDepth 20000 in
theorem ggX3_passDay_X3_bookDueFlows : GoodIn wsX3_passDay wsX3_bookDueFlows := goodIn_r _ [13, 14, 15, 2, 16, 17, 18, 19, 20, 21, 22, 23, 24, 25, 26, 27, 28, 29, 30, 31, 32, 33, 34, 35, 36, 37, 38, 39, 40, 41, 42, 43, 44, 45, 46, 47, 48, 49, 235, 236, 237, 238, 239, 240, 241, 242, 244, 245, 246, 247, 248, 249, 250, 251, 252, 253, 254, 255, 256, 257, 258, 259, 260, 261, 262, 263, 264, 265] (by decide +kernel) (by decide +kernel)
set_option maxRecDepth 20000 in
theorem gX3_passDay_X3_bookDueFlows : GoodIn wsX3_passDay (wsV RX3 91 RX3 yX3_bookDueFlows wsX3_bookDueFlows) := goodIn_app (goodIn_of _ (by decide +kernel)) ggX3_passDay_X3_bookDueFlows
set_option maxRecDepth 20000 in
theorem ggX3_passDay_X3_sweepPools : GoodIn wsX3_passDay wsX3_sweepPools := goodIn_r _ [53, 54, 55, 16, 17, 18, 19, 20, 21, 22, 23, 24, 25, 26, 27, 28, 29, 30, 31, 32, 33, 34, 35, 36, 37, 38, 56, 57, 58, 59, 60, 61, 62, 63, 64, 65, 66, 67, 68, 69, 70, 71, 72, 73, 74, 75, 76, 77, 78, 79, 80, 81, 82, 83, 84, 85, 86, 87, 88, 89, 90, 91, 235, 236, 237, 238, 239, 240, 241, 242, 244, 245, 246, 254, 255, 256, 257, 258, 259, 260, 261, 262, 263, 264, 265] (by decide +kernel) (by decide +kernel)
set_option maxRecDepth 20000 in
theorem gX3_passDay_X3_sweepPools : GoodIn wsX3_passDay (wsV RX3 94 RX3 yX3_sweepPools wsX3_sweepPools) := goodIn_app (goodIn_of _ (by decide +kernel)) ggX3_passDay_X3_sweepPools
set_option maxRecDepth 20000 in
theorem ggX3_passDay_X3_coverPools : GoodIn wsX3_passDay wsX3_coverPools := goodIn_r _ [95, 54, 55, 96, 16, 17, 18, 19, 20, 21, 22, 23, 24, 25, 26, 27, 28, 29, 30, 31, 32, 33, 34, 35, 36, 37, 38, 97, 98, 99, 100, 101, 102, 103, 104, 105, 67, 68, 69, 106, 107, 108, 82, 83, 109, 110, 111, 112, 113, 114, 235, 236, 237, 238, 239, 240, 241, 242, 254, 255, 256, 257, 258, 259, 260, 261, 262, 263, 264, 265, 244, 245, 246, 266, 267, 268, 269, 270, 271, 272, 273, 274, 275, 276, 277, 278, 279] (by decide +kernel) (by decide +kernel)
set_option maxRecDepth 20000 in
theorem gX3_passDay_X3_coverPools : GoodIn wsX3_passDay (wsV RX3 97 RX3 yX3_coverPools wsX3_coverPools) := goodIn_app (goodIn_of _ (by decide +kernel)) ggX3_passDay_X3_coverPools
set_option maxRecDepth 20000 in
theorem ggX3_passDay_X3_easeBanks : GoodIn wsX3_passDay wsX3_easeBanks := goodIn_r _ [118, 119, 120, 121, 122, 12, 123, 124, 125, 126, 127, 55, 128, 129, 130, 67, 68, 69, 16, 17, 18, 19, 20, 21, 22, 23, 24, 25, 26, 27, 28, 29, 30, 31, 32, 33, 34, 35, 36, 37, 38, 131, 132, 133, 134, 96, 135, 136, 137, 138, 139, 140, 141, 142, 143, 144, 145, 146, 147, 148, 149, 150, 151, 152, 153, 154, 155, 156, 157, 158, 159, 82, 83, 235, 236, 237, 238, 239, 240, 241, 242, 280, 281, 282, 254, 255, 256, 257, 258, 259, 260, 261, 262, 263, 264, 265, 244, 245, 246, 266, 267, 268, 269, 270] (by decide +kernel) (by decide +kernel)
set_option maxRecDepth 20000 in
theorem gX3_passDay_X3_easeBanks : GoodIn wsX3_passDay (wsV RX3 100 RX3 yX3_easeBanks wsX3_easeBanks) := goodIn_app (goodIn_of _ (by decide +kernel)) ggX3_passDay_X3_easeBanks
set_option maxRecDepth 20000 in
theorem ggX3_passDay_X3_accrueInterest : GoodIn wsX3_passDay wsX3_accrueInterest := goodIn_r _ [163, 54, 55, 96, 164, 165, 16, 17, 18, 19, 20, 21, 22, 23, 24, 25, 26, 27, 28, 29, 30, 31, 32, 33, 34, 35, 36, 37, 38, 166, 167, 168, 100, 169, 170, 171, 104, 172, 173, 109, 110, 174, 175, 176, 177, 178, 179, 180, 181, 182, 183, 184, 185, 67, 68, 69, 186, 187, 188, 189, 190, 191, 192, 193, 194, 195, 235, 236, 237, 238, 239, 240, 241, 242, 254, 255, 256, 257, 258, 259, 260, 261, 262, 263, 264, 265, 244, 245, 246, 266, 267, 268, 269, 270, 283, 284, 285, 286, 287, 288, 289, 290, 291, 292, 271, 272, 273, 274, 275, 276, 277, 278, 279] (by decide +kernel) (by decide +kernel)
set_option maxRecDepth 20000 in
theorem gX3_passDay_X3_accrueInterest : GoodIn wsX3_passDay (wsV RX3 103 RX3 yX3_accrueInterest wsX3_accrueInterest) := goodIn_app (goodIn_of _ (by decide +kernel)) ggX3_passDay_X3_accrueInterest
set_option maxRecDepth 20000 in
theorem ggX3_passDay_X3_bookInterest : GoodIn wsX3_passDay wsX3_bookInterest := goodIn_r _ [199, 54, 55, 96, 164, 165, 16, 17, 18, 19, 20, 21, 22, 23, 24, 25, 26, 27, 28, 29, 30, 31, 32, 33, 34, 35, 36, 37, 38, 200, 201, 202, 100, 203, 172, 170, 173, 204, 205, 206, 177, 207, 180, 208, 209, 182, 183, 179, 210, 211, 212, 213, 214, 215, 216, 217, 218, 219, 220, 186, 187, 221, 222, 223, 76, 224, 225, 226, 227, 228, 229, 191, 230, 193, 231, 232, 233, 234, 235, 236, 237, 238, 239, 240, 241, 242, 254, 255, 256, 257, 258, 259, 260, 261, 262, 263, 264, 265, 244, 245, 246, 266, 267, 268, 269, 270, 283, 284, 285, 286, 287, 288, 289, 290, 291, 292, 271, 272, 273, 274, 275, 276, 277, 278, 279] (by decide +kernel) (by decide +kernel)
set_option maxRecDepth 20000 in
theorem gX3_passDay_X3_bookInterest : GoodIn wsX3_passDay (wsV RX3 106 RX3 yX3_bookInterest wsX3_bookInterest) := goodIn_app (goodIn_of _ (by decide +kernel)) ggX3_passDay_X3_bookInterest
theorem dX3_passDay_0 : decode cX3_passDay 0 = .ok (.aload_n 0, 1) := by decide +kernel
theorem dX3_passDay_1 : decode cX3_passDay 1 = .ok (.getfield 33, 3) := by decide +kernel
theorem dX3_passDay_4 : decode cX3_passDay 4 = .ok (.aload_n 0, 1) := by decide +kernel
theorem dX3_passDay_5 : decode cX3_passDay 5 = .ok (.getfield 83, 3) := by decide +kernel
theorem dX3_passDay_8 : decode cX3_passDay 8 = .ok (.invokevirtual 87, 3) := by decide +kernel
theorem dX3_passDay_11 : decode cX3_passDay 11 = .ok (.ifCond .eq 19, 3) := by decide +kernel
theorem dX3_passDay_14 : decode cX3_passDay 14 = .ok (.aload_n 0, 1) := by decide +kernel
theorem dX3_passDay_15 : decode cX3_passDay 15 = .ok (.invokevirtual 91, 3) := by decide +kernel
theorem dX3_passDay_18 : decode cX3_passDay 18 = .ok (.aload_n 0, 1) := by decide +kernel
theorem dX3_passDay_19 : decode cX3_passDay 19 = .ok (.invokevirtual 94, 3) := by decide +kernel
theorem dX3_passDay_22 : decode cX3_passDay 22 = .ok (.aload_n 0, 1) := by decide +kernel
theorem dX3_passDay_23 : decode cX3_passDay 23 = .ok (.invokevirtual 97, 3) := by decide +kernel
theorem dX3_passDay_26 : decode cX3_passDay 26 = .ok (.aload_n 0, 1) := by decide +kernel
theorem dX3_passDay_27 : decode cX3_passDay 27 = .ok (.invokevirtual 100, 3) := by decide +kernel
theorem dX3_passDay_30 : decode cX3_passDay 30 = .ok (.aload_n 0, 1) := by decide +kernel
theorem dX3_passDay_31 : decode cX3_passDay 31 = .ok (.invokevirtual 103, 3) := by decide +kernel
theorem dX3_passDay_34 : decode cX3_passDay 34 = .ok (.aload_n 0, 1) := by decide +kernel
theorem dX3_passDay_35 : decode cX3_passDay 35 = .ok (.getfield 83, 3) := by decide +kernel
theorem dX3_passDay_38 : decode cX3_passDay 38 = .ok (.iconst 1, 1) := by decide +kernel
theorem dX3_passDay_39 : decode cX3_passDay 39 = .ok (.iadd, 1) := by decide +kernel
theorem dX3_passDay_40 : decode cX3_passDay 40 = .ok (.bipush 20, 2) := by decide +kernel
theorem dX3_passDay_42 : decode cX3_passDay 42 = .ok (.irem, 1) := by decide +kernel
theorem dX3_passDay_43 : decode cX3_passDay 43 = .ok (.ifCond .ne 7, 3) := by decide +kernel
theorem dX3_passDay_46 : decode cX3_passDay 46 = .ok (.aload_n 0, 1) := by decide +kernel
theorem dX3_passDay_47 : decode cX3_passDay 47 = .ok (.invokevirtual 106, 3) := by decide +kernel
theorem dX3_passDay_50 : decode cX3_passDay 50 = .ok (.aload_n 0, 1) := by decide +kernel
theorem dX3_passDay_51 : decode cX3_passDay 51 = .ok (.dup, 1) := by decide +kernel
theorem dX3_passDay_52 : decode cX3_passDay 52 = .ok (.getfield 83, 3) := by decide +kernel
theorem dX3_passDay_55 : decode cX3_passDay 55 = .ok (.iconst 1, 1) := by decide +kernel
theorem dX3_passDay_56 : decode cX3_passDay 56 = .ok (.iadd, 1) := by decide +kernel
theorem dX3_passDay_57 : decode cX3_passDay 57 = .ok (.putfield 83, 3) := by decide +kernel
theorem dX3_passDay_60 : decode cX3_passDay 60 = .ok (.return_, 1) := by decide +kernel
set_option maxRecDepth 20000 in
theorem ggX3_bookDueFlows_Jx4a65c_size_8abf5 : GoodIn wsX3_bookDueFlows wsJx4a65c_size_8abf5 := goodIn_r _ [8, 9, 46, 47, 48] (by decide +kernel) (by decide +kernel)
set_option maxRecDepth 20000 in
theorem gX3_bookDueFlows_Jx4a65c_size_8abf5 : GoodIn wsX3_bookDueFlows (wsV RX3 46 RJx4a65c yJx4a65c_size_8abf5 wsJx4a65c_size_8abf5) := goodIn_app (goodIn_of _ (by decide +kernel)) ggX3_bookDueFlows_Jx4a65c_size_8abf5
set_option maxRecDepth 20000 in
theorem ggX3_bookDueFlows_Jx4a65c_get_915e3 : GoodIn wsX3_bookDueFlows wsJx4a65c_get_915e3 := goodIn_r _ [13, 9, 14, 15, 16, 17, 18, 19, 20, 21, 22, 23, 24, 7, 25, 26, 46, 47, 48] (by decide +kernel) (by decide +kernel)
set_option maxRecDepth 20000 in
theorem gX3_bookDueFlows_Jx4a65c_get_915e3 : GoodIn wsX3_bookDueFlows (wsV RX3 109 RJx4a65c yJx4a65c_get_915e3 wsJx4a65c_get_915e3) := goodIn_app (goodIn_of _ (by decide +kernel)) ggX3_bookDueFlows_Jx4a65c_get_915e3
set_option maxRecDepth 20000 in
theorem ggX3_bookDueFlows_X4_bookUpTo : GoodIn wsX3_bookDueFlows wsX4_bookUpTo := goodIn_r _ [31, 32, 33, 34, 35, 36, 37, 49, 50, 51, 52, 53, 54, 55, 56, 57, 58, 59, 60, 61, 62, 63, 64, 65, 66, 67] (by decide +kernel) (by decide +kernel)
set_option maxRecDepth 20000 in
theorem gX3_bookDueFlows_X4_bookUpTo : GoodIn wsX3_bookDueFlows (wsV RX3 115 RX4 yX4_bookUpTo wsX4_bookUpTo) := goodIn_app (goodIn_of _ (by decide +kernel)) ggX3_bookDueFlows_X4_bookUpTo
theorem dX3_bookDueFlows_0 : decode cX3_bookDueFlows 0 = .ok (.iconst 0, 1) := by decide +kernel
theorem dX3_bookDueFlows_1 : decode cX3_bookDueFlows 1 = .ok (.istore_n 1, 1) := by decide +kernel
theorem dX3_bookDueFlows_2 : decode cX3_bookDueFlows 2 = .ok (.iload_n 1, 1) := by decide +kernel
theorem dX3_bookDueFlows_3 : decode cX3_bookDueFlows 3 = .ok (.aload_n 0, 1) := by decide +kernel
theorem dX3_bookDueFlows_4 : decode cX3_bookDueFlows 4 = .ok (.getfield 24, 3) := by decide +kernel
theorem dX3_bookDueFlows_7 : decode cX3_bookDueFlows 7 = .ok (.invokevirtual 46, 3) := by decide +kernel
theorem dX3_bookDueFlows_10 : decode cX3_bookDueFlows 10 = .ok (.if_icmp .ge 27, 3) := by decide +kernel
theorem dX3_bookDueFlows_13 : decode cX3_bookDueFlows 13 = .ok (.aload_n 0, 1) := by decide +kernel
theorem dX3_bookDueFlows_14 : decode cX3_bookDueFlows 14 = .ok (.getfield 24, 3) := by decide +kernel
theorem dX3_bookDueFlows_17 : decode cX3_bookDueFlows 17 = .ok (.iload_n 1, 1) := by decide +kernel
theorem dX3_bookDueFlows_18 : decode cX3_bookDueFlows 18 = .ok (.invokevirtual 109, 3) := by decide +kernel
theorem dX3_bookDueFlows_21 : decode cX3_bookDueFlows 21 = .ok (.checkcast 113, 3) := by decide +kernel
theorem dX3_bookDueFlows_24 : decode cX3_bookDueFlows 24 = .ok (.aload_n 0, 1) := by decide +kernel
theorem dX3_bookDueFlows_25 : decode cX3_bookDueFlows 25 = .ok (.getfield 83, 3) := by decide +kernel
theorem dX3_bookDueFlows_28 : decode cX3_bookDueFlows 28 = .ok (.invokevirtual 115, 3) := by decide +kernel
theorem dX3_bookDueFlows_31 : decode cX3_bookDueFlows 31 = .ok (.iinc 1 1, 3) := by decide +kernel
theorem dX3_bookDueFlows_34 : decode cX3_bookDueFlows 34 = .ok (.goto (-32), 3) := by decide +kernel
theorem dX3_bookDueFlows_37 : decode cX3_bookDueFlows 37 = .ok (.return_, 1) := by decide +kernel
set_option maxRecDepth 20000 in
theorem ggX3_sweepPools_Jx4a65c_size_8abf5 : GoodIn wsX3_sweepPools wsJx4a65c_size_8abf5 := goodIn_r _ [7, 8, 70, 71, 72] (by decide +kernel) (by decide +kernel)
set_option maxRecDepth 20000 in
theorem gX3_sweepPools_Jx4a65c_size_8abf5 : GoodIn wsX3_sweepPools (wsV RX3 46 RJx4a65c yJx4a65c_size_8abf5 wsJx4a65c_size_8abf5) := goodIn_app (goodIn_of _ (by decide +kernel)) ggX3_sweepPools_Jx4a65c_size_8abf5
set_option maxRecDepth 20000 in
theorem ggX3_sweepPools_Jx4a65c_get_915e3 : GoodIn wsX3_sweepPools wsJx4a65c_get_915e3 := goodIn_r _ [12, 8, 13, 14, 15, 16, 17, 18, 19, 20, 21, 22, 23, 6, 24, 25, 70, 71, 72] (by decide +kernel) (by decide +kernel)
set_option maxRecDepth 20000 in
theorem gX3_sweepPools_Jx4a65c_get_915e3 : GoodIn wsX3_sweepPools (wsV RX3 109 RJx4a65c yJx4a65c_get_915e3 wsJx4a65c_get_915e3) := goodIn_app (goodIn_of _ (by decide +kernel)) ggX3_sweepPools_Jx4a65c_get_915e3
set_option maxRecDepth 20000 in
theorem ggX3_sweepPools_X8_sweep : GoodIn wsX3_sweepPools wsX8_sweep := goodIn_r _ [29, 30, 31, 28, 32, 33, 34, 35, 36, 37, 38, 39, 40, 41, 4, 5, 6, 7, 8, 42, 10, 11, 12, 13, 14, 15, 16, 17, 18, 19, 20, 21, 22, 23, 24, 25, 43, 44, 45, 46, 47, 48, 49, 50, 51, 52, 53, 54, 55, 56, 57, 58, 59, 60, 61, 73, 74, 75, 76, 77, 78, 79, 80, 81, 82, 83, 84, 70, 71, 72] (by decide +kernel) (by decide +kernel)
set_option maxRecDepth 20000 in
theorem gX3_sweepPools_X8_sweep : GoodIn wsX3_sweepPools (va_wsS RX3 118 yX8_sweep wsX8_sweep) := goodIn_app (goodIn_of _ (by decide +kernel)) ggX3_sweepPools_X8_sweep
theorem dX3_sweepPools_0 : decode cX3_sweepPools 0 = .ok (.iconst 0, 1) := by decide +kernel
theorem dX3_sweepPools_1 : decode cX3_sweepPools 1 = .ok (.istore_n 1, 1) := by decide +kernel
theorem dX3_sweepPools_2 : decode cX3_sweepPools 2 = .ok (.iload_n 1, 1) := by decide +kernel
theorem dX3_sweepPools_3 : decode cX3_sweepPools 3 = .ok (.aload_n 0, 1) := by decide +kernel
theorem dX3_sweepPools_4 : decode cX3_sweepPools 4 = .ok (.getfield 18, 3) := by decide +kernel
theorem dX3_sweepPools_7 : decode cX3_sweepPools 7 = .ok (.invokevirtual 46, 3) := by decide +kernel
theorem dX3_sweepPools_10 : decode cX3_sweepPools 10 = .ok (.if_icmp .ge 23, 3) := by decide +kernel
theorem dX3_sweepPools_13 : decode cX3_sweepPools 13 = .ok (.aload_n 0, 1) := by decide +kernel
theorem dX3_sweepPools_14 : decode cX3_sweepPools 14 = .ok (.getfield 18, 3) := by decide +kernel
theorem dX3_sweepPools_17 : decode cX3_sweepPools 17 = .ok (.iload_n 1, 1) := by decide +kernel
theorem dX3_sweepPools_18 : decode cX3_sweepPools 18 = .ok (.invokevirtual 109, 3) := by decide +kernel
theorem dX3_sweepPools_21 : decode cX3_sweepPools 21 = .ok (.checkcast 55, 3) := by decide +kernel
theorem dX3_sweepPools_24 : decode cX3_sweepPools 24 = .ok (.invokestatic 118, 3) := by decide +kernel
theorem dX3_sweepPools_27 : decode cX3_sweepPools 27 = .ok (.iinc 1 1, 3) := by decide +kernel
theorem dX3_sweepPools_30 : decode cX3_sweepPools 30 = .ok (.goto (-28), 3) := by decide +kernel
theorem dX3_sweepPools_33 : decode cX3_sweepPools 33 = .ok (.return_, 1) := by decide +kernel
set_option maxRecDepth 20000 in
theorem ggX3_coverPools_Jx4a65c_size_8abf5 : GoodIn wsX3_coverPools wsJx4a65c_size_8abf5 := goodIn_r _ [8, 9, 70, 71, 72] (by decide +kernel) (by decide +kernel)
set_option maxRecDepth 20000 in
theorem gX3_coverPools_Jx4a65c_size_8abf5 : GoodIn wsX3_coverPools (wsV RX3 46 RJx4a65c yJx4a65c_size_8abf5 wsJx4a65c_size_8abf5) := goodIn_app (goodIn_of _ (by decide +kernel)) ggX3_coverPools_Jx4a65c_size_8abf5
set_option maxRecDepth 20000 in
theorem ggX3_coverPools_Jx4a65c_get_915e3 : GoodIn wsX3_coverPools wsJx4a65c_get_915e3 := goodIn_r _ [13, 9, 14, 15, 16, 17, 18, 19, 20, 21, 22, 23, 24, 7, 25, 26, 70, 71, 72] (by decide +kernel) (by decide +kernel)
set_option maxRecDepth 20000 in
theorem gX3_coverPools_Jx4a65c_get_915e3 : GoodIn wsX3_coverPools (wsV RX3 109 RJx4a65c yJx4a65c_get_915e3 wsJx4a65c_get_915e3) := goodIn_app (goodIn_of _ (by decide +kernel)) ggX3_coverPools_Jx4a65c_get_915e3
set_option maxRecDepth 20000 in
theorem ggX3_coverPools_X6_drawMissing : GoodIn wsX3_coverPools wsX6_drawMissing := goodIn_r _ [31, 32, 33, 34, 35, 36, 37, 38, 39, 40, 41, 42, 43, 44, 5, 6, 7, 8, 9, 45, 11, 12, 13, 14, 15, 16, 17, 18, 19, 20, 21, 22, 23, 24, 25, 26, 73, 74, 75, 76, 77, 58, 59, 60, 61, 62, 63, 64, 65, 66, 67, 68, 69, 78, 79, 80, 81, 82, 83, 84, 85, 86, 70, 71, 72] (by decide +kernel) (by decide +kernel)
set_option maxRecDepth 20000 in
theorem gX3_coverPools_X6_drawMissing : GoodIn wsX3_coverPools (wsV RX3 123 RX6 yX6_drawMissing wsX6_drawMissing) := goodIn_app (goodIn_of _ (by decide +kernel)) ggX3_coverPools_X6_drawMissing
set_option maxRecDepth 20000 in
theorem ggX3_coverPools_X6_payBack : GoodIn wsX3_coverPools wsX6_payBack := goodIn_r _ [49, 32, 33, 34, 35, 36, 37, 38, 40, 41, 42, 43, 44, 5, 6, 7, 8, 9, 45, 11, 12, 13, 14, 15, 16, 17, 18, 19, 20, 21, 22, 23, 24, 25, 26, 73, 74, 75, 76, 77, 58, 59, 60, 61, 62, 63, 64, 65, 66, 67, 68, 69, 78, 79, 80, 81, 82, 83, 84, 85, 86, 70, 71, 72] (by decide +kernel) (by decide +kernel)
set_option maxRecDepth 20000 in
theorem gX3_coverPools_X6_payBack : GoodIn wsX3_coverPools (wsV RX3 126 RX6 yX6_payBack wsX6_payBack) := goodIn_app (goodIn_of _ (by decide +kernel)) ggX3_coverPools_X6_payBack
theorem dX3_coverPools_0 : decode cX3_coverPools 0 = .ok (.iconst 0, 1) := by decide +kernel
theorem dX3_coverPools_1 : decode cX3_coverPools 1 = .ok (.istore_n 1, 1) := by decide +kernel
theorem dX3_coverPools_2 : decode cX3_coverPools 2 = .ok (.iload_n 1, 1) := by decide +kernel
theorem dX3_coverPools_3 : decode cX3_coverPools 3 = .ok (.aload_n 0, 1) := by decide +kernel
theorem dX3_coverPools_4 : decode cX3_coverPools 4 = .ok (.getfield 18, 3) := by decide +kernel
theorem dX3_coverPools_7 : decode cX3_coverPools 7 = .ok (.invokevirtual 46, 3) := by decide +kernel
theorem dX3_coverPools_10 : decode cX3_coverPools 10 = .ok (.if_icmp .ge 37, 3) := by decide +kernel
theorem dX3_coverPools_13 : decode cX3_coverPools 13 = .ok (.aload_n 0, 1) := by decide +kernel
theorem dX3_coverPools_14 : decode cX3_coverPools 14 = .ok (.getfield 18, 3) := by decide +kernel
theorem dX3_coverPools_17 : decode cX3_coverPools 17 = .ok (.iload_n 1, 1) := by decide +kernel
theorem dX3_coverPools_18 : decode cX3_coverPools 18 = .ok (.invokevirtual 109, 3) := by decide +kernel
theorem dX3_coverPools_21 : decode cX3_coverPools 21 = .ok (.checkcast 55, 3) := by decide +kernel
theorem dX3_coverPools_24 : decode cX3_coverPools 24 = .ok (.astore_n 2, 1) := by decide +kernel
theorem dX3_coverPools_25 : decode cX3_coverPools 25 = .ok (.aload_n 2, 1) := by decide +kernel
theorem dX3_coverPools_26 : decode cX3_coverPools 26 = .ok (.getfield 64, 3) := by decide +kernel
theorem dX3_coverPools_29 : decode cX3_coverPools 29 = .ok (.aload_n 2, 1) := by decide +kernel
theorem dX3_coverPools_30 : decode cX3_coverPools 30 = .ok (.invokevirtual 123, 3) := by decide +kernel
theorem dX3_coverPools_33 : decode cX3_coverPools 33 = .ok (.aload_n 2, 1) := by decide +kernel
theorem dX3_coverPools_34 : decode cX3_coverPools 34 = .ok (.getfield 64, 3) := by decide +kernel
theorem dX3_coverPools_37 : decode cX3_coverPools 37 = .ok (.aload_n 2, 1) := by decide +kernel
theorem dX3_coverPools_38 : decode cX3_coverPools 38 = .ok (.invokevirtual 126, 3) := by decide +kernel
theorem dX3_coverPools_41 : decode cX3_coverPools 41 = .ok (.iinc 1 1, 3) := by decide +kernel
theorem dX3_coverPools_44 : decode cX3_coverPools 44 = .ok (.goto (-42), 3) := by decide +kernel
theorem dX3_coverPools_47 : decode cX3_coverPools 47 = .ok (.return_, 1) := by decide +kernel
set_option maxRecDepth 20000 in
theorem ggX3_easeBanks_X3_measureBanks : GoodIn wsX3_easeBanks wsX3_measureBanks := goodIn_r _ [6, 7, 8, 9, 10, 11, 12, 13, 14, 15, 16, 17, 18, 19, 20, 21, 22, 23, 24, 25, 26, 27, 28, 29, 30, 31, 32, 33, 34, 35, 36, 37, 38, 39, 40, 73, 74, 75, 76, 77, 78, 79, 80, 81, 82, 83, 84, 85, 86, 87, 88, 89, 90, 91, 92, 93, 94, 95, 96, 97, 98] (by decide +kernel) (by decide +kernel)
set_option maxRecDepth 20000 in
theorem gX3_easeBanks_X3_measureBanks : GoodIn wsX3_easeBanks (wsV RX3 130 RX3 yX3_measureBanks wsX3_measureBanks) := goodIn_app (goodIn_of _ (by decide +kernel)) ggX3_easeBanks_X3_measureBanks
set_option maxRecDepth 20000 in
theorem ggX3_easeBanks_X3_findGiver : GoodIn wsX3_easeBanks wsX3_findGiver := goodIn_r _ [44, 10, 11, 13, 12, 45, 18, 19, 20, 21, 22, 23, 24, 25, 26, 27, 28, 29, 30, 31, 32, 33, 34, 35, 36, 37, 38, 39, 40, 46, 47, 48, 49, 50, 51, 52, 53, 15, 16, 17, 54, 55, 5, 56, 57, 58, 59, 60, 61, 62, 63, 64, 65, 66, 73, 74, 75, 76, 77, 78, 79, 80, 84, 85, 86, 87, 88, 89, 90, 91, 92, 93, 94, 95, 96, 97, 98, 81, 82, 83, 99, 100, 101, 102, 103] (by decide +kernel) (by decide +kernel)
set_option maxRecDepth 20000 in
theorem gX3_easeBanks_X3_findGiver : GoodIn wsX3_easeBanks (wsV RX3 133 RX3 yX3_findGiver wsX3_findGiver) := goodIn_app (goodIn_of _ (by decide +kernel)) ggX3_easeBanks_X3_findGiver
set_option maxRecDepth 20000 in
theorem ggX3_easeBanks_X3_moveAway : GoodIn wsX3_easeBanks wsX3_moveAway := goodIn_r _ [69, 45, 13, 12, 70, 71, 16, 72, 54, 55, 5, 56, 57, 11, 18, 19, 20, 21, 22, 23, 24, 25, 26, 27, 28, 29, 30, 31, 32, 33, 34, 35, 36, 37, 38, 39, 40, 58, 59, 60, 49, 61, 51, 62, 52, 53, 15, 17, 46, 47, 48, 50, 84, 85, 86, 87, 88, 89, 90, 91, 92, 93, 94, 95, 99, 100, 101, 102, 103, 96, 97, 98, 81, 82, 83] (by decide +kernel) (by decide +kernel)
set_option maxRecDepth 20000 in
theorem gX3_easeBanks_X3_moveAway : GoodIn wsX3_easeBanks (va_wsS RX3 137 yX3_moveAway wsX3_moveAway) := goodIn_app (goodIn_of _ (by decide +kernel)) ggX3_easeBanks_X3_moveAway
theorem dX3_easeBanks_0 : decode cX3_easeBanks 0 = .ok (.iconst 1, 1) := by decide +kernel
theorem dX3_easeBanks_1 : decode cX3_easeBanks 1 = .ok (.istore_n 1, 1) := by decide +kernel
theorem dX3_easeBanks_2 : decode cX3_easeBanks 2 = .ok (.iconst 0, 1) := by decide +kernel
theorem dX3_easeBanks_3 : decode cX3_easeBanks 3 = .ok (.istore_n 2, 1) := by decide +kernel
theorem dX3_easeBanks_4 : decode cX3_easeBanks 4 = .ok (.iload_n 1, 1) := by decide +kernel
theorem dX3_easeBanks_5 : decode cX3_easeBanks 5 = .ok (.ifCond .eq 41, 3) := by decide +kernel
theorem dX3_easeBanks_8 : decode cX3_easeBanks 8 = .ok (.iload_n 2, 1) := by decide +kernel
theorem dX3_easeBanks_9 : decode cX3_easeBanks 9 = .ok (.ldc 129, 2) := by decide +kernel
theorem dX3_easeBanks_11 : decode cX3_easeBanks 11 = .ok (.if_icmp .ge 35, 3) := by decide +kernel
theorem dX3_easeBanks_14 : decode cX3_easeBanks 14 = .ok (.aload_n 0, 1) := by decide +kernel
theorem dX3_easeBanks_15 : decode cX3_easeBanks 15 = .ok (.invokevirtual 130, 3) := by decide +kernel
theorem dX3_easeBanks_18 : decode cX3_easeBanks 18 = .ok (.aload_n 0, 1) := by decide +kernel
theorem dX3_easeBanks_19 : decode cX3_easeBanks 19 = .ok (.invokevirtual 133, 3) := by decide +kernel
theorem dX3_easeBanks_22 : decode cX3_easeBanks 22 = .ok (.astore_n 3, 1) := by decide +kernel
theorem dX3_easeBanks_23 : decode cX3_easeBanks 23 = .ok (.aload_n 3, 1) := by decide +kernel
theorem dX3_easeBanks_24 : decode cX3_easeBanks 24 = .ok (.ifnull 14, 3) := by decide +kernel
theorem dX3_easeBanks_27 : decode cX3_easeBanks 27 = .ok (.aload_n 3, 1) := by decide +kernel
theorem dX3_easeBanks_28 : decode cX3_easeBanks 28 = .ok (.invokestatic 137, 3) := by decide +kernel
theorem dX3_easeBanks_31 : decode cX3_easeBanks 31 = .ok (.ifCond .eq 7, 3) := by decide +kernel
theorem dX3_easeBanks_34 : decode cX3_easeBanks 34 = .ok (.iconst 1, 1) := by decide +kernel
theorem dX3_easeBanks_35 : decode cX3_easeBanks 35 = .ok (.goto 4, 3) := by decide +kernel
theorem dX3_easeBanks_38 : decode cX3_easeBanks 38 = .ok (.iconst 0, 1) := by decide +kernel
theorem dX3_easeBanks_39 : decode cX3_easeBanks 39 = .ok (.istore_n 1, 1) := by decide +kernel
theorem dX3_easeBanks_40 : decode cX3_easeBanks 40 = .ok (.iinc 2 1, 3) := by decide +kernel
theorem dX3_easeBanks_43 : decode cX3_easeBanks 43 = .ok (.goto (-39), 3) := by decide +kernel
theorem dX3_easeBanks_46 : decode cX3_easeBanks 46 = .ok (.return_, 1) := by decide +kernel
set_option maxRecDepth 20000 in
theorem ggX3_measureBanks_Jx4a65c_size_8abf5 : GoodIn wsX3_measureBanks wsJx4a65c_size_8abf5 := goodIn_r _ [16, 17, 58, 59, 60] (by decide +kernel) (by decide +kernel)
set_option maxRecDepth 20000 in
theorem gX3_measureBanks_Jx4a65c_size_8abf5 : GoodIn wsX3_measureBanks (wsV RX3 46 RJx4a65c yJx4a65c_size_8abf5 wsJx4a65c_size_8abf5) := goodIn_app (goodIn_of _ (by decide +kernel)) ggX3_measureBanks_Jx4a65c_size_8abf5
set_option maxRecDepth 20000 in
theorem ggX3_measureBanks_Jx4a65c_get_915e3 : GoodIn wsX3_measureBanks wsJx4a65c_get_915e3 := goodIn_r _ [21, 17, 22, 23, 24, 25, 26, 27, 28, 29, 30, 31, 32, 15, 33, 34, 58, 59, 60] (by decide +kernel) (by decide +kernel)
set_option maxRecDepth 20000 in
theorem gX3_measureBanks_Jx4a65c_get_915e3 : GoodIn wsX3_measureBanks (wsV RX3 109 RJx4a65c yJx4a65c_get_915e3 wsJx4a65c_get_915e3) := goodIn_app (goodIn_of _ (by decide +kernel)) ggX3_measureBanks_Jx4a65c_get_915e3
theorem dX3_measureBanks_0 : decode cX3_measureBanks 0 = .ok (.iconst 0, 1) := by decide +kernel
theorem dX3_measureBanks_1 : decode cX3_measureBanks 1 = .ok (.istore_n 1, 1) := by decide +kernel
theorem dX3_measureBanks_2 : decode cX3_measureBanks 2 = .ok (.iload_n 1, 1) := by decide +kernel
theorem dX3_measureBanks_3 : decode cX3_measureBanks 3 = .ok (.aload_n 0, 1) := by decide +kernel
theorem dX3_measureBanks_4 : decode cX3_measureBanks 4 = .ok (.getfield 27, 3) := by decide +kernel
theorem dX3_measureBanks_7 : decode cX3_measureBanks 7 = .ok (.invokevirtual 46, 3) := by decide +kernel
theorem dX3_measureBanks_10 : decode cX3_measureBanks 10 = .ok (.if_icmp .ge 24, 3) := by decide +kernel
theorem dX3_measureBanks_13 : decode cX3_measureBanks 13 = .ok (.aload_n 0, 1) := by decide +kernel
theorem dX3_measureBanks_14 : decode cX3_measureBanks 14 = .ok (.getfield 27, 3) := by decide +kernel
theorem dX3_measureBanks_17 : decode cX3_measureBanks 17 = .ok (.iload_n 1, 1) := by decide +kernel
theorem dX3_measureBanks_18 : decode cX3_measureBanks 18 = .ok (.invokevirtual 109, 3) := by decide +kernel
theorem dX3_measureBanks_21 : decode cX3_measureBanks 21 = .ok (.checkcast 37, 3) := by decide +kernel
theorem dX3_measureBanks_24 : decode cX3_measureBanks 24 = .ok (.lconst 0, 1) := by decide +kernel
theorem dX3_measureBanks_25 : decode cX3_measureBanks 25 = .ok (.putfield 141, 3) := by decide +kernel
theorem dX3_measureBanks_28 : decode cX3_measureBanks 28 = .ok (.iinc 1 1, 3) := by decide +kernel
theorem dX3_measureBanks_31 : decode cX3_measureBanks 31 = .ok (.goto (-29), 3) := by decide +kernel
theorem dX3_measureBanks_34 : decode cX3_measureBanks 34 = .ok (.iconst 0, 1) := by decide +kernel
theorem dX3_measureBanks_35 : decode cX3_measureBanks 35 = .ok (.istore_n 1, 1) := by decide +kernel
theorem dX3_measureBanks_36 : decode cX3_measureBanks 36 = .ok (.iload_n 1, 1) := by decide +kernel
theorem dX3_measureBanks_37 : decode cX3_measureBanks 37 = .ok (.aload_n 0, 1) := by decide +kernel
theorem dX3_measureBanks_38 : decode cX3_measureBanks 38 = .ok (.getfield 12, 3) := by decide +kernel
theorem dX3_measureBanks_41 : decode cX3_measureBanks 41 = .ok (.invokevirtual 46, 3) := by decide +kernel
theorem dX3_measureBanks_44 : decode cX3_measureBanks 44 = .ok (.if_icmp .ge 41, 3) := by decide +kernel
theorem dX3_measureBanks_47 : decode cX3_measureBanks 47 = .ok (.aload_n 0, 1) := by decide +kernel
theorem dX3_measureBanks_48 : decode cX3_measureBanks 48 = .ok (.getfield 12, 3) := by decide +kernel
theorem dX3_measureBanks_51 : decode cX3_measureBanks 51 = .ok (.iload_n 1, 1) := by decide +kernel
theorem dX3_measureBanks_52 : decode cX3_measureBanks 52 = .ok (.invokevirtual 109, 3) := by decide +kernel
theorem dX3_measureBanks_55 : decode cX3_measureBanks 55 = .ok (.checkcast 55, 3) := by decide +kernel
theorem dX3_measureBanks_58 : decode cX3_measureBanks 58 = .ok (.astore_n 2, 1) := by decide +kernel
theorem dX3_measureBanks_59 : decode cX3_measureBanks 59 = .ok (.aload_n 2, 1) := by decide +kernel
theorem dX3_measureBanks_60 : decode cX3_measureBanks 60 = .ok (.getfield 145, 3) := by decide +kernel
theorem dX3_measureBanks_63 : decode cX3_measureBanks 63 = .ok (.dup, 1) := by decide +kernel
theorem dX3_measureBanks_64 : decode cX3_measureBanks 64 = .ok (.getfield 141, 3) := by decide +kernel
theorem dX3_measureBanks_67 : decode cX3_measureBanks 67 = .ok (.aload_n 2, 1) := by decide +kernel
theorem dX3_measureBanks_68 : decode cX3_measureBanks 68 = .ok (.getfield 149, 3) := by decide +kernel
theorem dX3_measureBanks_71 : decode cX3_measureBanks 71 = .ok (.lconst 0, 1) := by decide +kernel
theorem dX3_measureBanks_72 : decode cX3_measureBanks 72 = .ok (.invokestatic 152, 3) := by decide +kernel
theorem dX3_measureBanks_75 : decode cX3_measureBanks 75 = .ok (.ladd, 1) := by decide +kernel
theorem dX3_measureBanks_76 : decode cX3_measureBanks 76 = .ok (.putfield 141, 3) := by decide +kernel
theorem dX3_measureBanks_79 : decode cX3_measureBanks 79 = .ok (.iinc 1 1, 3) := by decide +kernel
theorem dX3_measureBanks_82 : decode cX3_measureBanks 82 = .ok (.goto (-46), 3) := by decide +kernel
theorem dX3_measureBanks_85 : decode cX3_measureBanks 85 = .ok (.return_, 1) := by decide +kernel
set_option maxRecDepth 20000 in
theorem ggX3_findGiver_Jx4a65c_size_8abf5 : GoodIn wsX3_findGiver wsJx4a65c_size_8abf5 := goodIn_r _ [10, 11, 74, 75, 76] (by decide +kernel) (by decide +kernel)
set_option maxRecDepth 20000 in
theorem gX3_findGiver_Jx4a65c_size_8abf5 : GoodIn wsX3_findGiver (wsV RX3 46 RJx4a65c yJx4a65c_size_8abf5 wsJx4a65c_size_8abf5) := goodIn_app (goodIn_of _ (by decide +kernel)) ggX3_findGiver_Jx4a65c_size_8abf5
set_option maxRecDepth 20000 in
theorem ggX3_findGiver_Jx4a65c_get_915e3 : GoodIn wsX3_findGiver wsJx4a65c_get_915e3 := goodIn_r _ [15, 11, 16, 17, 18, 19, 20, 21, 22, 23, 24, 25, 26, 9, 27, 28, 74, 75, 76] (by decide +kernel) (by decide +kernel)
set_option maxRecDepth 20000 in
theorem gX3_findGiver_Jx4a65c_get_915e3 : GoodIn wsX3_findGiver (wsV RX3 109 RJx4a65c yJx4a65c_get_915e3 wsJx4a65c_get_915e3) := goodIn_app (goodIn_of _ (by decide +kernel)) ggX3_findGiver_Jx4a65c_get_915e3
set_option maxRecDepth 20000 in
theorem ggX3_findGiver_X1_excess : GoodIn wsX3_findGiver wsX1_excess := goodIn_r _ [33, 34, 35, 36, 37, 38, 39, 77, 78, 79] (by decide +kernel) (by decide +kernel)
set_option maxRecDepth 20000 in
theorem gX3_findGiver_X1_excess : GoodIn wsX3_findGiver (wsV RX3 158 RX1 yX1_excess wsX1_excess) := goodIn_app (goodIn_of _ (by decide +kernel)) ggX3_findGiver_X1_excess
set_option maxRecDepth 20000 in
theorem ggX3_findGiver_X3_findGetter : GoodIn wsX3_findGiver wsX3_findGetter := goodIn_r _ [43, 44, 2, 3, 4, 6, 7, 8, 9, 10, 11, 12, 13, 14, 15, 16, 17, 18, 19, 20, 21, 22, 23, 24, 25, 26, 27, 28, 45, 46, 47, 32, 48, 34, 49, 35, 36, 37, 38, 39, 80, 81, 82, 83, 84, 62, 63, 64, 65, 66, 67, 68, 69, 70, 71, 72, 73, 74, 75, 76, 77, 78, 79] (by decide +kernel) (by decide +kernel)
set_option maxRecDepth 20000 in
theorem gX3_findGiver_X3_findGetter : GoodIn wsX3_findGiver (va_wsS RX3 162 yX3_findGetter wsX3_findGetter) := goodIn_app (goodIn_of _ (by decide +kernel)) ggX3_findGiver_X3_findGetter
set_option maxRecDepth 20000 in
theorem ggX3_findGiver_X3_givesBefore : GoodIn wsX3_findGiver wsX3_givesBefore := goodIn_r _ [52, 4, 53, 3, 29, 30, 31, 32, 33, 34, 35, 36, 37, 38, 39, 62, 63, 64, 65, 66, 67, 68, 69, 70, 71, 72, 73, 77, 78, 79] (by decide +kernel) (by decide +kernel)
set_option maxRecDepth 20000 in
theorem gX3_findGiver_X3_givesBefore : GoodIn wsX3_findGiver (va_wsS RX3 166 yX3_givesBefore wsX3_givesBefore) := goodIn_app (goodIn_of _ (by decide +kernel)) ggX3_findGiver_X3_givesBefore
theorem dX3_findGiver_0 : decode cX3_findGiver 0 = .ok (.aconst_null, 1) := by decide +kernel
theorem dX3_findGiver_1 : decode cX3_findGiver 1 = .ok (.astore_n 1, 1) := by decide +kernel
theorem dX3_findGiver_2 : decode cX3_findGiver 2 = .ok (.iconst 0, 1) := by decide +kernel
theorem dX3_findGiver_3 : decode cX3_findGiver 3 = .ok (.istore_n 2, 1) := by decide +kernel
theorem dX3_findGiver_4 : decode cX3_findGiver 4 = .ok (.iload_n 2, 1) := by decide +kernel
theorem dX3_findGiver_5 : decode cX3_findGiver 5 = .ok (.aload_n 0, 1) := by decide +kernel
theorem dX3_findGiver_6 : decode cX3_findGiver 6 = .ok (.getfield 12, 3) := by decide +kernel
theorem dX3_findGiver_9 : decode cX3_findGiver 9 = .ok (.invokevirtual 46, 3) := by decide +kernel
theorem dX3_findGiver_12 : decode cX3_findGiver 12 = .ok (.if_icmp .ge 78, 3) := by decide +kernel
theorem dX3_findGiver_15 : decode cX3_findGiver 15 = .ok (.aload_n 0, 1) := by decide +kernel
theorem dX3_findGiver_16 : decode cX3_findGiver 16 = .ok (.getfield 12, 3) := by decide +kernel
theorem dX3_findGiver_19 : decode cX3_findGiver 19 = .ok (.iload_n 2, 1) := by decide +kernel
theorem dX3_findGiver_20 : decode cX3_findGiver 20 = .ok (.invokevirtual 109, 3) := by decide +kernel
theorem dX3_findGiver_23 : decode cX3_findGiver 23 = .ok (.checkcast 55, 3) := by decide +kernel
theorem dX3_findGiver_26 : decode cX3_findGiver 26 = .ok (.astore_n 3, 1) := by decide +kernel
theorem dX3_findGiver_27 : decode cX3_findGiver 27 = .ok (.aload_n 3, 1) := by decide +kernel
theorem dX3_findGiver_28 : decode cX3_findGiver 28 = .ok (.getfield 149, 3) := by decide +kernel
theorem dX3_findGiver_31 : decode cX3_findGiver 31 = .ok (.lconst 0, 1) := by decide +kernel
theorem dX3_findGiver_32 : decode cX3_findGiver 32 = .ok (.lcmp, 1) := by decide +kernel
theorem dX3_findGiver_33 : decode cX3_findGiver 33 = .ok (.ifCond .le 29, 3) := by decide +kernel
theorem dX3_findGiver_36 : decode cX3_findGiver 36 = .ok (.aload_n 3, 1) := by decide +kernel
theorem dX3_findGiver_37 : decode cX3_findGiver 37 = .ok (.getfield 145, 3) := by decide +kernel
theorem dX3_findGiver_40 : decode cX3_findGiver 40 = .ok (.invokevirtual 158, 3) := by decide +kernel
theorem dX3_findGiver_43 : decode cX3_findGiver 43 = .ok (.lconst 0, 1) := by decide +kernel
theorem dX3_findGiver_44 : decode cX3_findGiver 44 = .ok (.lcmp, 1) := by decide +kernel
theorem dX3_findGiver_45 : decode cX3_findGiver 45 = .ok (.ifCond .le 17, 3) := by decide +kernel
theorem dX3_findGiver_48 : decode cX3_findGiver 48 = .ok (.aload_n 3, 1) := by decide +kernel
theorem dX3_findGiver_49 : decode cX3_findGiver 49 = .ok (.getfield 64, 3) := by decide +kernel
theorem dX3_findGiver_52 : decode cX3_findGiver 52 = .ok (.invokestatic 162, 3) := by decide +kernel
theorem dX3_findGiver_55 : decode cX3_findGiver 55 = .ok (.ifnull 7, 3) := by decide +kernel
theorem dX3_findGiver_58 : decode cX3_findGiver 58 = .ok (.iconst 1, 1) := by decide +kernel
theorem dX3_findGiver_59 : decode cX3_findGiver 59 = .ok (.goto 4, 3) := by decide +kernel
theorem dX3_findGiver_62 : decode cX3_findGiver 62 = .ok (.iconst 0, 1) := by decide +kernel
theorem dX3_findGiver_63 : decode cX3_findGiver 63 = .ok (.istore 4, 2) := by decide +kernel
theorem dX3_findGiver_65 : decode cX3_findGiver 65 = .ok (.iload 4, 2) := by decide +kernel
theorem dX3_findGiver_67 : decode cX3_findGiver 67 = .ok (.ifCond .eq 17, 3) := by decide +kernel
theorem dX3_findGiver_70 : decode cX3_findGiver 70 = .ok (.aload_n 1, 1) := by decide +kernel
theorem dX3_findGiver_71 : decode cX3_findGiver 71 = .ok (.ifnull 11, 3) := by decide +kernel
theorem dX3_findGiver_74 : decode cX3_findGiver 74 = .ok (.aload_n 3, 1) := by decide +kernel
theorem dX3_findGiver_75 : decode cX3_findGiver 75 = .ok (.aload_n 1, 1) := by decide +kernel
theorem dX3_findGiver_76 : decode cX3_findGiver 76 = .ok (.invokestatic 166, 3) := by decide +kernel
theorem dX3_findGiver_79 : decode cX3_findGiver 79 = .ok (.ifCond .eq 5, 3) := by decide +kernel
theorem dX3_findGiver_82 : decode cX3_findGiver 82 = .ok (.aload_n 3, 1) := by decide +kernel
theorem dX3_findGiver_83 : decode cX3_findGiver 83 = .ok (.astore_n 1, 1) := by decide +kernel
theorem dX3_findGiver_84 : decode cX3_findGiver 84 = .ok (.iinc 2 1, 3) := by decide +kernel
theorem dX3_findGiver_87 : decode cX3_findGiver 87 = .ok (.goto (-83), 3) := by decide +kernel
theorem dX3_findGiver_90 : decode cX3_findGiver 90 = .ok (.aload_n 1, 1) := by decide +kernel
theorem dX3_findGiver_91 : decode cX3_findGiver 91 = .ok (.areturn, 1) := by decide +kernel
set_option maxRecDepth 20000 in
theorem ggX3_givesBefore_X1_excess : GoodIn wsX3_givesBefore wsX1_excess := goodIn_r _ [8, 9, 10, 11, 12, 13, 14, 27, 28, 29] (by decide +kernel) (by decide +kernel)
set_option maxRecDepth 20000 in
theorem gX3_givesBefore_X1_excess : GoodIn wsX3_givesBefore (wsV RX3 158 RX1 yX1_excess wsX1_excess) := goodIn_app (goodIn_of _ (by decide +kernel)) ggX3_givesBefore_X1_excess
theorem dX3_givesBefore_0 : decode cX3_givesBefore 0 = .ok (.aload_n 0, 1) := by decide +kernel
theorem dX3_givesBefore_1 : decode cX3_givesBefore 1 = .ok (.getfield 145, 3) := by decide +kernel
theorem dX3_givesBefore_4 : decode cX3_givesBefore 4 = .ok (.getfield 170, 3) := by decide +kernel
theorem dX3_givesBefore_7 : decode cX3_givesBefore 7 = .ok (.aload_n 1, 1) := by decide +kernel
theorem dX3_givesBefore_8 : decode cX3_givesBefore 8 = .ok (.getfield 145, 3) := by decide +kernel
theorem dX3_givesBefore_11 : decode cX3_givesBefore 11 = .ok (.getfield 170, 3) := by decide +kernel
theorem dX3_givesBefore_14 : decode cX3_givesBefore 14 = .ok (.if_icmp .ne 21, 3) := by decide +kernel
theorem dX3_givesBefore_17 : decode cX3_givesBefore 17 = .ok (.aload_n 0, 1) := by decide +kernel
theorem dX3_givesBefore_18 : decode cX3_givesBefore 18 = .ok (.getfield 149, 3) := by decide +kernel
theorem dX3_givesBefore_21 : decode cX3_givesBefore 21 = .ok (.aload_n 1, 1) := by decide +kernel
theorem dX3_givesBefore_22 : decode cX3_givesBefore 22 = .ok (.getfield 149, 3) := by decide +kernel
theorem dX3_givesBefore_25 : decode cX3_givesBefore 25 = .ok (.lcmp, 1) := by decide +kernel
theorem dX3_givesBefore_26 : decode cX3_givesBefore 26 = .ok (.ifCond .le 7, 3) := by decide +kernel
theorem dX3_givesBefore_29 : decode cX3_givesBefore 29 = .ok (.iconst 1, 1) := by decide +kernel
theorem dX3_givesBefore_30 : decode cX3_givesBefore 30 = .ok (.goto 4, 3) := by decide +kernel
theorem dX3_givesBefore_33 : decode cX3_givesBefore 33 = .ok (.iconst 0, 1) := by decide +kernel
theorem dX3_givesBefore_34 : decode cX3_givesBefore 34 = .ok (.ireturn, 1) := by decide +kernel
theorem dX3_givesBefore_35 : decode cX3_givesBefore 35 = .ok (.aload_n 0, 1) := by decide +kernel
theorem dX3_givesBefore_36 : decode cX3_givesBefore 36 = .ok (.getfield 145, 3) := by decide +kernel
theorem dX3_givesBefore_39 : decode cX3_givesBefore 39 = .ok (.invokevirtual 158, 3) := by decide +kernel
theorem dX3_givesBefore_42 : decode cX3_givesBefore 42 = .ok (.aload_n 1, 1) := by decide +kernel
theorem dX3_givesBefore_43 : decode cX3_givesBefore 43 = .ok (.getfield 145, 3) := by decide +kernel
theorem dX3_givesBefore_46 : decode cX3_givesBefore 46 = .ok (.invokevirtual 158, 3) := by decide +kernel
theorem dX3_givesBefore_49 : decode cX3_givesBefore 49 = .ok (.lcmp, 1) := by decide +kernel
theorem dX3_givesBefore_50 : decode cX3_givesBefore 50 = .ok (.ifCond .eq 27, 3) := by decide +kernel
theorem dX3_givesBefore_53 : decode cX3_givesBefore 53 = .ok (.aload_n 0, 1) := by decide +kernel
theorem dX3_givesBefore_54 : decode cX3_givesBefore 54 = .ok (.getfield 145, 3) := by decide +kernel
theorem dX3_givesBefore_57 : decode cX3_givesBefore 57 = .ok (.invokevirtual 158, 3) := by decide +kernel
theorem dX3_givesBefore_60 : decode cX3_givesBefore 60 = .ok (.aload_n 1, 1) := by decide +kernel
theorem dX3_givesBefore_61 : decode cX3_givesBefore 61 = .ok (.getfield 145, 3) := by decide +kernel
theorem dX3_givesBefore_64 : decode cX3_givesBefore 64 = .ok (.invokevirtual 158, 3) := by decide +kernel
theorem dX3_givesBefore_67 : decode cX3_givesBefore 67 = .ok (.lcmp, 1) := by decide +kernel
theorem dX3_givesBefore_68 : decode cX3_givesBefore 68 = .ok (.ifCond .le 7, 3) := by decide +kernel
theorem dX3_givesBefore_71 : decode cX3_givesBefore 71 = .ok (.iconst 1, 1) := by decide +kernel
theorem dX3_givesBefore_72 : decode cX3_givesBefore 72 = .ok (.goto 4, 3) := by decide +kernel
theorem dX3_givesBefore_75 : decode cX3_givesBefore 75 = .ok (.iconst 0, 1) := by decide +kernel
theorem dX3_givesBefore_76 : decode cX3_givesBefore 76 = .ok (.ireturn, 1) := by decide +kernel
theorem dX3_givesBefore_77 : decode cX3_givesBefore 77 = .ok (.aload_n 0, 1) := by decide +kernel
theorem dX3_givesBefore_78 : decode cX3_givesBefore 78 = .ok (.getfield 145, 3) := by decide +kernel
theorem dX3_givesBefore_81 : decode cX3_givesBefore 81 = .ok (.getfield 170, 3) := by decide +kernel
theorem dX3_givesBefore_84 : decode cX3_givesBefore 84 = .ok (.aload_n 1, 1) := by decide +kernel
theorem dX3_givesBefore_85 : decode cX3_givesBefore 85 = .ok (.getfield 145, 3) := by decide +kernel
theorem dX3_givesBefore_88 : decode cX3_givesBefore 88 = .ok (.getfield 170, 3) := by decide +kernel
theorem dX3_givesBefore_91 : decode cX3_givesBefore 91 = .ok (.if_icmp .ge 7, 3) := by decide +kernel
theorem dX3_givesBefore_94 : decode cX3_givesBefore 94 = .ok (.iconst 1, 1) := by decide +kernel
theorem dX3_givesBefore_95 : decode cX3_givesBefore 95 = .ok (.goto 4, 3) := by decide +kernel
theorem dX3_givesBefore_98 : decode cX3_givesBefore 98 = .ok (.iconst 0, 1) := by decide +kernel
theorem dX3_givesBefore_99 : decode cX3_givesBefore 99 = .ok (.ireturn, 1) := by decide +kernel
set_option maxRecDepth 20000 in
theorem ggX3_findGetter_Jx4a65c_size_8abf5 : GoodIn wsX3_findGetter wsJx4a65c_size_8abf5 := goodIn_r _ [9, 10, 57, 58, 59] (by decide +kernel) (by decide +kernel)
set_option maxRecDepth 20000 in
theorem gX3_findGetter_Jx4a65c_size_8abf5 : GoodIn wsX3_findGetter (wsV RX3 46 RJx4a65c yJx4a65c_size_8abf5 wsJx4a65c_size_8abf5) := goodIn_app (goodIn_of _ (by decide +kernel)) ggX3_findGetter_Jx4a65c_size_8abf5
set_option maxRecDepth 20000 in
theorem ggX3_findGetter_Jx4a65c_get_915e3 : GoodIn wsX3_findGetter wsJx4a65c_get_915e3 := goodIn_r _ [14, 10, 15, 16, 17, 18, 19, 20, 21, 22, 23, 24, 25, 8, 26, 27, 57, 58, 59] (by decide +kernel) (by decide +kernel)
set_option maxRecDepth 20000 in
theorem gX3_findGetter_Jx4a65c_get_915e3 : GoodIn wsX3_findGetter (wsV RX3 109 RJx4a65c yJx4a65c_get_915e3 wsJx4a65c_get_915e3) := goodIn_app (goodIn_of _ (by decide +kernel)) ggX3_findGetter_Jx4a65c_get_915e3
set_option maxRecDepth 20000 in
theorem ggX3_findGetter_X1_room : GoodIn wsX3_findGetter wsX1_room := goodIn_r _ [32, 33, 34, 35, 36, 37, 38, 39, 60, 61, 62] (by decide +kernel) (by decide +kernel)
set_option maxRecDepth 20000 in
theorem gX3_findGetter_X1_room : GoodIn wsX3_findGetter (wsV RX3 173 RX1 yX1_room wsX1_room) := goodIn_app (goodIn_of _ (by decide +kernel)) ggX3_findGetter_X1_room
theorem dX3_findGetter_0 : decode cX3_findGetter 0 = .ok (.aconst_null, 1) := by decide +kernel
theorem dX3_findGetter_1 : decode cX3_findGetter 1 = .ok (.astore_n 1, 1) := by decide +kernel
theorem dX3_findGetter_2 : decode cX3_findGetter 2 = .ok (.iconst 0, 1) := by decide +kernel
theorem dX3_findGetter_3 : decode cX3_findGetter 3 = .ok (.istore_n 2, 1) := by decide +kernel
theorem dX3_findGetter_4 : decode cX3_findGetter 4 = .ok (.iload_n 2, 1) := by decide +kernel
theorem dX3_findGetter_5 : decode cX3_findGetter 5 = .ok (.aload_n 0, 1) := by decide +kernel
theorem dX3_findGetter_6 : decode cX3_findGetter 6 = .ok (.getfield 71, 3) := by decide +kernel
theorem dX3_findGetter_9 : decode cX3_findGetter 9 = .ok (.invokevirtual 46, 3) := by decide +kernel
theorem dX3_findGetter_12 : decode cX3_findGetter 12 = .ok (.if_icmp .ge 78, 3) := by decide +kernel
theorem dX3_findGetter_15 : decode cX3_findGetter 15 = .ok (.aload_n 0, 1) := by decide +kernel
theorem dX3_findGetter_16 : decode cX3_findGetter 16 = .ok (.getfield 71, 3) := by decide +kernel
theorem dX3_findGetter_19 : decode cX3_findGetter 19 = .ok (.iload_n 2, 1) := by decide +kernel
theorem dX3_findGetter_20 : decode cX3_findGetter 20 = .ok (.invokevirtual 109, 3) := by decide +kernel
theorem dX3_findGetter_23 : decode cX3_findGetter 23 = .ok (.checkcast 55, 3) := by decide +kernel
theorem dX3_findGetter_26 : decode cX3_findGetter 26 = .ok (.astore_n 3, 1) := by decide +kernel
theorem dX3_findGetter_27 : decode cX3_findGetter 27 = .ok (.aload_n 3, 1) := by decide +kernel
theorem dX3_findGetter_28 : decode cX3_findGetter 28 = .ok (.getfield 149, 3) := by decide +kernel
theorem dX3_findGetter_31 : decode cX3_findGetter 31 = .ok (.lconst 0, 1) := by decide +kernel
theorem dX3_findGetter_32 : decode cX3_findGetter 32 = .ok (.lcmp, 1) := by decide +kernel
theorem dX3_findGetter_33 : decode cX3_findGetter 33 = .ok (.ifCond .lt 19, 3) := by decide +kernel
theorem dX3_findGetter_36 : decode cX3_findGetter 36 = .ok (.aload_n 3, 1) := by decide +kernel
theorem dX3_findGetter_37 : decode cX3_findGetter 37 = .ok (.getfield 145, 3) := by decide +kernel
theorem dX3_findGetter_40 : decode cX3_findGetter 40 = .ok (.invokevirtual 173, 3) := by decide +kernel
theorem dX3_findGetter_43 : decode cX3_findGetter 43 = .ok (.lconst 0, 1) := by decide +kernel
theorem dX3_findGetter_44 : decode cX3_findGetter 44 = .ok (.lcmp, 1) := by decide +kernel
theorem dX3_findGetter_45 : decode cX3_findGetter 45 = .ok (.ifCond .le 7, 3) := by decide +kernel
theorem dX3_findGetter_48 : decode cX3_findGetter 48 = .ok (.iconst 1, 1) := by decide +kernel
theorem dX3_findGetter_49 : decode cX3_findGetter 49 = .ok (.goto 4, 3) := by decide +kernel
theorem dX3_findGetter_52 : decode cX3_findGetter 52 = .ok (.iconst 0, 1) := by decide +kernel
theorem dX3_findGetter_53 : decode cX3_findGetter 53 = .ok (.istore 4, 2) := by decide +kernel
theorem dX3_findGetter_55 : decode cX3_findGetter 55 = .ok (.iload 4, 2) := by decide +kernel
theorem dX3_findGetter_57 : decode cX3_findGetter 57 = .ok (.ifCond .eq 27, 3) := by decide +kernel
theorem dX3_findGetter_60 : decode cX3_findGetter 60 = .ok (.aload_n 1, 1) := by decide +kernel
theorem dX3_findGetter_61 : decode cX3_findGetter 61 = .ok (.ifnull 21, 3) := by decide +kernel
theorem dX3_findGetter_64 : decode cX3_findGetter 64 = .ok (.aload_n 3, 1) := by decide +kernel
theorem dX3_findGetter_65 : decode cX3_findGetter 65 = .ok (.getfield 145, 3) := by decide +kernel
theorem dX3_findGetter_68 : decode cX3_findGetter 68 = .ok (.invokevirtual 173, 3) := by decide +kernel
theorem dX3_findGetter_71 : decode cX3_findGetter 71 = .ok (.aload_n 1, 1) := by decide +kernel
theorem dX3_findGetter_72 : decode cX3_findGetter 72 = .ok (.getfield 145, 3) := by decide +kernel
theorem dX3_findGetter_75 : decode cX3_findGetter 75 = .ok (.invokevirtual 173, 3) := by decide +kernel
theorem dX3_findGetter_78 : decode cX3_findGetter 78 = .ok (.lcmp, 1) := by decide +kernel
theorem dX3_findGetter_79 : decode cX3_findGetter 79 = .ok (.ifCond .le 5, 3) := by decide +kernel
theorem dX3_findGetter_82 : decode cX3_findGetter 82 = .ok (.aload_n 3, 1) := by decide +kernel
theorem dX3_findGetter_83 : decode cX3_findGetter 83 = .ok (.astore_n 1, 1) := by decide +kernel
theorem dX3_findGetter_84 : decode cX3_findGetter 84 = .ok (.iinc 2 1, 3) := by decide +kernel
theorem dX3_findGetter_87 : decode cX3_findGetter 87 = .ok (.goto (-83), 3) := by decide +kernel
theorem dX3_findGetter_90 : decode cX3_findGetter 90 = .ok (.aload_n 1, 1) := by decide +kernel
theorem dX3_findGetter_91 : decode cX3_findGetter 91 = .ok (.areturn, 1) := by decide +kernel
set_option maxRecDepth 20000 in
theorem ggX3_moveAway_X3_findGetter : GoodIn wsX3_moveAway wsX3_findGetter := goodIn_r _ [11, 12, 13, 2, 3, 14, 15, 16, 17, 18, 19, 20, 21, 22, 23, 24, 25, 26, 27, 28, 29, 30, 31, 32, 33, 34, 35, 36, 37, 38, 39, 40, 41, 42, 43, 44, 45, 46, 6, 47, 64, 65, 66, 67, 68, 52, 53, 54, 55, 56, 57, 58, 59, 60, 61, 62, 63, 69, 70, 71, 72, 73, 74] (by decide +kernel) (by decide +kernel)
set_option maxRecDepth 20000 in
theorem gX3_moveAway_X3_findGetter : GoodIn wsX3_moveAway (va_wsS RX3 162 yX3_findGetter wsX3_findGetter) := goodIn_app (goodIn_of _ (by decide +kernel)) ggX3_moveAway_X3_findGetter
set_option maxRecDepth 20000 in
theorem ggX3_moveAway_X1_room : GoodIn wsX3_moveAway wsX1_room := goodIn_r _ [41, 42, 43, 44, 45, 46, 6, 47, 72, 73, 74] (by decide +kernel) (by decide +kernel)
set_option maxRecDepth 20000 in
theorem gX3_moveAway_X1_room : GoodIn wsX3_moveAway (wsV RX3 173 RX1 yX1_room wsX1_room) := goodIn_app (goodIn_of _ (by decide +kernel)) ggX3_moveAway_X1_room
set_option maxRecDepth 20000 in
theorem ggX3_moveAway_X1_excess : GoodIn wsX3_moveAway wsX1_excess := goodIn_r _ [51, 42, 44, 45, 46, 6, 47, 72, 73, 74] (by decide +kernel) (by decide +kernel)
set_option maxRecDepth 20000 in
theorem gX3_moveAway_X1_excess : GoodIn wsX3_moveAway (wsV RX3 158 RX1 yX1_excess wsX1_excess) := goodIn_app (goodIn_of _ (by decide +kernel)) ggX3_moveAway_X1_excess
theorem dX3_moveAway_0 : decode cX3_moveAway 0 = .ok (.aload_n 0, 1) := by decide +kernel
theorem dX3_moveAway_1 : decode cX3_moveAway 1 = .ok (.getfield 64, 3) := by decide +kernel
theorem dX3_moveAway_4 : decode cX3_moveAway 4 = .ok (.invokestatic 162, 3) := by decide +kernel
theorem dX3_moveAway_7 : decode cX3_moveAway 7 = .ok (.astore_n 1, 1) := by decide +kernel
theorem dX3_moveAway_8 : decode cX3_moveAway 8 = .ok (.aload_n 1, 1) := by decide +kernel
theorem dX3_moveAway_9 : decode cX3_moveAway 9 = .ok (.ifnonnull 5, 3) := by decide +kernel
theorem dX3_moveAway_12 : decode cX3_moveAway 12 = .ok (.iconst 0, 1) := by decide +kernel
theorem dX3_moveAway_13 : decode cX3_moveAway 13 = .ok (.ireturn, 1) := by decide +kernel
theorem dX3_moveAway_14 : decode cX3_moveAway 14 = .ok (.aload_n 0, 1) := by decide +kernel
theorem dX3_moveAway_15 : decode cX3_moveAway 15 = .ok (.getfield 149, 3) := by decide +kernel
theorem dX3_moveAway_18 : decode cX3_moveAway 18 = .ok (.aload_n 1, 1) := by decide +kernel
theorem dX3_moveAway_19 : decode cX3_moveAway 19 = .ok (.getfield 145, 3) := by decide +kernel
theorem dX3_moveAway_22 : decode cX3_moveAway 22 = .ok (.invokevirtual 173, 3) := by decide +kernel
theorem dX3_moveAway_25 : decode cX3_moveAway 25 = .ok (.invokestatic 176, 3) := by decide +kernel
theorem dX3_moveAway_28 : decode cX3_moveAway 28 = .ok (.lstore_n 2, 1) := by decide +kernel
theorem dX3_moveAway_29 : decode cX3_moveAway 29 = .ok (.aload_n 0, 1) := by decide +kernel
theorem dX3_moveAway_30 : decode cX3_moveAway 30 = .ok (.getfield 145, 3) := by decide +kernel
theorem dX3_moveAway_33 : decode cX3_moveAway 33 = .ok (.invokevirtual 158, 3) := by decide +kernel
theorem dX3_moveAway_36 : decode cX3_moveAway 36 = .ok (.lload_n 2, 1) := by decide +kernel
theorem dX3_moveAway_37 : decode cX3_moveAway 37 = .ok (.invokestatic 176, 3) := by decide +kernel
theorem dX3_moveAway_40 : decode cX3_moveAway 40 = .ok (.lstore 4, 2) := by decide +kernel
theorem dX3_moveAway_42 : decode cX3_moveAway 42 = .ok (.aload_n 0, 1) := by decide +kernel
theorem dX3_moveAway_43 : decode cX3_moveAway 43 = .ok (.dup, 1) := by decide +kernel
theorem dX3_moveAway_44 : decode cX3_moveAway 44 = .ok (.getfield 149, 3) := by decide +kernel
theorem dX3_moveAway_47 : decode cX3_moveAway 47 = .ok (.lload 4, 2) := by decide +kernel
theorem dX3_moveAway_49 : decode cX3_moveAway 49 = .ok (.lsub, 1) := by decide +kernel
theorem dX3_moveAway_50 : decode cX3_moveAway 50 = .ok (.putfield 149, 3) := by decide +kernel
theorem dX3_moveAway_53 : decode cX3_moveAway 53 = .ok (.aload_n 1, 1) := by decide +kernel
theorem dX3_moveAway_54 : decode cX3_moveAway 54 = .ok (.dup, 1) := by decide +kernel
theorem dX3_moveAway_55 : decode cX3_moveAway 55 = .ok (.getfield 149, 3) := by decide +kernel
theorem dX3_moveAway_58 : decode cX3_moveAway 58 = .ok (.lload 4, 2) := by decide +kernel
theorem dX3_moveAway_60 : decode cX3_moveAway 60 = .ok (.ladd, 1) := by decide +kernel
theorem dX3_moveAway_61 : decode cX3_moveAway 61 = .ok (.putfield 149, 3) := by decide +kernel
theorem dX3_moveAway_64 : decode cX3_moveAway 64 = .ok (.iconst 1, 1) := by decide +kernel
theorem dX3_moveAway_65 : decode cX3_moveAway 65 = .ok (.ireturn, 1) := by decide +kernel
set_option maxRecDepth 20000 in
theorem ggX3_accrueInterest_Jx4a65c_size_8abf5 : GoodIn wsX3_accrueInterest wsJx4a65c_size_8abf5 := goodIn_r _ [10, 11, 86, 87, 88] (by decide +kernel) (by decide +kernel)
set_option maxRecDepth 20000 in
theorem gX3_accrueInterest_Jx4a65c_size_8abf5 : GoodIn wsX3_accrueInterest (wsV RX3 46 RJx4a65c yJx4a65c_size_8abf5 wsJx4a65c_size_8abf5) := goodIn_app (goodIn_of _ (by decide +kernel)) ggX3_accrueInterest_Jx4a65c_size_8abf5
set_option maxRecDepth 20000 in
theorem ggX3_accrueInterest_Jx4a65c_get_915e3 : GoodIn wsX3_accrueInterest wsJx4a65c_get_915e3 := goodIn_r _ [15, 11, 16, 17, 18, 19, 20, 21, 22, 23, 24, 25, 26, 9, 27, 28, 86, 87, 88] (by decide +kernel) (by decide +kernel)
set_option maxRecDepth 20000 in
theorem gX3_accrueInterest_Jx4a65c_get_915e3 : GoodIn wsX3_accrueInterest (wsV RX3 109 RJx4a65c yJx4a65c_get_915e3 wsJx4a65c_get_915e3) := goodIn_app (goodIn_of _ (by decide +kernel)) ggX3_accrueInterest_Jx4a65c_get_915e3
set_option maxRecDepth 20000 in
theorem ggX3_accrueInterest_X6_accrue : GoodIn wsX3_accrueInterest wsX6_accrue := goodIn_r _ [33, 34, 35, 36, 37, 38, 39, 7, 8, 9, 10, 11, 40, 13, 14, 15, 16, 17, 18, 19, 20, 21, 22, 23, 24, 25, 26, 27, 28, 41, 42, 43, 44, 45, 46, 47, 48, 49, 50, 51, 52, 53, 54, 55, 56, 57, 89, 90, 91, 92, 93, 74, 75, 76, 77, 78, 79, 80, 81, 82, 83, 84, 85, 86, 87, 88, 94, 95, 96, 97, 98, 99, 100, 101, 102, 103] (by decide +kernel) (by decide +kernel)
set_option maxRecDepth 20000 in
theorem gX3_accrueInterest_X6_accrue : GoodIn wsX3_accrueInterest (wsV RX3 179 RX6 yX6_accrue wsX6_accrue) := goodIn_app (goodIn_of _ (by decide +kernel)) ggX3_accrueInterest_X6_accrue
set_option maxRecDepth 20000 in
theorem ggX3_accrueInterest_X5_accrue : GoodIn wsX3_accrueInterest wsX5_accrue := goodIn_r _ [62, 63, 64, 65, 104, 105, 106, 107, 108, 109, 110, 111, 112] (by decide +kernel) (by decide +kernel)
set_option maxRecDepth 20000 in
theorem gX3_accrueInterest_X5_accrue : GoodIn wsX3_accrueInterest (wsV RX3 182 RX5 yX5_accrue wsX5_accrue) := goodIn_app (goodIn_of _ (by decide +kernel)) ggX3_accrueInterest_X5_accrue
theorem dX3_accrueInterest_0 : decode cX3_accrueInterest 0 = .ok (.iconst 0, 1) := by decide +kernel
theorem dX3_accrueInterest_1 : decode cX3_accrueInterest 1 = .ok (.istore_n 1, 1) := by decide +kernel
theorem dX3_accrueInterest_2 : decode cX3_accrueInterest 2 = .ok (.iload_n 1, 1) := by decide +kernel
theorem dX3_accrueInterest_3 : decode cX3_accrueInterest 3 = .ok (.aload_n 0, 1) := by decide +kernel
theorem dX3_accrueInterest_4 : decode cX3_accrueInterest 4 = .ok (.getfield 18, 3) := by decide +kernel
theorem dX3_accrueInterest_7 : decode cX3_accrueInterest 7 = .ok (.invokevirtual 46, 3) := by decide +kernel
theorem dX3_accrueInterest_10 : decode cX3_accrueInterest 10 = .ok (.if_icmp .ge 26, 3) := by decide +kernel
theorem dX3_accrueInterest_13 : decode cX3_accrueInterest 13 = .ok (.aload_n 0, 1) := by decide +kernel
theorem dX3_accrueInterest_14 : decode cX3_accrueInterest 14 = .ok (.getfield 18, 3) := by decide +kernel
theorem dX3_accrueInterest_17 : decode cX3_accrueInterest 17 = .ok (.iload_n 1, 1) := by decide +kernel
theorem dX3_accrueInterest_18 : decode cX3_accrueInterest 18 = .ok (.invokevirtual 109, 3) := by decide +kernel
theorem dX3_accrueInterest_21 : decode cX3_accrueInterest 21 = .ok (.checkcast 55, 3) := by decide +kernel
theorem dX3_accrueInterest_24 : decode cX3_accrueInterest 24 = .ok (.getfield 64, 3) := by decide +kernel
theorem dX3_accrueInterest_27 : decode cX3_accrueInterest 27 = .ok (.invokevirtual 179, 3) := by decide +kernel
theorem dX3_accrueInterest_30 : decode cX3_accrueInterest 30 = .ok (.iinc 1 1, 3) := by decide +kernel
theorem dX3_accrueInterest_33 : decode cX3_accrueInterest 33 = .ok (.goto (-31), 3) := by decide +kernel
theorem dX3_accrueInterest_36 : decode cX3_accrueInterest 36 = .ok (.iconst 0, 1) := by decide +kernel
theorem dX3_accrueInterest_37 : decode cX3_accrueInterest 37 = .ok (.istore_n 1, 1) := by decide +kernel
theorem dX3_accrueInterest_38 : decode cX3_accrueInterest 38 = .ok (.iload_n 1, 1) := by decide +kernel
theorem dX3_accrueInterest_39 : decode cX3_accrueInterest 39 = .ok (.aload_n 0, 1) := by decide +kernel
theorem dX3_accrueInterest_40 : decode cX3_accrueInterest 40 = .ok (.getfield 21, 3) := by decide +kernel
theorem dX3_accrueInterest_43 : decode cX3_accrueInterest 43 = .ok (.invokevirtual 46, 3) := by decide +kernel
theorem dX3_accrueInterest_46 : decode cX3_accrueInterest 46 = .ok (.if_icmp .ge 23, 3) := by decide +kernel
theorem dX3_accrueInterest_49 : decode cX3_accrueInterest 49 = .ok (.aload_n 0, 1) := by decide +kernel
theorem dX3_accrueInterest_50 : decode cX3_accrueInterest 50 = .ok (.getfield 21, 3) := by decide +kernel
theorem dX3_accrueInterest_53 : decode cX3_accrueInterest 53 = .ok (.iload_n 1, 1) := by decide +kernel
theorem dX3_accrueInterest_54 : decode cX3_accrueInterest 54 = .ok (.invokevirtual 109, 3) := by decide +kernel
theorem dX3_accrueInterest_57 : decode cX3_accrueInterest 57 = .ok (.checkcast 74, 3) := by decide +kernel
theorem dX3_accrueInterest_60 : decode cX3_accrueInterest 60 = .ok (.invokevirtual 182, 3) := by decide +kernel
theorem dX3_accrueInterest_63 : decode cX3_accrueInterest 63 = .ok (.iinc 1 1, 3) := by decide +kernel
theorem dX3_accrueInterest_66 : decode cX3_accrueInterest 66 = .ok (.goto (-28), 3) := by decide +kernel
theorem dX3_accrueInterest_69 : decode cX3_accrueInterest 69 = .ok (.return_, 1) := by decide +kernel
set_option maxRecDepth 20000 in
theorem ggX3_bookInterest_Jx4a65c_size_8abf5 : GoodIn wsX3_bookInterest wsJx4a65c_size_8abf5 := goodIn_r _ [10, 11, 98, 99, 100] (by decide +kernel) (by decide +kernel)
set_option maxRecDepth 20000 in
theorem gX3_bookInterest_Jx4a65c_size_8abf5 : GoodIn wsX3_bookInterest (wsV RX3 46 RJx4a65c yJx4a65c_size_8abf5 wsJx4a65c_size_8abf5) := goodIn_app (goodIn_of _ (by decide +kernel)) ggX3_bookInterest_Jx4a65c_size_8abf5
set_option maxRecDepth 20000 in
theorem ggX3_bookInterest_Jx4a65c_get_915e3 : GoodIn wsX3_bookInterest wsJx4a65c_get_915e3 := goodIn_r _ [15, 11, 16, 17, 18, 19, 20, 21, 22, 23, 24, 25, 26, 9, 27, 28, 98, 99, 100] (by decide +kernel) (by decide +kernel)
set_option maxRecDepth 20000 in
theorem gX3_bookInterest_Jx4a65c_get_915e3 : GoodIn wsX3_bookInterest (wsV RX3 109 RJx4a65c yJx4a65c_get_915e3 wsJx4a65c_get_915e3) := goodIn_app (goodIn_of _ (by decide +kernel)) ggX3_bookInterest_Jx4a65c_get_915e3
set_option maxRecDepth 20000 in
theorem ggX3_bookInterest_X6_bookInterest : GoodIn wsX3_bookInterest wsX6_bookInterest := goodIn_r _ [33, 34, 35, 36, 37, 38, 39, 40, 41, 42, 43, 44, 45, 46, 47, 48, 49, 50, 51, 52, 53, 54, 55, 56, 57, 58, 59, 7, 8, 9, 10, 11, 60, 13, 14, 15, 16, 17, 18, 19, 20, 21, 22, 23, 24, 25, 26, 27, 28, 61, 62, 63, 64, 65, 66, 67, 101, 102, 103, 104, 105, 106, 107, 108, 109, 110, 111, 112, 113, 114, 115, 98, 99, 100, 86, 87, 88, 89, 90, 91, 92, 93, 94, 95, 96, 97] (by decide +kernel) (by decide +kernel)
set_option maxRecDepth 20000 in
theorem gX3_bookInterest_X6_bookInterest : GoodIn wsX3_bookInterest (wsV RX3 183 RX6 yX6_bookInterest wsX6_bookInterest) := goodIn_app (goodIn_of _ (by decide +kernel)) ggX3_bookInterest_X6_bookInterest
set_option maxRecDepth 20000 in
theorem ggX3_bookInterest_X5_bookInterest : GoodIn wsX3_bookInterest wsX5_bookInterest := goodIn_r _ [72, 73, 74, 75, 76, 77, 116, 117, 118, 119, 120, 121, 122, 123, 124, 86, 87, 88, 89, 90, 91, 92, 93, 94, 95, 96, 97] (by decide +kernel) (by decide +kernel)
set_option maxRecDepth 20000 in
theorem gX3_bookInterest_X5_bookInterest : GoodIn wsX3_bookInterest (wsV RX3 184 RX5 yX5_bookInterest wsX5_bookInterest) := goodIn_app (goodIn_of _ (by decide +kernel)) ggX3_bookInterest_X5_bookInterest
theorem dX3_bookInterest_0 : decode cX3_bookInterest 0 = .ok (.iconst 0, 1) := by decide +kernel
theorem dX3_bookInterest_1 : decode cX3_bookInterest 1 = .ok (.istore_n 1, 1) := by decide +kernel
theorem dX3_bookInterest_2 : decode cX3_bookInterest 2 = .ok (.iload_n 1, 1) := by decide +kernel
theorem dX3_bookInterest_3 : decode cX3_bookInterest 3 = .ok (.aload_n 0, 1) := by decide +kernel
theorem dX3_bookInterest_4 : decode cX3_bookInterest 4 = .ok (.getfield 18, 3) := by decide +kernel
theorem dX3_bookInterest_7 : decode cX3_bookInterest 7 = .ok (.invokevirtual 46, 3) := by decide +kernel
theorem dX3_bookInterest_10 : decode cX3_bookInterest 10 = .ok (.if_icmp .ge 26, 3) := by decide +kernel
theorem dX3_bookInterest_13 : decode cX3_bookInterest 13 = .ok (.aload_n 0, 1) := by decide +kernel
theorem dX3_bookInterest_14 : decode cX3_bookInterest 14 = .ok (.getfield 18, 3) := by decide +kernel
theorem dX3_bookInterest_17 : decode cX3_bookInterest 17 = .ok (.iload_n 1, 1) := by decide +kernel
theorem dX3_bookInterest_18 : decode cX3_bookInterest 18 = .ok (.invokevirtual 109, 3) := by decide +kernel
theorem dX3_bookInterest_21 : decode cX3_bookInterest 21 = .ok (.checkcast 55, 3) := by decide +kernel
theorem dX3_bookInterest_24 : decode cX3_bookInterest 24 = .ok (.getfield 64, 3) := by decide +kernel
theorem dX3_bookInterest_27 : decode cX3_bookInterest 27 = .ok (.invokevirtual 183, 3) := by decide +kernel
theorem dX3_bookInterest_30 : decode cX3_bookInterest 30 = .ok (.iinc 1 1, 3) := by decide +kernel
theorem dX3_bookInterest_33 : decode cX3_bookInterest 33 = .ok (.goto (-31), 3) := by decide +kernel
theorem dX3_bookInterest_36 : decode cX3_bookInterest 36 = .ok (.iconst 0, 1) := by decide +kernel
theorem dX3_bookInterest_37 : decode cX3_bookInterest 37 = .ok (.istore_n 1, 1) := by decide +kernel
theorem dX3_bookInterest_38 : decode cX3_bookInterest 38 = .ok (.iload_n 1, 1) := by decide +kernel
theorem dX3_bookInterest_39 : decode cX3_bookInterest 39 = .ok (.aload_n 0, 1) := by decide +kernel
theorem dX3_bookInterest_40 : decode cX3_bookInterest 40 = .ok (.getfield 21, 3) := by decide +kernel
theorem dX3_bookInterest_43 : decode cX3_bookInterest 43 = .ok (.invokevirtual 46, 3) := by decide +kernel
theorem dX3_bookInterest_46 : decode cX3_bookInterest 46 = .ok (.if_icmp .ge 23, 3) := by decide +kernel
theorem dX3_bookInterest_49 : decode cX3_bookInterest 49 = .ok (.aload_n 0, 1) := by decide +kernel
theorem dX3_bookInterest_50 : decode cX3_bookInterest 50 = .ok (.getfield 21, 3) := by decide +kernel
theorem dX3_bookInterest_53 : decode cX3_bookInterest 53 = .ok (.iload_n 1, 1) := by decide +kernel
theorem dX3_bookInterest_54 : decode cX3_bookInterest 54 = .ok (.invokevirtual 109, 3) := by decide +kernel
theorem dX3_bookInterest_57 : decode cX3_bookInterest 57 = .ok (.checkcast 74, 3) := by decide +kernel
theorem dX3_bookInterest_60 : decode cX3_bookInterest 60 = .ok (.invokevirtual 184, 3) := by decide +kernel
theorem dX3_bookInterest_63 : decode cX3_bookInterest 63 = .ok (.iinc 1 1, 3) := by decide +kernel
theorem dX3_bookInterest_66 : decode cX3_bookInterest 66 = .ok (.goto (-28), 3) := by decide +kernel
theorem dX3_bookInterest_69 : decode cX3_bookInterest 69 = .ok (.return_, 1) := by decide +kernel
set_option maxRecDepth 20000 in
theorem ggX3_sumOfFlows_Jx4a65c_size_8abf5 : GoodIn wsX3_sumOfFlows wsJx4a65c_size_8abf5 := goodIn_r _ [9, 10, 62, 63, 64] (by decide +kernel) (by decide +kernel)
set_option maxRecDepth 20000 in
theorem gX3_sumOfFlows_Jx4a65c_size_8abf5 : GoodIn wsX3_sumOfFlows (wsV RX3 46 RJx4a65c yJx4a65c_size_8abf5 wsJx4a65c_size_8abf5) := goodIn_app (goodIn_of _ (by decide +kernel)) ggX3_sumOfFlows_Jx4a65c_size_8abf5
set_option maxRecDepth 20000 in
theorem ggX3_sumOfFlows_Jx4a65c_get_915e3 : GoodIn wsX3_sumOfFlows wsJx4a65c_get_915e3 := goodIn_r _ [14, 10, 15, 16, 17, 18, 19, 20, 21, 22, 23, 24, 25, 8, 26, 27, 62, 63, 64] (by decide +kernel) (by decide +kernel)
set_option maxRecDepth 20000 in
theorem gX3_sumOfFlows_Jx4a65c_get_915e3 : GoodIn wsX3_sumOfFlows (wsV RX3 109 RJx4a65c yJx4a65c_get_915e3 wsJx4a65c_get_915e3) := goodIn_app (goodIn_of _ (by decide +kernel)) ggX3_sumOfFlows_Jx4a65c_get_915e3
set_option maxRecDepth 20000 in
theorem ggX3_sumOfFlows_X4_sumWithin : GoodIn wsX3_sumOfFlows wsX4_sumWithin := goodIn_r _ [32, 33, 34, 35, 36, 37, 38, 39, 40, 41, 42, 43, 44, 45, 46, 55, 56, 57, 58, 59, 60, 61, 65] (by decide +kernel) (by decide +kernel)
set_option maxRecDepth 20000 in
theorem gX3_sumOfFlows_X4_sumWithin : GoodIn wsX3_sumOfFlows (wsV RX3 189 RX4 yX4_sumWithin wsX4_sumWithin) := goodIn_app (goodIn_of _ (by decide +kernel)) ggX3_sumOfFlows_X4_sumWithin
theorem dX3_sumOfFlows_0 : decode cX3_sumOfFlows 0 = .ok (.lconst 0, 1) := by decide +kernel
theorem dX3_sumOfFlows_1 : decode cX3_sumOfFlows 1 = .ok (.lstore 4, 2) := by decide +kernel
theorem dX3_sumOfFlows_3 : decode cX3_sumOfFlows 3 = .ok (.iconst 0, 1) := by decide +kernel
theorem dX3_sumOfFlows_4 : decode cX3_sumOfFlows 4 = .ok (.istore 6, 2) := by decide +kernel
theorem dX3_sumOfFlows_6 : decode cX3_sumOfFlows 6 = .ok (.iload 6, 2) := by decide +kernel
theorem dX3_sumOfFlows_8 : decode cX3_sumOfFlows 8 = .ok (.aload_n 0, 1) := by decide +kernel
theorem dX3_sumOfFlows_9 : decode cX3_sumOfFlows 9 = .ok (.getfield 24, 3) := by decide +kernel
theorem dX3_sumOfFlows_12 : decode cX3_sumOfFlows 12 = .ok (.invokevirtual 46, 3) := by decide +kernel
theorem dX3_sumOfFlows_15 : decode cX3_sumOfFlows 15 = .ok (.if_icmp .ge 48, 3) := by decide +kernel
theorem dX3_sumOfFlows_18 : decode cX3_sumOfFlows 18 = .ok (.aload_n 0, 1) := by decide +kernel
theorem dX3_sumOfFlows_19 : decode cX3_sumOfFlows 19 = .ok (.getfield 24, 3) := by decide +kernel
theorem dX3_sumOfFlows_22 : decode cX3_sumOfFlows 22 = .ok (.iload 6, 2) := by decide +kernel
theorem dX3_sumOfFlows_24 : decode cX3_sumOfFlows 24 = .ok (.invokevirtual 109, 3) := by decide +kernel
theorem dX3_sumOfFlows_27 : decode cX3_sumOfFlows 27 = .ok (.checkcast 113, 3) := by decide +kernel
theorem dX3_sumOfFlows_30 : decode cX3_sumOfFlows 30 = .ok (.astore 7, 2) := by decide +kernel
theorem dX3_sumOfFlows_32 : decode cX3_sumOfFlows 32 = .ok (.aload 7, 2) := by decide +kernel
theorem dX3_sumOfFlows_34 : decode cX3_sumOfFlows 34 = .ok (.getfield 185, 3) := by decide +kernel
theorem dX3_sumOfFlows_37 : decode cX3_sumOfFlows 37 = .ok (.aload_n 1, 1) := by decide +kernel
theorem dX3_sumOfFlows_38 : decode cX3_sumOfFlows 38 = .ok (.if_acmp .ne 19, 3) := by decide +kernel
theorem dX3_sumOfFlows_41 : decode cX3_sumOfFlows 41 = .ok (.lload 4, 2) := by decide +kernel
theorem dX3_sumOfFlows_43 : decode cX3_sumOfFlows 43 = .ok (.aload 7, 2) := by decide +kernel
theorem dX3_sumOfFlows_45 : decode cX3_sumOfFlows 45 = .ok (.aload_n 0, 1) := by decide +kernel
theorem dX3_sumOfFlows_46 : decode cX3_sumOfFlows 46 = .ok (.getfield 33, 3) := by decide +kernel
theorem dX3_sumOfFlows_49 : decode cX3_sumOfFlows 49 = .ok (.iload_n 2, 1) := by decide +kernel
theorem dX3_sumOfFlows_50 : decode cX3_sumOfFlows 50 = .ok (.iload_n 3, 1) := by decide +kernel
theorem dX3_sumOfFlows_51 : decode cX3_sumOfFlows 51 = .ok (.invokevirtual 189, 3) := by decide +kernel
theorem dX3_sumOfFlows_54 : decode cX3_sumOfFlows 54 = .ok (.ladd, 1) := by decide +kernel
theorem dX3_sumOfFlows_55 : decode cX3_sumOfFlows 55 = .ok (.lstore 4, 2) := by decide +kernel
theorem dX3_sumOfFlows_57 : decode cX3_sumOfFlows 57 = .ok (.iinc 6 1, 3) := by decide +kernel
theorem dX3_sumOfFlows_60 : decode cX3_sumOfFlows 60 = .ok (.goto (-54), 3) := by decide +kernel
theorem dX3_sumOfFlows_63 : decode cX3_sumOfFlows 63 = .ok (.lload 4, 2) := by decide +kernel
theorem dX3_sumOfFlows_65 : decode cX3_sumOfFlows 65 = .ok (.lreturn, 1) := by decide +kernel
set_option maxRecDepth 20000 in
theorem ggX3_keep_Jx4a65c_size_8abf5 : GoodIn wsX3_keep wsJx4a65c_size_8abf5 := goodIn_r _ [15, 16, 105, 106, 107] (by decide +kernel) (by decide +kernel)
set_option maxRecDepth 20000 in
theorem gX3_keep_Jx4a65c_size_8abf5 : GoodIn wsX3_keep (wsV RX3 46 RJx4a65c yJx4a65c_size_8abf5 wsJx4a65c_size_8abf5) := goodIn_app (goodIn_of _ (by decide +kernel)) ggX3_keep_Jx4a65c_size_8abf5
set_option maxRecDepth 20000 in
theorem ggX3_keep_Jx4a65c_get_915e3 : GoodIn wsX3_keep wsJx4a65c_get_915e3 := goodIn_r _ [20, 16, 21, 22, 23, 24, 25, 26, 27, 28, 29, 30, 31, 14, 32, 33, 105, 106, 107] (by decide +kernel) (by decide +kernel)
set_option maxRecDepth 20000 in
theorem gX3_keep_Jx4a65c_get_915e3 : GoodIn wsX3_keep (wsV RX3 109 RJx4a65c yJx4a65c_get_915e3 wsJx4a65c_get_915e3) := goodIn_app (goodIn_of _ (by decide +kernel)) ggX3_keep_Jx4a65c_get_915e3
set_option maxRecDepth 20000 in
theorem ggX3_keep_X0_keep : GoodIn wsX3_keep wsX0_keep := goodIn_r _ [38, 39, 40, 41, 42, 93, 94, 95, 96, 97, 98, 99, 100, 101, 102, 103, 104] (by decide +kernel) (by decide +kernel)
set_option maxRecDepth 20000 in
theorem gX3_keep_X0_keep : GoodIn wsX3_keep (wsV RX3 196 RX0 yX0_keep wsX0_keep) := goodIn_app (goodIn_of _ (by decide +kernel)) ggX3_keep_X0_keep
set_option maxRecDepth 20000 in
theorem ggX3_keep_X6_keep : GoodIn wsX3_keep wsX6_keep := goodIn_r _ [47, 48, 49, 50, 51, 52, 53, 54, 55, 56, 57, 58, 59, 60, 61, 62, 63, 64, 108, 109, 110, 111, 112, 113, 114, 115, 116, 117, 118, 119, 120, 121, 122] (by decide +kernel) (by decide +kernel)
set_option maxRecDepth 20000 in
theorem gX3_keep_X6_keep : GoodIn wsX3_keep (wsV RX3 199 RX6 yX6_keep wsX6_keep) := goodIn_app (goodIn_of _ (by decide +kernel)) ggX3_keep_X6_keep
set_option maxRecDepth 20000 in
theorem ggX3_keep_X5_keep : GoodIn wsX3_keep wsX5_keep := goodIn_r _ [69, 70, 71, 72, 73, 74, 75, 123, 124, 125, 126, 127, 128, 129, 130, 131] (by decide +kernel) (by decide +kernel)
set_option maxRecDepth 20000 in
theorem gX3_keep_X5_keep : GoodIn wsX3_keep (wsV RX3 200 RX5 yX5_keep wsX5_keep) := goodIn_app (goodIn_of _ (by decide +kernel)) ggX3_keep_X5_keep
set_option maxRecDepth 20000 in
theorem ggX3_keep_X4_keep : GoodIn wsX3_keep wsX4_keep := goodIn_r _ [80, 81, 82, 83, 84, 132, 133, 134, 135, 136, 137, 138] (by decide +kernel) (by decide +kernel)
set_option maxRecDepth 20000 in
theorem gX3_keep_X4_keep : GoodIn wsX3_keep (wsV RX3 201 RX4 yX4_keep wsX4_keep) := goodIn_app (goodIn_of _ (by decide +kernel)) ggX3_keep_X4_keep
theorem dX3_keep_0 : decode cX3_keep 0 = .ok (.aload_n 0, 1) := by decide +kernel
theorem dX3_keep_1 : decode cX3_keep 1 = .ok (.aload_n 0, 1) := by decide +kernel
theorem dX3_keep_2 : decode cX3_keep 2 = .ok (.getfield 83, 3) := by decide +kernel
theorem dX3_keep_5 : decode cX3_keep 5 = .ok (.putfield 193, 3) := by decide +kernel
theorem dX3_keep_8 : decode cX3_keep 8 = .ok (.iconst 0, 1) := by decide +kernel
theorem dX3_keep_9 : decode cX3_keep 9 = .ok (.istore_n 1, 1) := by decide +kernel
theorem dX3_keep_10 : decode cX3_keep 10 = .ok (.iload_n 1, 1) := by decide +kernel
theorem dX3_keep_11 : decode cX3_keep 11 = .ok (.aload_n 0, 1) := by decide +kernel
theorem dX3_keep_12 : decode cX3_keep 12 = .ok (.getfield 12, 3) := by decide +kernel
theorem dX3_keep_15 : decode cX3_keep 15 = .ok (.invokevirtual 46, 3) := by decide +kernel
theorem dX3_keep_18 : decode cX3_keep 18 = .ok (.if_icmp .ge 23, 3) := by decide +kernel
theorem dX3_keep_21 : decode cX3_keep 21 = .ok (.aload_n 0, 1) := by decide +kernel
theorem dX3_keep_22 : decode cX3_keep 22 = .ok (.getfield 12, 3) := by decide +kernel
theorem dX3_keep_25 : decode cX3_keep 25 = .ok (.iload_n 1, 1) := by decide +kernel
theorem dX3_keep_26 : decode cX3_keep 26 = .ok (.invokevirtual 109, 3) := by decide +kernel
theorem dX3_keep_29 : decode cX3_keep 29 = .ok (.checkcast 55, 3) := by decide +kernel
theorem dX3_keep_32 : decode cX3_keep 32 = .ok (.invokevirtual 196, 3) := by decide +kernel
theorem dX3_keep_35 : decode cX3_keep 35 = .ok (.iinc 1 1, 3) := by decide +kernel
theorem dX3_keep_38 : decode cX3_keep 38 = .ok (.goto (-28), 3) := by decide +kernel
theorem dX3_keep_41 : decode cX3_keep 41 = .ok (.iconst 0, 1) := by decide +kernel
theorem dX3_keep_42 : decode cX3_keep 42 = .ok (.istore_n 1, 1) := by decide +kernel
theorem dX3_keep_43 : decode cX3_keep 43 = .ok (.iload_n 1, 1) := by decide +kernel
theorem dX3_keep_44 : decode cX3_keep 44 = .ok (.aload_n 0, 1) := by decide +kernel
theorem dX3_keep_45 : decode cX3_keep 45 = .ok (.getfield 18, 3) := by decide +kernel
theorem dX3_keep_48 : decode cX3_keep 48 = .ok (.invokevirtual 46, 3) := by decide +kernel
theorem dX3_keep_51 : decode cX3_keep 51 = .ok (.if_icmp .ge 26, 3) := by decide +kernel
theorem dX3_keep_54 : decode cX3_keep 54 = .ok (.aload_n 0, 1) := by decide +kernel
theorem dX3_keep_55 : decode cX3_keep 55 = .ok (.getfield 18, 3) := by decide +kernel
theorem dX3_keep_58 : decode cX3_keep 58 = .ok (.iload_n 1, 1) := by decide +kernel
theorem dX3_keep_59 : decode cX3_keep 59 = .ok (.invokevirtual 109, 3) := by decide +kernel
theorem dX3_keep_62 : decode cX3_keep 62 = .ok (.checkcast 55, 3) := by decide +kernel
theorem dX3_keep_65 : decode cX3_keep 65 = .ok (.getfield 64, 3) := by decide +kernel
theorem dX3_keep_68 : decode cX3_keep 68 = .ok (.invokevirtual 199, 3) := by decide +kernel
theorem dX3_keep_71 : decode cX3_keep 71 = .ok (.iinc 1 1, 3) := by decide +kernel
theorem dX3_keep_74 : decode cX3_keep 74 = .ok (.goto (-31), 3) := by decide +kernel
theorem dX3_keep_77 : decode cX3_keep 77 = .ok (.iconst 0, 1) := by decide +kernel
theorem dX3_keep_78 : decode cX3_keep 78 = .ok (.istore_n 1, 1) := by decide +kernel
theorem dX3_keep_79 : decode cX3_keep 79 = .ok (.iload_n 1, 1) := by decide +kernel
theorem dX3_keep_80 : decode cX3_keep 80 = .ok (.aload_n 0, 1) := by decide +kernel
theorem dX3_keep_81 : decode cX3_keep 81 = .ok (.getfield 21, 3) := by decide +kernel
theorem dX3_keep_84 : decode cX3_keep 84 = .ok (.invokevirtual 46, 3) := by decide +kernel
theorem dX3_keep_87 : decode cX3_keep 87 = .ok (.if_icmp .ge 23, 3) := by decide +kernel
theorem dX3_keep_90 : decode cX3_keep 90 = .ok (.aload_n 0, 1) := by decide +kernel
theorem dX3_keep_91 : decode cX3_keep 91 = .ok (.getfield 21, 3) := by decide +kernel
theorem dX3_keep_94 : decode cX3_keep 94 = .ok (.iload_n 1, 1) := by decide +kernel
theorem dX3_keep_95 : decode cX3_keep 95 = .ok (.invokevirtual 109, 3) := by decide +kernel
theorem dX3_keep_98 : decode cX3_keep 98 = .ok (.checkcast 74, 3) := by decide +kernel
theorem dX3_keep_101 : decode cX3_keep 101 = .ok (.invokevirtual 200, 3) := by decide +kernel
theorem dX3_keep_104 : decode cX3_keep 104 = .ok (.iinc 1 1, 3) := by decide +kernel
theorem dX3_keep_107 : decode cX3_keep 107 = .ok (.goto (-28), 3) := by decide +kernel
theorem dX3_keep_110 : decode cX3_keep 110 = .ok (.iconst 0, 1) := by decide +kernel
theorem dX3_keep_111 : decode cX3_keep 111 = .ok (.istore_n 1, 1) := by decide +kernel
theorem dX3_keep_112 : decode cX3_keep 112 = .ok (.iload_n 1, 1) := by decide +kernel
theorem dX3_keep_113 : decode cX3_keep 113 = .ok (.aload_n 0, 1) := by decide +kernel
theorem dX3_keep_114 : decode cX3_keep 114 = .ok (.getfield 24, 3) := by decide +kernel
theorem dX3_keep_117 : decode cX3_keep 117 = .ok (.invokevirtual 46, 3) := by decide +kernel
theorem dX3_keep_120 : decode cX3_keep 120 = .ok (.if_icmp .ge 23, 3) := by decide +kernel
theorem dX3_keep_123 : decode cX3_keep 123 = .ok (.aload_n 0, 1) := by decide +kernel
theorem dX3_keep_124 : decode cX3_keep 124 = .ok (.getfield 24, 3) := by decide +kernel
theorem dX3_keep_127 : decode cX3_keep 127 = .ok (.iload_n 1, 1) := by decide +kernel
theorem dX3_keep_128 : decode cX3_keep 128 = .ok (.invokevirtual 109, 3) := by decide +kernel
theorem dX3_keep_131 : decode cX3_keep 131 = .ok (.checkcast 113, 3) := by decide +kernel
theorem dX3_keep_134 : decode cX3_keep 134 = .ok (.invokevirtual 201, 3) := by decide +kernel
theorem dX3_keep_137 : decode cX3_keep 137 = .ok (.iinc 1 1, 3) := by decide +kernel
theorem dX3_keep_140 : decode cX3_keep 140 = .ok (.goto (-28), 3) := by decide +kernel
theorem dX3_keep_143 : decode cX3_keep 143 = .ok (.return_, 1) := by decide +kernel
set_option maxRecDepth 20000 in
theorem ggX3_goBack_Jx4a65c_size_8abf5 : GoodIn wsX3_goBack wsJx4a65c_size_8abf5 := goodIn_r _ [15, 16, 105, 106, 107] (by decide +kernel) (by decide +kernel)
set_option maxRecDepth 20000 in
theorem gX3_goBack_Jx4a65c_size_8abf5 : GoodIn wsX3_goBack (wsV RX3 46 RJx4a65c yJx4a65c_size_8abf5 wsJx4a65c_size_8abf5) := goodIn_app (goodIn_of _ (by decide +kernel)) ggX3_goBack_Jx4a65c_size_8abf5
set_option maxRecDepth 20000 in
theorem ggX3_goBack_Jx4a65c_get_915e3 : GoodIn wsX3_goBack wsJx4a65c_get_915e3 := goodIn_r _ [20, 16, 21, 22, 23, 24, 25, 26, 27, 28, 29, 30, 31, 14, 32, 33, 105, 106, 107] (by decide +kernel) (by decide +kernel)
set_option maxRecDepth 20000 in
theorem gX3_goBack_Jx4a65c_get_915e3 : GoodIn wsX3_goBack (wsV RX3 109 RJx4a65c yJx4a65c_get_915e3 wsJx4a65c_get_915e3) := goodIn_app (goodIn_of _ (by decide +kernel)) ggX3_goBack_Jx4a65c_get_915e3
set_option maxRecDepth 20000 in
theorem ggX3_goBack_X0_goBack : GoodIn wsX3_goBack wsX0_goBack := goodIn_r _ [38, 39, 40, 41, 42, 93, 94, 95, 96, 97, 98, 99, 100, 101, 102, 103, 104] (by decide +kernel) (by decide +kernel)
set_option maxRecDepth 20000 in
theorem gX3_goBack_X0_goBack : GoodIn wsX3_goBack (wsV RX3 202 RX0 yX0_goBack wsX0_goBack) := goodIn_app (goodIn_of _ (by decide +kernel)) ggX3_goBack_X0_goBack
set_option maxRecDepth 20000 in
theorem ggX3_goBack_X6_goBack : GoodIn wsX3_goBack wsX6_goBack := goodIn_r _ [47, 48, 49, 50, 51, 52, 53, 54, 55, 56, 57, 58, 59, 60, 61, 62, 63, 64, 108, 109, 110, 111, 112, 113, 114, 115, 116, 117, 118, 119, 120, 121, 122] (by decide +kernel) (by decide +kernel)
set_option maxRecDepth 20000 in
theorem gX3_goBack_X6_goBack : GoodIn wsX3_goBack (wsV RX3 205 RX6 yX6_goBack wsX6_goBack) := goodIn_app (goodIn_of _ (by decide +kernel)) ggX3_goBack_X6_goBack
set_option maxRecDepth 20000 in
theorem ggX3_goBack_X5_goBack : GoodIn wsX3_goBack wsX5_goBack := goodIn_r _ [69, 70, 71, 72, 73, 74, 75, 123, 124, 125, 126, 127, 128, 129, 130, 131] (by decide +kernel) (by decide +kernel)
set_option maxRecDepth 20000 in
theorem gX3_goBack_X5_goBack : GoodIn wsX3_goBack (wsV RX3 206 RX5 yX5_goBack wsX5_goBack) := goodIn_app (goodIn_of _ (by decide +kernel)) ggX3_goBack_X5_goBack
set_option maxRecDepth 20000 in
theorem ggX3_goBack_X4_goBack : GoodIn wsX3_goBack wsX4_goBack := goodIn_r _ [80, 81, 82, 83, 84, 132, 133, 134, 135, 136, 137, 138] (by decide +kernel) (by decide +kernel)
set_option maxRecDepth 20000 in
theorem gX3_goBack_X4_goBack : GoodIn wsX3_goBack (wsV RX3 207 RX4 yX4_goBack wsX4_goBack) := goodIn_app (goodIn_of _ (by decide +kernel)) ggX3_goBack_X4_goBack
theorem dX3_goBack_0 : decode cX3_goBack 0 = .ok (.aload_n 0, 1) := by decide +kernel
theorem dX3_goBack_1 : decode cX3_goBack 1 = .ok (.aload_n 0, 1) := by decide +kernel
theorem dX3_goBack_2 : decode cX3_goBack 2 = .ok (.getfield 193, 3) := by decide +kernel
theorem dX3_goBack_5 : decode cX3_goBack 5 = .ok (.putfield 83, 3) := by decide +kernel
theorem dX3_goBack_8 : decode cX3_goBack 8 = .ok (.iconst 0, 1) := by decide +kernel
theorem dX3_goBack_9 : decode cX3_goBack 9 = .ok (.istore_n 1, 1) := by decide +kernel
theorem dX3_goBack_10 : decode cX3_goBack 10 = .ok (.iload_n 1, 1) := by decide +kernel
theorem dX3_goBack_11 : decode cX3_goBack 11 = .ok (.aload_n 0, 1) := by decide +kernel
theorem dX3_goBack_12 : decode cX3_goBack 12 = .ok (.getfield 12, 3) := by decide +kernel
theorem dX3_goBack_15 : decode cX3_goBack 15 = .ok (.invokevirtual 46, 3) := by decide +kernel
theorem dX3_goBack_18 : decode cX3_goBack 18 = .ok (.if_icmp .ge 23, 3) := by decide +kernel
theorem dX3_goBack_21 : decode cX3_goBack 21 = .ok (.aload_n 0, 1) := by decide +kernel
theorem dX3_goBack_22 : decode cX3_goBack 22 = .ok (.getfield 12, 3) := by decide +kernel
theorem dX3_goBack_25 : decode cX3_goBack 25 = .ok (.iload_n 1, 1) := by decide +kernel
theorem dX3_goBack_26 : decode cX3_goBack 26 = .ok (.invokevirtual 109, 3) := by decide +kernel
theorem dX3_goBack_29 : decode cX3_goBack 29 = .ok (.checkcast 55, 3) := by decide +kernel
theorem dX3_goBack_32 : decode cX3_goBack 32 = .ok (.invokevirtual 202, 3) := by decide +kernel
theorem dX3_goBack_35 : decode cX3_goBack 35 = .ok (.iinc 1 1, 3) := by decide +kernel
theorem dX3_goBack_38 : decode cX3_goBack 38 = .ok (.goto (-28), 3) := by decide +kernel
theorem dX3_goBack_41 : decode cX3_goBack 41 = .ok (.iconst 0, 1) := by decide +kernel
theorem dX3_goBack_42 : decode cX3_goBack 42 = .ok (.istore_n 1, 1) := by decide +kernel
theorem dX3_goBack_43 : decode cX3_goBack 43 = .ok (.iload_n 1, 1) := by decide +kernel
theorem dX3_goBack_44 : decode cX3_goBack 44 = .ok (.aload_n 0, 1) := by decide +kernel
theorem dX3_goBack_45 : decode cX3_goBack 45 = .ok (.getfield 18, 3) := by decide +kernel
theorem dX3_goBack_48 : decode cX3_goBack 48 = .ok (.invokevirtual 46, 3) := by decide +kernel
theorem dX3_goBack_51 : decode cX3_goBack 51 = .ok (.if_icmp .ge 26, 3) := by decide +kernel
theorem dX3_goBack_54 : decode cX3_goBack 54 = .ok (.aload_n 0, 1) := by decide +kernel
theorem dX3_goBack_55 : decode cX3_goBack 55 = .ok (.getfield 18, 3) := by decide +kernel
theorem dX3_goBack_58 : decode cX3_goBack 58 = .ok (.iload_n 1, 1) := by decide +kernel
theorem dX3_goBack_59 : decode cX3_goBack 59 = .ok (.invokevirtual 109, 3) := by decide +kernel
theorem dX3_goBack_62 : decode cX3_goBack 62 = .ok (.checkcast 55, 3) := by decide +kernel
theorem dX3_goBack_65 : decode cX3_goBack 65 = .ok (.getfield 64, 3) := by decide +kernel
theorem dX3_goBack_68 : decode cX3_goBack 68 = .ok (.invokevirtual 205, 3) := by decide +kernel
theorem dX3_goBack_71 : decode cX3_goBack 71 = .ok (.iinc 1 1, 3) := by decide +kernel
theorem dX3_goBack_74 : decode cX3_goBack 74 = .ok (.goto (-31), 3) := by decide +kernel
theorem dX3_goBack_77 : decode cX3_goBack 77 = .ok (.iconst 0, 1) := by decide +kernel
theorem dX3_goBack_78 : decode cX3_goBack 78 = .ok (.istore_n 1, 1) := by decide +kernel
theorem dX3_goBack_79 : decode cX3_goBack 79 = .ok (.iload_n 1, 1) := by decide +kernel
theorem dX3_goBack_80 : decode cX3_goBack 80 = .ok (.aload_n 0, 1) := by decide +kernel
theorem dX3_goBack_81 : decode cX3_goBack 81 = .ok (.getfield 21, 3) := by decide +kernel
theorem dX3_goBack_84 : decode cX3_goBack 84 = .ok (.invokevirtual 46, 3) := by decide +kernel
theorem dX3_goBack_87 : decode cX3_goBack 87 = .ok (.if_icmp .ge 23, 3) := by decide +kernel
theorem dX3_goBack_90 : decode cX3_goBack 90 = .ok (.aload_n 0, 1) := by decide +kernel
theorem dX3_goBack_91 : decode cX3_goBack 91 = .ok (.getfield 21, 3) := by decide +kernel
theorem dX3_goBack_94 : decode cX3_goBack 94 = .ok (.iload_n 1, 1) := by decide +kernel
theorem dX3_goBack_95 : decode cX3_goBack 95 = .ok (.invokevirtual 109, 3) := by decide +kernel
theorem dX3_goBack_98 : decode cX3_goBack 98 = .ok (.checkcast 74, 3) := by decide +kernel
theorem dX3_goBack_101 : decode cX3_goBack 101 = .ok (.invokevirtual 206, 3) := by decide +kernel
theorem dX3_goBack_104 : decode cX3_goBack 104 = .ok (.iinc 1 1, 3) := by decide +kernel
theorem dX3_goBack_107 : decode cX3_goBack 107 = .ok (.goto (-28), 3) := by decide +kernel
theorem dX3_goBack_110 : decode cX3_goBack 110 = .ok (.iconst 0, 1) := by decide +kernel
theorem dX3_goBack_111 : decode cX3_goBack 111 = .ok (.istore_n 1, 1) := by decide +kernel
theorem dX3_goBack_112 : decode cX3_goBack 112 = .ok (.iload_n 1, 1) := by decide +kernel
theorem dX3_goBack_113 : decode cX3_goBack 113 = .ok (.aload_n 0, 1) := by decide +kernel
theorem dX3_goBack_114 : decode cX3_goBack 114 = .ok (.getfield 24, 3) := by decide +kernel
theorem dX3_goBack_117 : decode cX3_goBack 117 = .ok (.invokevirtual 46, 3) := by decide +kernel
theorem dX3_goBack_120 : decode cX3_goBack 120 = .ok (.if_icmp .ge 23, 3) := by decide +kernel
theorem dX3_goBack_123 : decode cX3_goBack 123 = .ok (.aload_n 0, 1) := by decide +kernel
theorem dX3_goBack_124 : decode cX3_goBack 124 = .ok (.getfield 24, 3) := by decide +kernel
theorem dX3_goBack_127 : decode cX3_goBack 127 = .ok (.iload_n 1, 1) := by decide +kernel
theorem dX3_goBack_128 : decode cX3_goBack 128 = .ok (.invokevirtual 109, 3) := by decide +kernel
theorem dX3_goBack_131 : decode cX3_goBack 131 = .ok (.checkcast 113, 3) := by decide +kernel
theorem dX3_goBack_134 : decode cX3_goBack 134 = .ok (.invokevirtual 207, 3) := by decide +kernel
theorem dX3_goBack_137 : decode cX3_goBack 137 = .ok (.iinc 1 1, 3) := by decide +kernel
theorem dX3_goBack_140 : decode cX3_goBack 140 = .ok (.goto (-28), 3) := by decide +kernel
theorem dX3_goBack_143 : decode cX3_goBack 143 = .ok (.return_, 1) := by decide +kernel
theorem dX4_init_0 : decode cX4_init 0 = .ok (.aload_n 0, 1) := by decide +kernel
theorem dX4_init_1 : decode cX4_init 1 = .ok (.invokespecial 1, 3) := by decide +kernel
theorem dX4_init_4 : decode cX4_init 4 = .ok (.aload_n 0, 1) := by decide +kernel
theorem dX4_init_5 : decode cX4_init 5 = .ok (.aload_n 1, 1) := by decide +kernel
theorem dX4_init_6 : decode cX4_init 6 = .ok (.putfield 7, 3) := by decide +kernel
theorem dX4_init_9 : decode cX4_init 9 = .ok (.aload_n 0, 1) := by decide +kernel
theorem dX4_init_10 : decode cX4_init 10 = .ok (.iload_n 2, 1) := by decide +kernel
theorem dX4_init_11 : decode cX4_init 11 = .ok (.putfield 13, 3) := by decide +kernel
theorem dX4_init_14 : decode cX4_init 14 = .ok (.aload_n 0, 1) := by decide +kernel
theorem dX4_init_15 : decode cX4_init 15 = .ok (.iload 4, 2) := by decide +kernel
theorem dX4_init_17 : decode cX4_init 17 = .ok (.putfield 17, 3) := by decide +kernel
theorem dX4_init_20 : decode cX4_init 20 = .ok (.aload_n 0, 1) := by decide +kernel
theorem dX4_init_21 : decode cX4_init 21 = .ok (.iload_n 3, 1) := by decide +kernel
theorem dX4_init_22 : decode cX4_init 22 = .ok (.putfield 20, 3) := by decide +kernel
theorem dX4_init_25 : decode cX4_init 25 = .ok (.aload_n 0, 1) := by decide +kernel
theorem dX4_init_26 : decode cX4_init 26 = .ok (.iload 5, 2) := by decide +kernel
theorem dX4_init_28 : decode cX4_init 28 = .ok (.putfield 23, 3) := by decide +kernel
theorem dX4_init_31 : decode cX4_init 31 = .ok (.return_, 1) := by decide +kernel
theorem dX4_bookUpTo_0 : decode cX4_bookUpTo 0 = .ok (.aload_n 0, 1) := by decide +kernel
theorem dX4_bookUpTo_1 : decode cX4_bookUpTo 1 = .ok (.getfield 23, 3) := by decide +kernel
theorem dX4_bookUpTo_4 : decode cX4_bookUpTo 4 = .ok (.ifCond .le 54, 3) := by decide +kernel
theorem dX4_bookUpTo_7 : decode cX4_bookUpTo 7 = .ok (.aload_n 0, 1) := by decide +kernel
theorem dX4_bookUpTo_8 : decode cX4_bookUpTo 8 = .ok (.getfield 20, 3) := by decide +kernel
theorem dX4_bookUpTo_11 : decode cX4_bookUpTo 11 = .ok (.iload_n 1, 1) := by decide +kernel
theorem dX4_bookUpTo_12 : decode cX4_bookUpTo 12 = .ok (.if_icmp .gt 46, 3) := by decide +kernel
theorem dX4_bookUpTo_15 : decode cX4_bookUpTo 15 = .ok (.aload_n 0, 1) := by decide +kernel
theorem dX4_bookUpTo_16 : decode cX4_bookUpTo 16 = .ok (.getfield 7, 3) := by decide +kernel
theorem dX4_bookUpTo_19 : decode cX4_bookUpTo 19 = .ok (.dup, 1) := by decide +kernel
theorem dX4_bookUpTo_20 : decode cX4_bookUpTo 20 = .ok (.getfield 26, 3) := by decide +kernel
theorem dX4_bookUpTo_23 : decode cX4_bookUpTo 23 = .ok (.aload_n 0, 1) := by decide +kernel
theorem dX4_bookUpTo_24 : decode cX4_bookUpTo 24 = .ok (.getfield 13, 3) := by decide +kernel
theorem dX4_bookUpTo_27 : decode cX4_bookUpTo 27 = .ok (.i2l, 1) := by decide +kernel
theorem dX4_bookUpTo_28 : decode cX4_bookUpTo 28 = .ok (.ladd, 1) := by decide +kernel
theorem dX4_bookUpTo_29 : decode cX4_bookUpTo 29 = .ok (.putfield 26, 3) := by decide +kernel
theorem dX4_bookUpTo_32 : decode cX4_bookUpTo 32 = .ok (.aload_n 0, 1) := by decide +kernel
theorem dX4_bookUpTo_33 : decode cX4_bookUpTo 33 = .ok (.dup, 1) := by decide +kernel
theorem dX4_bookUpTo_34 : decode cX4_bookUpTo 34 = .ok (.getfield 20, 3) := by decide +kernel
theorem dX4_bookUpTo_37 : decode cX4_bookUpTo 37 = .ok (.aload_n 0, 1) := by decide +kernel
theorem dX4_bookUpTo_38 : decode cX4_bookUpTo 38 = .ok (.getfield 17, 3) := by decide +kernel
theorem dX4_bookUpTo_41 : decode cX4_bookUpTo 41 = .ok (.iadd, 1) := by decide +kernel
theorem dX4_bookUpTo_42 : decode cX4_bookUpTo 42 = .ok (.putfield 20, 3) := by decide +kernel
theorem dX4_bookUpTo_45 : decode cX4_bookUpTo 45 = .ok (.aload_n 0, 1) := by decide +kernel
theorem dX4_bookUpTo_46 : decode cX4_bookUpTo 46 = .ok (.dup, 1) := by decide +kernel
theorem dX4_bookUpTo_47 : decode cX4_bookUpTo 47 = .ok (.getfield 23, 3) := by decide +kernel
theorem dX4_bookUpTo_50 : decode cX4_bookUpTo 50 = .ok (.iconst 1, 1) := by decide +kernel
theorem dX4_bookUpTo_51 : decode cX4_bookUpTo 51 = .ok (.isub, 1) := by decide +kernel
theorem dX4_bookUpTo_52 : decode cX4_bookUpTo 52 = .ok (.putfield 23, 3) := by decide +kernel
theorem dX4_bookUpTo_55 : decode cX4_bookUpTo 55 = .ok (.goto (-55), 3) := by decide +kernel
theorem dX4_bookUpTo_58 : decode cX4_bookUpTo 58 = .ok (.return_, 1) := by decide +kernel
set_option maxRecDepth 20000 in
theorem ggX4_sumWithin_X2_firstSettlingFrom : GoodIn wsX4_sumWithin wsX2_firstSettlingFrom := goodIn_r _ [9, 10, 11, 12, 8, 13, 14, 22] (by decide +kernel) (by decide +kernel)
set_option maxRecDepth 20000 in
theorem gX4_sumWithin_X2_firstSettlingFrom : GoodIn wsX4_sumWithin (wsV RX4 32 RX2 yX2_firstSettlingFrom wsX2_firstSettlingFrom) := goodIn_app (goodIn_of _ (by decide +kernel)) ggX4_sumWithin_X2_firstSettlingFrom
theorem dX4_sumWithin_0 : decode cX4_sumWithin 0 = .ok (.lconst 0, 1) := by decide +kernel
theorem dX4_sumWithin_1 : decode cX4_sumWithin 1 = .ok (.lstore 4, 2) := by decide +kernel
theorem dX4_sumWithin_3 : decode cX4_sumWithin 3 = .ok (.iconst 0, 1) := by decide +kernel
theorem dX4_sumWithin_4 : decode cX4_sumWithin 4 = .ok (.istore 6, 2) := by decide +kernel
theorem dX4_sumWithin_6 : decode cX4_sumWithin 6 = .ok (.iload 6, 2) := by decide +kernel
theorem dX4_sumWithin_8 : decode cX4_sumWithin 8 = .ok (.aload_n 0, 1) := by decide +kernel
theorem dX4_sumWithin_9 : decode cX4_sumWithin 9 = .ok (.getfield 23, 3) := by decide +kernel
theorem dX4_sumWithin_12 : decode cX4_sumWithin 12 = .ok (.if_icmp .ge 49, 3) := by decide +kernel
theorem dX4_sumWithin_15 : decode cX4_sumWithin 15 = .ok (.aload_n 1, 1) := by decide +kernel
theorem dX4_sumWithin_16 : decode cX4_sumWithin 16 = .ok (.aload_n 0, 1) := by decide +kernel
theorem dX4_sumWithin_17 : decode cX4_sumWithin 17 = .ok (.getfield 20, 3) := by decide +kernel
theorem dX4_sumWithin_20 : decode cX4_sumWithin 20 = .ok (.iload 6, 2) := by decide +kernel
theorem dX4_sumWithin_22 : decode cX4_sumWithin 22 = .ok (.aload_n 0, 1) := by decide +kernel
theorem dX4_sumWithin_23 : decode cX4_sumWithin 23 = .ok (.getfield 17, 3) := by decide +kernel
theorem dX4_sumWithin_26 : decode cX4_sumWithin 26 = .ok (.imul, 1) := by decide +kernel
theorem dX4_sumWithin_27 : decode cX4_sumWithin 27 = .ok (.iadd, 1) := by decide +kernel
theorem dX4_sumWithin_28 : decode cX4_sumWithin 28 = .ok (.invokevirtual 32, 3) := by decide +kernel
theorem dX4_sumWithin_31 : decode cX4_sumWithin 31 = .ok (.istore 7, 2) := by decide +kernel
theorem dX4_sumWithin_33 : decode cX4_sumWithin 33 = .ok (.iload 7, 2) := by decide +kernel
theorem dX4_sumWithin_35 : decode cX4_sumWithin 35 = .ok (.iload_n 2, 1) := by decide +kernel
theorem dX4_sumWithin_36 : decode cX4_sumWithin 36 = .ok (.if_icmp .lt 19, 3) := by decide +kernel
theorem dX4_sumWithin_39 : decode cX4_sumWithin 39 = .ok (.iload 7, 2) := by decide +kernel
theorem dX4_sumWithin_41 : decode cX4_sumWithin 41 = .ok (.iload_n 3, 1) := by decide +kernel
theorem dX4_sumWithin_42 : decode cX4_sumWithin 42 = .ok (.if_icmp .gt 13, 3) := by decide +kernel
theorem dX4_sumWithin_45 : decode cX4_sumWithin 45 = .ok (.lload 4, 2) := by decide +kernel
theorem dX4_sumWithin_47 : decode cX4_sumWithin 47 = .ok (.aload_n 0, 1) := by decide +kernel
theorem dX4_sumWithin_48 : decode cX4_sumWithin 48 = .ok (.getfield 13, 3) := by decide +kernel
theorem dX4_sumWithin_51 : decode cX4_sumWithin 51 = .ok (.i2l, 1) := by decide +kernel
theorem dX4_sumWithin_52 : decode cX4_sumWithin 52 = .ok (.ladd, 1) := by decide +kernel
theorem dX4_sumWithin_53 : decode cX4_sumWithin 53 = .ok (.lstore 4, 2) := by decide +kernel
theorem dX4_sumWithin_55 : decode cX4_sumWithin 55 = .ok (.iinc 6 1, 3) := by decide +kernel
theorem dX4_sumWithin_58 : decode cX4_sumWithin 58 = .ok (.goto (-52), 3) := by decide +kernel
theorem dX4_sumWithin_61 : decode cX4_sumWithin 61 = .ok (.lload 4, 2) := by decide +kernel
theorem dX4_sumWithin_63 : decode cX4_sumWithin 63 = .ok (.lreturn, 1) := by decide +kernel
theorem dX4_keep_0 : decode cX4_keep 0 = .ok (.aload_n 0, 1) := by decide +kernel
theorem dX4_keep_1 : decode cX4_keep 1 = .ok (.aload_n 0, 1) := by decide +kernel
theorem dX4_keep_2 : decode cX4_keep 2 = .ok (.getfield 20, 3) := by decide +kernel
theorem dX4_keep_5 : decode cX4_keep 5 = .ok (.putfield 38, 3) := by decide +kernel
theorem dX4_keep_8 : decode cX4_keep 8 = .ok (.aload_n 0, 1) := by decide +kernel
theorem dX4_keep_9 : decode cX4_keep 9 = .ok (.aload_n 0, 1) := by decide +kernel
theorem dX4_keep_10 : decode cX4_keep 10 = .ok (.getfield 23, 3) := by decide +kernel
theorem dX4_keep_13 : decode cX4_keep 13 = .ok (.putfield 41, 3) := by decide +kernel
theorem dX4_keep_16 : decode cX4_keep 16 = .ok (.return_, 1) := by decide +kernel
theorem dX4_goBack_0 : decode cX4_goBack 0 = .ok (.aload_n 0, 1) := by decide +kernel
theorem dX4_goBack_1 : decode cX4_goBack 1 = .ok (.aload_n 0, 1) := by decide +kernel
theorem dX4_goBack_2 : decode cX4_goBack 2 = .ok (.getfield 38, 3) := by decide +kernel
theorem dX4_goBack_5 : decode cX4_goBack 5 = .ok (.putfield 20, 3) := by decide +kernel
theorem dX4_goBack_8 : decode cX4_goBack 8 = .ok (.aload_n 0, 1) := by decide +kernel
theorem dX4_goBack_9 : decode cX4_goBack 9 = .ok (.aload_n 0, 1) := by decide +kernel
theorem dX4_goBack_10 : decode cX4_goBack 10 = .ok (.getfield 41, 3) := by decide +kernel
theorem dX4_goBack_13 : decode cX4_goBack 13 = .ok (.putfield 23, 3) := by decide +kernel
theorem dX4_goBack_16 : decode cX4_goBack 16 = .ok (.return_, 1) := by decide +kernel
theorem dX5_init_0 : decode cX5_init 0 = .ok (.aload_n 0, 1) := by decide +kernel
theorem dX5_init_1 : decode cX5_init 1 = .ok (.invokespecial 3, 3) := by decide +kernel
theorem dX5_init_4 : decode cX5_init 4 = .ok (.aload_n 0, 1) := by decide +kernel
theorem dX5_init_5 : decode cX5_init 5 = .ok (.aload_n 1, 1) := by decide +kernel
theorem dX5_init_6 : decode cX5_init 6 = .ok (.putfield 9, 3) := by decide +kernel
theorem dX5_init_9 : decode cX5_init 9 = .ok (.aload_n 0, 1) := by decide +kernel
theorem dX5_init_10 : decode cX5_init 10 = .ok (.iload_n 2, 1) := by decide +kernel
theorem dX5_init_11 : decode cX5_init 11 = .ok (.putfield 15, 3) := by decide +kernel
theorem dX5_init_14 : decode cX5_init 14 = .ok (.aload_n 0, 1) := by decide +kernel
theorem dX5_init_15 : decode cX5_init 15 = .ok (.iload_n 3, 1) := by decide +kernel
theorem dX5_init_16 : decode cX5_init 16 = .ok (.putfield 19, 3) := by decide +kernel
theorem dX5_init_19 : decode cX5_init 19 = .ok (.return_, 1) := by decide +kernel
theorem dX5_accrue_0 : decode cX5_accrue 0 = .ok (.aload_n 0, 1) := by decide +kernel
theorem dX5_accrue_1 : decode cX5_accrue 1 = .ok (.dup, 1) := by decide +kernel
theorem dX5_accrue_2 : decode cX5_accrue 2 = .ok (.getfield 22, 3) := by decide +kernel
theorem dX5_accrue_5 : decode cX5_accrue 5 = .ok (.aload_n 0, 1) := by decide +kernel
theorem dX5_accrue_6 : decode cX5_accrue 6 = .ok (.getfield 26, 3) := by decide +kernel
theorem dX5_accrue_9 : decode cX5_accrue 9 = .ok (.aload_n 0, 1) := by decide +kernel
theorem dX5_accrue_10 : decode cX5_accrue 10 = .ok (.getfield 19, 3) := by decide +kernel
theorem dX5_accrue_13 : decode cX5_accrue 13 = .ok (.i2l, 1) := by decide +kernel
theorem dX5_accrue_14 : decode cX5_accrue 14 = .ok (.lmul, 1) := by decide +kernel
theorem dX5_accrue_15 : decode cX5_accrue 15 = .ok (.ladd, 1) := by decide +kernel
theorem dX5_accrue_16 : decode cX5_accrue 16 = .ok (.putfield 22, 3) := by decide +kernel
theorem dX5_accrue_19 : decode cX5_accrue 19 = .ok (.return_, 1) := by decide +kernel
theorem dX5_bookInterest_0 : decode cX5_bookInterest 0 = .ok (.aload_n 0, 1) := by decide +kernel
theorem dX5_bookInterest_1 : decode cX5_bookInterest 1 = .ok (.getfield 22, 3) := by decide +kernel
theorem dX5_bookInterest_4 : decode cX5_bookInterest 4 = .ok (.ldc2_w 29, 3) := by decide +kernel
theorem dX5_bookInterest_7 : decode cX5_bookInterest 7 = .ok (.ldiv, 1) := by decide +kernel
theorem dX5_bookInterest_8 : decode cX5_bookInterest 8 = .ok (.lstore_n 1, 1) := by decide +kernel
theorem dX5_bookInterest_9 : decode cX5_bookInterest 9 = .ok (.aload_n 0, 1) := by decide +kernel
theorem dX5_bookInterest_10 : decode cX5_bookInterest 10 = .ok (.dup, 1) := by decide +kernel
theorem dX5_bookInterest_11 : decode cX5_bookInterest 11 = .ok (.getfield 22, 3) := by decide +kernel
theorem dX5_bookInterest_14 : decode cX5_bookInterest 14 = .ok (.lload_n 1, 1) := by decide +kernel
theorem dX5_bookInterest_15 : decode cX5_bookInterest 15 = .ok (.ldc2_w 29, 3) := by decide +kernel
theorem dX5_bookInterest_18 : decode cX5_bookInterest 18 = .ok (.lmul, 1) := by decide +kernel
theorem dX5_bookInterest_19 : decode cX5_bookInterest 19 = .ok (.lsub, 1) := by decide +kernel
theorem dX5_bookInterest_20 : decode cX5_bookInterest 20 = .ok (.putfield 22, 3) := by decide +kernel
theorem dX5_bookInterest_23 : decode cX5_bookInterest 23 = .ok (.aload_n 0, 1) := by decide +kernel
theorem dX5_bookInterest_24 : decode cX5_bookInterest 24 = .ok (.dup, 1) := by decide +kernel
theorem dX5_bookInterest_25 : decode cX5_bookInterest 25 = .ok (.getfield 31, 3) := by decide +kernel
theorem dX5_bookInterest_28 : decode cX5_bookInterest 28 = .ok (.lload_n 1, 1) := by decide +kernel
theorem dX5_bookInterest_29 : decode cX5_bookInterest 29 = .ok (.ladd, 1) := by decide +kernel
theorem dX5_bookInterest_30 : decode cX5_bookInterest 30 = .ok (.putfield 31, 3) := by decide +kernel
theorem dX5_bookInterest_33 : decode cX5_bookInterest 33 = .ok (.aload_n 0, 1) := by decide +kernel
theorem dX5_bookInterest_34 : decode cX5_bookInterest 34 = .ok (.getfield 9, 3) := by decide +kernel
theorem dX5_bookInterest_37 : decode cX5_bookInterest 37 = .ok (.dup, 1) := by decide +kernel
theorem dX5_bookInterest_38 : decode cX5_bookInterest 38 = .ok (.getfield 34, 3) := by decide +kernel
theorem dX5_bookInterest_41 : decode cX5_bookInterest 41 = .ok (.lload_n 1, 1) := by decide +kernel
theorem dX5_bookInterest_42 : decode cX5_bookInterest 42 = .ok (.lsub, 1) := by decide +kernel
theorem dX5_bookInterest_43 : decode cX5_bookInterest 43 = .ok (.putfield 34, 3) := by decide +kernel
theorem dX5_bookInterest_46 : decode cX5_bookInterest 46 = .ok (.return_, 1) := by decide +kernel
theorem dX5_keep_0 : decode cX5_keep 0 = .ok (.aload_n 0, 1) := by decide +kernel
theorem dX5_keep_1 : decode cX5_keep 1 = .ok (.aload_n 0, 1) := by decide +kernel
theorem dX5_keep_2 : decode cX5_keep 2 = .ok (.getfield 26, 3) := by decide +kernel
theorem dX5_keep_5 : decode cX5_keep 5 = .ok (.putfield 39, 3) := by decide +kernel
theorem dX5_keep_8 : decode cX5_keep 8 = .ok (.aload_n 0, 1) := by decide +kernel
theorem dX5_keep_9 : decode cX5_keep 9 = .ok (.aload_n 0, 1) := by decide +kernel
theorem dX5_keep_10 : decode cX5_keep 10 = .ok (.getfield 31, 3) := by decide +kernel
theorem dX5_keep_13 : decode cX5_keep 13 = .ok (.putfield 42, 3) := by decide +kernel
theorem dX5_keep_16 : decode cX5_keep 16 = .ok (.aload_n 0, 1) := by decide +kernel
theorem dX5_keep_17 : decode cX5_keep 17 = .ok (.aload_n 0, 1) := by decide +kernel
theorem dX5_keep_18 : decode cX5_keep 18 = .ok (.getfield 22, 3) := by decide +kernel
theorem dX5_keep_21 : decode cX5_keep 21 = .ok (.putfield 45, 3) := by decide +kernel
theorem dX5_keep_24 : decode cX5_keep 24 = .ok (.return_, 1) := by decide +kernel
theorem dX5_goBack_0 : decode cX5_goBack 0 = .ok (.aload_n 0, 1) := by decide +kernel
theorem dX5_goBack_1 : decode cX5_goBack 1 = .ok (.aload_n 0, 1) := by decide +kernel
theorem dX5_goBack_2 : decode cX5_goBack 2 = .ok (.getfield 39, 3) := by decide +kernel
theorem dX5_goBack_5 : decode cX5_goBack 5 = .ok (.putfield 26, 3) := by decide +kernel
theorem dX5_goBack_8 : decode cX5_goBack 8 = .ok (.aload_n 0, 1) := by decide +kernel
theorem dX5_goBack_9 : decode cX5_goBack 9 = .ok (.aload_n 0, 1) := by decide +kernel
theorem dX5_goBack_10 : decode cX5_goBack 10 = .ok (.getfield 42, 3) := by decide +kernel
theorem dX5_goBack_13 : decode cX5_goBack 13 = .ok (.putfield 31, 3) := by decide +kernel
theorem dX5_goBack_16 : decode cX5_goBack 16 = .ok (.aload_n 0, 1) := by decide +kernel
theorem dX5_goBack_17 : decode cX5_goBack 17 = .ok (.aload_n 0, 1) := by decide +kernel
theorem dX5_goBack_18 : decode cX5_goBack 18 = .ok (.getfield 45, 3) := by decide +kernel
theorem dX5_goBack_21 : decode cX5_goBack 21 = .ok (.putfield 22, 3) := by decide +kernel
theorem dX5_goBack_24 : decode cX5_goBack 24 = .ok (.return_, 1) := by decide +kernel
set_option maxRecDepth 20000 in
theorem ggX6_init_Jx4a65c_init_da8c8 : GoodIn wsX6_init wsJx4a65c_init_da8c8 := goodIn_r _ [17, 18, 19, 20, 21, 22, 23, 24, 25, 26, 27, 28, 29, 2, 3, 41, 42, 43] (by decide +kernel) (by decide +kernel)
set_option maxRecDepth 20000 in
theorem gX6_init_Jx4a65c_init_da8c8 : GoodIn wsX6_init (wsJx4a65c_init_da8c8) := ggX6_init_Jx4a65c_init_da8c8
set_option maxRecDepth 20000 in
theorem ggX6_init_X7_init : GoodIn wsX6_init wsX7_init := goodIn_r _ [32, 33, 2, 3, 34, 35, 36, 37, 38, 39, 40, 49, 50, 51, 52, 53, 54, 55, 56, 57, 58] (by decide +kernel) (by decide +kernel)
set_option maxRecDepth 20000 in
theorem gX6_init_X7_init : GoodIn wsX6_init (wsX7_init) := ggX6_init_X7_init
theorem dX6_init_0 : decode cX6_init 0 = .ok (.aload_n 0, 1) := by decide +kernel
theorem dX6_init_1 : decode cX6_init 1 = .ok (.invokespecial 1, 3) := by decide +kernel
theorem dX6_init_4 : decode cX6_init 4 = .ok (.aload_n 0, 1) := by decide +kernel
theorem dX6_init_5 : decode cX6_init 5 = .ok (.new 7, 3) := by decide +kernel
theorem dX6_init_8 : decode cX6_init 8 = .ok (.dup, 1) := by decide +kernel
theorem dX6_init_9 : decode cX6_init 9 = .ok (.invokespecial 9, 3) := by decide +kernel
theorem dX6_init_12 : decode cX6_init 12 = .ok (.putfield 10, 3) := by decide +kernel
theorem dX6_init_15 : decode cX6_init 15 = .ok (.aload_n 0, 1) := by decide +kernel
theorem dX6_init_16 : decode cX6_init 16 = .ok (.new 7, 3) := by decide +kernel
theorem dX6_init_19 : decode cX6_init 19 = .ok (.dup, 1) := by decide +kernel
theorem dX6_init_20 : decode cX6_init 20 = .ok (.invokespecial 9, 3) := by decide +kernel
theorem dX6_init_23 : decode cX6_init 23 = .ok (.putfield 16, 3) := by decide +kernel
theorem dX6_init_26 : decode cX6_init 26 = .ok (.aload_n 0, 1) := by decide +kernel
theorem dX6_init_27 : decode cX6_init 27 = .ok (.iload_n 1, 1) := by decide +kernel
theorem dX6_init_28 : decode cX6_init 28 = .ok (.putfield 19, 3) := by decide +kernel
theorem dX6_init_31 : decode cX6_init 31 = .ok (.aload_n 0, 1) := by decide +kernel
theorem dX6_init_32 : decode cX6_init 32 = .ok (.new 23, 3) := by decide +kernel
theorem dX6_init_35 : decode cX6_init 35 = .ok (.dup, 1) := by decide +kernel
theorem dX6_init_36 : decode cX6_init 36 = .ok (.iload_n 2, 1) := by decide +kernel
theorem dX6_init_37 : decode cX6_init 37 = .ok (.iconst 1, 1) := by decide +kernel
theorem dX6_init_38 : decode cX6_init 38 = .ok (.invokespecial 25, 3) := by decide +kernel
theorem dX6_init_41 : decode cX6_init 41 = .ok (.putfield 28, 3) := by decide +kernel
theorem dX6_init_44 : decode cX6_init 44 = .ok (.aload_n 0, 1) := by decide +kernel
theorem dX6_init_45 : decode cX6_init 45 = .ok (.new 23, 3) := by decide +kernel
theorem dX6_init_48 : decode cX6_init 48 = .ok (.dup, 1) := by decide +kernel
theorem dX6_init_49 : decode cX6_init 49 = .ok (.iload_n 3, 1) := by decide +kernel
theorem dX6_init_50 : decode cX6_init 50 = .ok (.iconst (-1), 1) := by decide +kernel
theorem dX6_init_51 : decode cX6_init 51 = .ok (.invokespecial 25, 3) := by decide +kernel
theorem dX6_init_54 : decode cX6_init 54 = .ok (.putfield 32, 3) := by decide +kernel
theorem dX6_init_57 : decode cX6_init 57 = .ok (.return_, 1) := by decide +kernel
set_option maxRecDepth 20000 in
theorem ggX6_rank_Jx4a65c_size_8abf5 : GoodIn wsX6_rank wsJx4a65c_size_8abf5 := goodIn_r _ [8, 9, 95, 96, 97] (by decide +kernel) (by decide +kernel)
set_option maxRecDepth 20000 in
theorem gX6_rank_Jx4a65c_size_8abf5 : GoodIn wsX6_rank (wsV RX6 35 RJx4a65c yJx4a65c_size_8abf5 wsJx4a65c_size_8abf5) := goodIn_app (goodIn_of _ (by decide +kernel)) ggX6_rank_Jx4a65c_size_8abf5
set_option maxRecDepth 20000 in
theorem ggX6_rank_Jx4a65c_get_915e3 : GoodIn wsX6_rank wsJx4a65c_get_915e3 := goodIn_r _ [13, 9, 14, 15, 16, 17, 18, 19, 20, 21, 22, 23, 24, 7, 25, 26, 95, 96, 97] (by decide +kernel) (by decide +kernel)
set_option maxRecDepth 20000 in
theorem gX6_rank_Jx4a65c_get_915e3 : GoodIn wsX6_rank (wsV RX6 39 RJx4a65c yJx4a65c_get_915e3 wsJx4a65c_get_915e3) := goodIn_app (goodIn_of _ (by decide +kernel)) ggX6_rank_Jx4a65c_get_915e3
set_option maxRecDepth 20000 in
theorem ggX6_rank_Jx4a65c_add_7a177 : GoodIn wsX6_rank wsJx4a65c_add_7a177 := goodIn_r _ [30, 31, 32, 9, 26, 33, 34, 35, 36, 37, 38, 39, 7, 40, 41, 42, 43, 44, 45, 46, 47, 48, 49, 50, 51, 52, 53, 54, 55, 56, 57, 58, 59, 60, 61, 62, 63, 64, 65, 66, 67, 68, 69, 70, 71, 72, 73, 74, 75, 76, 77, 78, 79, 80, 95, 96, 97] (by decide +kernel) (by decide +kernel)
set_option maxRecDepth 20000 in
theorem gX6_rank_Jx4a65c_add_7a177 : GoodIn wsX6_rank (wsV RX6 48 RJx4a65c yJx4a65c_add_7a177 wsJx4a65c_add_7a177) := goodIn_app (goodIn_of _ (by decide +kernel)) ggX6_rank_Jx4a65c_add_7a177
theorem dX6_rank_0 : decode cX6_rank 0 = .ok (.iconst 0, 1) := by decide +kernel
theorem dX6_rank_1 : decode cX6_rank 1 = .ok (.istore_n 2, 1) := by decide +kernel
theorem dX6_rank_2 : decode cX6_rank 2 = .ok (.iload_n 2, 1) := by decide +kernel
theorem dX6_rank_3 : decode cX6_rank 3 = .ok (.aload_n 0, 1) := by decide +kernel
theorem dX6_rank_4 : decode cX6_rank 4 = .ok (.getfield 16, 3) := by decide +kernel
theorem dX6_rank_7 : decode cX6_rank 7 = .ok (.invokevirtual 35, 3) := by decide +kernel
theorem dX6_rank_10 : decode cX6_rank 10 = .ok (.if_icmp .ge 30, 3) := by decide +kernel
theorem dX6_rank_13 : decode cX6_rank 13 = .ok (.aload_n 0, 1) := by decide +kernel
theorem dX6_rank_14 : decode cX6_rank 14 = .ok (.getfield 16, 3) := by decide +kernel
theorem dX6_rank_17 : decode cX6_rank 17 = .ok (.iload_n 2, 1) := by decide +kernel
theorem dX6_rank_18 : decode cX6_rank 18 = .ok (.invokevirtual 39, 3) := by decide +kernel
theorem dX6_rank_21 : decode cX6_rank 21 = .ok (.checkcast 43, 3) := by decide +kernel
theorem dX6_rank_24 : decode cX6_rank 24 = .ok (.getfield 45, 3) := by decide +kernel
theorem dX6_rank_27 : decode cX6_rank 27 = .ok (.aload_n 1, 1) := by decide +kernel
theorem dX6_rank_28 : decode cX6_rank 28 = .ok (.getfield 45, 3) := by decide +kernel
theorem dX6_rank_31 : decode cX6_rank 31 = .ok (.if_icmp .gt 9, 3) := by decide +kernel
theorem dX6_rank_34 : decode cX6_rank 34 = .ok (.iinc 2 1, 3) := by decide +kernel
theorem dX6_rank_37 : decode cX6_rank 37 = .ok (.goto (-35), 3) := by decide +kernel
theorem dX6_rank_40 : decode cX6_rank 40 = .ok (.aload_n 0, 1) := by decide +kernel
theorem dX6_rank_41 : decode cX6_rank 41 = .ok (.getfield 16, 3) := by decide +kernel
theorem dX6_rank_44 : decode cX6_rank 44 = .ok (.iload_n 2, 1) := by decide +kernel
theorem dX6_rank_45 : decode cX6_rank 45 = .ok (.aload_n 1, 1) := by decide +kernel
theorem dX6_rank_46 : decode cX6_rank 46 = .ok (.invokevirtual 48, 3) := by decide +kernel
theorem dX6_rank_49 : decode cX6_rank 49 = .ok (.return_, 1) := by decide +kernel
set_option maxRecDepth 20000 in
theorem ggX6_drawMissing_Jx4a65c_size_8abf5 : GoodIn wsX6_drawMissing wsJx4a65c_size_8abf5 := goodIn_r _ [17, 18, 62, 63, 64] (by decide +kernel) (by decide +kernel)
set_option maxRecDepth 20000 in
theorem gX6_drawMissing_Jx4a65c_size_8abf5 : GoodIn wsX6_drawMissing (wsV RX6 35 RJx4a65c yJx4a65c_size_8abf5 wsJx4a65c_size_8abf5) := goodIn_app (goodIn_of _ (by decide +kernel)) ggX6_drawMissing_Jx4a65c_size_8abf5
set_option maxRecDepth 20000 in
theorem ggX6_drawMissing_Jx4a65c_get_915e3 : GoodIn wsX6_drawMissing wsJx4a65c_get_915e3 := goodIn_r _ [22, 18, 23, 24, 25, 26, 27, 28, 29, 30, 31, 32, 33, 16, 34, 35, 62, 63, 64] (by decide +kernel) (by decide +kernel)
set_option maxRecDepth 20000 in
theorem gX6_drawMissing_Jx4a65c_get_915e3 : GoodIn wsX6_drawMissing (wsV RX6 39 RJx4a65c yJx4a65c_get_915e3 wsJx4a65c_get_915e3) := goodIn_app (goodIn_of _ (by decide +kernel)) ggX6_drawMissing_Jx4a65c_get_915e3
theorem dX6_drawMissing_0 : decode cX6_drawMissing 0 = .ok (.iconst 0, 1) := by decide +kernel
theorem dX6_drawMissing_1 : decode cX6_drawMissing 1 = .ok (.istore_n 2, 1) := by decide +kernel
theorem dX6_drawMissing_2 : decode cX6_drawMissing 2 = .ok (.iload_n 2, 1) := by decide +kernel
theorem dX6_drawMissing_3 : decode cX6_drawMissing 3 = .ok (.aload_n 0, 1) := by decide +kernel
theorem dX6_drawMissing_4 : decode cX6_drawMissing 4 = .ok (.getfield 16, 3) := by decide +kernel
theorem dX6_drawMissing_7 : decode cX6_drawMissing 7 = .ok (.invokevirtual 35, 3) := by decide +kernel
theorem dX6_drawMissing_10 : decode cX6_drawMissing 10 = .ok (.if_icmp .ge 71, 3) := by decide +kernel
theorem dX6_drawMissing_13 : decode cX6_drawMissing 13 = .ok (.aload_n 0, 1) := by decide +kernel
theorem dX6_drawMissing_14 : decode cX6_drawMissing 14 = .ok (.getfield 16, 3) := by decide +kernel
theorem dX6_drawMissing_17 : decode cX6_drawMissing 17 = .ok (.iload_n 2, 1) := by decide +kernel
theorem dX6_drawMissing_18 : decode cX6_drawMissing 18 = .ok (.invokevirtual 39, 3) := by decide +kernel
theorem dX6_drawMissing_21 : decode cX6_drawMissing 21 = .ok (.checkcast 43, 3) := by decide +kernel
theorem dX6_drawMissing_24 : decode cX6_drawMissing 24 = .ok (.astore_n 3, 1) := by decide +kernel
theorem dX6_drawMissing_25 : decode cX6_drawMissing 25 = .ok (.aload_n 1, 1) := by decide +kernel
theorem dX6_drawMissing_26 : decode cX6_drawMissing 26 = .ok (.getfield 52, 3) := by decide +kernel
theorem dX6_drawMissing_29 : decode cX6_drawMissing 29 = .ok (.lneg, 1) := by decide +kernel
theorem dX6_drawMissing_30 : decode cX6_drawMissing 30 = .ok (.lconst 0, 1) := by decide +kernel
theorem dX6_drawMissing_31 : decode cX6_drawMissing 31 = .ok (.invokestatic 58, 3) := by decide +kernel
theorem dX6_drawMissing_34 : decode cX6_drawMissing 34 = .ok (.lstore 4, 2) := by decide +kernel
theorem dX6_drawMissing_36 : decode cX6_drawMissing 36 = .ok (.lload 4, 2) := by decide +kernel
theorem dX6_drawMissing_38 : decode cX6_drawMissing 38 = .ok (.aload_n 3, 1) := by decide +kernel
theorem dX6_drawMissing_39 : decode cX6_drawMissing 39 = .ok (.getfield 64, 3) := by decide +kernel
theorem dX6_drawMissing_42 : decode cX6_drawMissing 42 = .ok (.i2l, 1) := by decide +kernel
theorem dX6_drawMissing_43 : decode cX6_drawMissing 43 = .ok (.aload_n 3, 1) := by decide +kernel
theorem dX6_drawMissing_44 : decode cX6_drawMissing 44 = .ok (.getfield 67, 3) := by decide +kernel
theorem dX6_drawMissing_47 : decode cX6_drawMissing 47 = .ok (.lsub, 1) := by decide +kernel
theorem dX6_drawMissing_48 : decode cX6_drawMissing 48 = .ok (.invokestatic 70, 3) := by decide +kernel
theorem dX6_drawMissing_51 : decode cX6_drawMissing 51 = .ok (.lstore 6, 2) := by decide +kernel
theorem dX6_drawMissing_53 : decode cX6_drawMissing 53 = .ok (.aload_n 3, 1) := by decide +kernel
theorem dX6_drawMissing_54 : decode cX6_drawMissing 54 = .ok (.dup, 1) := by decide +kernel
theorem dX6_drawMissing_55 : decode cX6_drawMissing 55 = .ok (.getfield 67, 3) := by decide +kernel
theorem dX6_drawMissing_58 : decode cX6_drawMissing 58 = .ok (.lload 6, 2) := by decide +kernel
theorem dX6_drawMissing_60 : decode cX6_drawMissing 60 = .ok (.ladd, 1) := by decide +kernel
theorem dX6_drawMissing_61 : decode cX6_drawMissing 61 = .ok (.putfield 67, 3) := by decide +kernel
theorem dX6_drawMissing_64 : decode cX6_drawMissing 64 = .ok (.aload_n 1, 1) := by decide +kernel
theorem dX6_drawMissing_65 : decode cX6_drawMissing 65 = .ok (.dup, 1) := by decide +kernel
theorem dX6_drawMissing_66 : decode cX6_drawMissing 66 = .ok (.getfield 52, 3) := by decide +kernel
theorem dX6_drawMissing_69 : decode cX6_drawMissing 69 = .ok (.lload 6, 2) := by decide +kernel
theorem dX6_drawMissing_71 : decode cX6_drawMissing 71 = .ok (.ladd, 1) := by decide +kernel
theorem dX6_drawMissing_72 : decode cX6_drawMissing 72 = .ok (.putfield 52, 3) := by decide +kernel
theorem dX6_drawMissing_75 : decode cX6_drawMissing 75 = .ok (.iinc 2 1, 3) := by decide +kernel
theorem dX6_drawMissing_78 : decode cX6_drawMissing 78 = .ok (.goto (-76), 3) := by decide +kernel
theorem dX6_drawMissing_81 : decode cX6_drawMissing 81 = .ok (.return_, 1) := by decide +kernel
set_option maxRecDepth 20000 in
theorem ggX6_payBack_Jx4a65c_size_8abf5 : GoodIn wsX6_payBack wsJx4a65c_size_8abf5 := goodIn_r _ [16, 17, 61, 62, 63] (by decide +kernel) (by decide +kernel)
set_option maxRecDepth 20000 in
theorem gX6_payBack_Jx4a65c_size_8abf5 : GoodIn wsX6_payBack (wsV RX6 35 RJx4a65c yJx4a65c_size_8abf5 wsJx4a65c_size_8abf5) := goodIn_app (goodIn_of _ (by decide +kernel)) ggX6_payBack_Jx4a65c_size_8abf5
set_option maxRecDepth 20000 in
theorem ggX6_payBack_Jx4a65c_get_915e3 : GoodIn wsX6_payBack wsJx4a65c_get_915e3 := goodIn_r _ [21, 17, 22, 23, 24, 25, 26, 27, 28, 29, 30, 31, 32, 15, 33, 34, 61, 62, 63] (by decide +kernel) (by decide +kernel)
set_option maxRecDepth 20000 in
theorem gX6_payBack_Jx4a65c_get_915e3 : GoodIn wsX6_payBack (wsV RX6 39 RJx4a65c yJx4a65c_get_915e3 wsJx4a65c_get_915e3) := goodIn_app (goodIn_of _ (by decide +kernel)) ggX6_payBack_Jx4a65c_get_915e3
theorem dX6_payBack_0 : decode cX6_payBack 0 = .ok (.aload_n 0, 1) := by decide +kernel
theorem dX6_payBack_1 : decode cX6_payBack 1 = .ok (.getfield 16, 3) := by decide +kernel
theorem dX6_payBack_4 : decode cX6_payBack 4 = .ok (.invokevirtual 35, 3) := by decide +kernel
theorem dX6_payBack_7 : decode cX6_payBack 7 = .ok (.iconst 1, 1) := by decide +kernel
theorem dX6_payBack_8 : decode cX6_payBack 8 = .ok (.isub, 1) := by decide +kernel
theorem dX6_payBack_9 : decode cX6_payBack 9 = .ok (.istore_n 2, 1) := by decide +kernel
theorem dX6_payBack_10 : decode cX6_payBack 10 = .ok (.iload_n 2, 1) := by decide +kernel
theorem dX6_payBack_11 : decode cX6_payBack 11 = .ok (.ifCond .lt 60, 3) := by decide +kernel
theorem dX6_payBack_14 : decode cX6_payBack 14 = .ok (.aload_n 0, 1) := by decide +kernel
theorem dX6_payBack_15 : decode cX6_payBack 15 = .ok (.getfield 16, 3) := by decide +kernel
theorem dX6_payBack_18 : decode cX6_payBack 18 = .ok (.iload_n 2, 1) := by decide +kernel
theorem dX6_payBack_19 : decode cX6_payBack 19 = .ok (.invokevirtual 39, 3) := by decide +kernel
theorem dX6_payBack_22 : decode cX6_payBack 22 = .ok (.checkcast 43, 3) := by decide +kernel
theorem dX6_payBack_25 : decode cX6_payBack 25 = .ok (.astore_n 3, 1) := by decide +kernel
theorem dX6_payBack_26 : decode cX6_payBack 26 = .ok (.aload_n 1, 1) := by decide +kernel
theorem dX6_payBack_27 : decode cX6_payBack 27 = .ok (.getfield 52, 3) := by decide +kernel
theorem dX6_payBack_30 : decode cX6_payBack 30 = .ok (.lconst 0, 1) := by decide +kernel
theorem dX6_payBack_31 : decode cX6_payBack 31 = .ok (.invokestatic 58, 3) := by decide +kernel
theorem dX6_payBack_34 : decode cX6_payBack 34 = .ok (.aload_n 3, 1) := by decide +kernel
theorem dX6_payBack_35 : decode cX6_payBack 35 = .ok (.getfield 67, 3) := by decide +kernel
theorem dX6_payBack_38 : decode cX6_payBack 38 = .ok (.invokestatic 70, 3) := by decide +kernel
theorem dX6_payBack_41 : decode cX6_payBack 41 = .ok (.lstore 4, 2) := by decide +kernel
theorem dX6_payBack_43 : decode cX6_payBack 43 = .ok (.aload_n 3, 1) := by decide +kernel
theorem dX6_payBack_44 : decode cX6_payBack 44 = .ok (.dup, 1) := by decide +kernel
theorem dX6_payBack_45 : decode cX6_payBack 45 = .ok (.getfield 67, 3) := by decide +kernel
theorem dX6_payBack_48 : decode cX6_payBack 48 = .ok (.lload 4, 2) := by decide +kernel
theorem dX6_payBack_50 : decode cX6_payBack 50 = .ok (.lsub, 1) := by decide +kernel
theorem dX6_payBack_51 : decode cX6_payBack 51 = .ok (.putfield 67, 3) := by decide +kernel
theorem dX6_payBack_54 : decode cX6_payBack 54 = .ok (.aload_n 1, 1) := by decide +kernel
theorem dX6_payBack_55 : decode cX6_payBack 55 = .ok (.dup, 1) := by decide +kernel
theorem dX6_payBack_56 : decode cX6_payBack 56 = .ok (.getfield 52, 3) := by decide +kernel
theorem dX6_payBack_59 : decode cX6_payBack 59 = .ok (.lload 4, 2) := by decide +kernel
theorem dX6_payBack_61 : decode cX6_payBack 61 = .ok (.lsub, 1) := by decide +kernel
theorem dX6_payBack_62 : decode cX6_payBack 62 = .ok (.putfield 52, 3) := by decide +kernel
theorem dX6_payBack_65 : decode cX6_payBack 65 = .ok (.iinc 2 (-1), 3) := by decide +kernel
theorem dX6_payBack_68 : decode cX6_payBack 68 = .ok (.goto (-58), 3) := by decide +kernel
theorem dX6_payBack_71 : decode cX6_payBack 71 = .ok (.return_, 1) := by decide +kernel
set_option maxRecDepth 20000 in
theorem ggX6_accrue_Jx4a65c_size_8abf5 : GoodIn wsX6_accrue wsJx4a65c_size_8abf5 := goodIn_r _ [10, 11, 63, 64, 65] (by decide +kernel) (by decide +kernel)
set_option maxRecDepth 20000 in
theorem gX6_accrue_Jx4a65c_size_8abf5 : GoodIn wsX6_accrue (wsV RX6 35 RJx4a65c yJx4a65c_size_8abf5 wsJx4a65c_size_8abf5) := goodIn_app (goodIn_of _ (by decide +kernel)) ggX6_accrue_Jx4a65c_size_8abf5
set_option maxRecDepth 20000 in
theorem ggX6_accrue_Jx4a65c_get_915e3 : GoodIn wsX6_accrue wsJx4a65c_get_915e3 := goodIn_r _ [15, 11, 16, 17, 18, 19, 20, 21, 22, 23, 24, 25, 26, 9, 27, 28, 63, 64, 65] (by decide +kernel) (by decide +kernel)
set_option maxRecDepth 20000 in
theorem gX6_accrue_Jx4a65c_get_915e3 : GoodIn wsX6_accrue (wsV RX6 39 RJx4a65c yJx4a65c_get_915e3 wsJx4a65c_get_915e3) := goodIn_app (goodIn_of _ (by decide +kernel)) ggX6_accrue_Jx4a65c_get_915e3
set_option maxRecDepth 20000 in
theorem ggX6_accrue_X7_accrue : GoodIn wsX6_accrue wsX7_accrue := goodIn_r _ [33, 34, 35, 36, 37, 38, 39, 40, 41, 42, 43, 44, 7, 8, 9, 10, 11, 45, 13, 14, 15, 16, 17, 18, 19, 20, 21, 22, 23, 24, 25, 26, 27, 28, 66, 67, 68, 69, 70, 71, 72, 73, 74, 75, 51, 52, 53, 54, 55, 56, 57, 58, 59, 60, 61, 62, 63, 64, 65] (by decide +kernel) (by decide +kernel)
set_option maxRecDepth 20000 in
theorem gX6_accrue_X7_accrue : GoodIn wsX6_accrue (wsV RX6 73 RX7 yX7_accrue wsX7_accrue) := goodIn_app (goodIn_of _ (by decide +kernel)) ggX6_accrue_X7_accrue
theorem dX6_accrue_0 : decode cX6_accrue 0 = .ok (.lconst 0, 1) := by decide +kernel
theorem dX6_accrue_1 : decode cX6_accrue 1 = .ok (.lstore_n 1, 1) := by decide +kernel
theorem dX6_accrue_2 : decode cX6_accrue 2 = .ok (.iconst 0, 1) := by decide +kernel
theorem dX6_accrue_3 : decode cX6_accrue 3 = .ok (.istore_n 3, 1) := by decide +kernel
theorem dX6_accrue_4 : decode cX6_accrue 4 = .ok (.iload_n 3, 1) := by decide +kernel
theorem dX6_accrue_5 : decode cX6_accrue 5 = .ok (.aload_n 0, 1) := by decide +kernel
theorem dX6_accrue_6 : decode cX6_accrue 6 = .ok (.getfield 10, 3) := by decide +kernel
theorem dX6_accrue_9 : decode cX6_accrue 9 = .ok (.invokevirtual 35, 3) := by decide +kernel
theorem dX6_accrue_12 : decode cX6_accrue 12 = .ok (.if_icmp .ge 26, 3) := by decide +kernel
theorem dX6_accrue_15 : decode cX6_accrue 15 = .ok (.lload_n 1, 1) := by decide +kernel
theorem dX6_accrue_16 : decode cX6_accrue 16 = .ok (.aload_n 0, 1) := by decide +kernel
theorem dX6_accrue_17 : decode cX6_accrue 17 = .ok (.getfield 10, 3) := by decide +kernel
theorem dX6_accrue_20 : decode cX6_accrue 20 = .ok (.iload_n 3, 1) := by decide +kernel
theorem dX6_accrue_21 : decode cX6_accrue 21 = .ok (.invokevirtual 39, 3) := by decide +kernel
theorem dX6_accrue_24 : decode cX6_accrue 24 = .ok (.checkcast 53, 3) := by decide +kernel
theorem dX6_accrue_27 : decode cX6_accrue 27 = .ok (.getfield 52, 3) := by decide +kernel
theorem dX6_accrue_30 : decode cX6_accrue 30 = .ok (.ladd, 1) := by decide +kernel
theorem dX6_accrue_31 : decode cX6_accrue 31 = .ok (.lstore_n 1, 1) := by decide +kernel
theorem dX6_accrue_32 : decode cX6_accrue 32 = .ok (.iinc 3 1, 3) := by decide +kernel
theorem dX6_accrue_35 : decode cX6_accrue 35 = .ok (.goto (-31), 3) := by decide +kernel
theorem dX6_accrue_38 : decode cX6_accrue 38 = .ok (.aload_n 0, 1) := by decide +kernel
theorem dX6_accrue_39 : decode cX6_accrue 39 = .ok (.getfield 28, 3) := by decide +kernel
theorem dX6_accrue_42 : decode cX6_accrue 42 = .ok (.lload_n 1, 1) := by decide +kernel
theorem dX6_accrue_43 : decode cX6_accrue 43 = .ok (.aload_n 0, 1) := by decide +kernel
theorem dX6_accrue_44 : decode cX6_accrue 44 = .ok (.getfield 10, 3) := by decide +kernel
theorem dX6_accrue_47 : decode cX6_accrue 47 = .ok (.invokevirtual 73, 3) := by decide +kernel
theorem dX6_accrue_50 : decode cX6_accrue 50 = .ok (.aload_n 0, 1) := by decide +kernel
theorem dX6_accrue_51 : decode cX6_accrue 51 = .ok (.getfield 32, 3) := by decide +kernel
theorem dX6_accrue_54 : decode cX6_accrue 54 = .ok (.lload_n 1, 1) := by decide +kernel
theorem dX6_accrue_55 : decode cX6_accrue 55 = .ok (.aload_n 0, 1) := by decide +kernel
theorem dX6_accrue_56 : decode cX6_accrue 56 = .ok (.getfield 10, 3) := by decide +kernel
theorem dX6_accrue_59 : decode cX6_accrue 59 = .ok (.invokevirtual 73, 3) := by decide +kernel
theorem dX6_accrue_62 : decode cX6_accrue 62 = .ok (.return_, 1) := by decide +kernel
set_option maxRecDepth 20000 in
theorem ggX6_bookInterest_X7_bookTo : GoodIn wsX6_bookInterest wsX7_bookTo := goodIn_r _ [8, 9, 10, 11, 12, 13, 14, 15, 16, 17, 18, 7, 19, 20, 21, 22, 23, 24, 25, 26, 27, 28, 29, 30, 31, 32, 33, 34, 35, 36, 37, 38, 39, 40, 41, 42, 43, 44, 45, 46, 47, 48, 49, 50, 51, 52, 53, 54, 55, 61, 62, 63, 64, 65, 66, 67, 68, 69, 70, 71, 72, 73, 74, 75, 76, 77, 78, 79, 80, 81, 82, 83, 84, 85] (by decide +kernel) (by decide +kernel)
set_option maxRecDepth 20000 in
theorem gX6_bookInterest_X7_bookTo : GoodIn wsX6_bookInterest (wsV RX6 77 RX7 yX7_bookTo wsX7_bookTo) := goodIn_app (goodIn_of _ (by decide +kernel)) ggX6_bookInterest_X7_bookTo
theorem dX6_bookInterest_0 : decode cX6_bookInterest 0 = .ok (.aload_n 0, 1) := by decide +kernel
theorem dX6_bookInterest_1 : decode cX6_bookInterest 1 = .ok (.getfield 28, 3) := by decide +kernel
theorem dX6_bookInterest_4 : decode cX6_bookInterest 4 = .ok (.aload_n 0, 1) := by decide +kernel
theorem dX6_bookInterest_5 : decode cX6_bookInterest 5 = .ok (.getfield 10, 3) := by decide +kernel
theorem dX6_bookInterest_8 : decode cX6_bookInterest 8 = .ok (.invokevirtual 77, 3) := by decide +kernel
theorem dX6_bookInterest_11 : decode cX6_bookInterest 11 = .ok (.aload_n 0, 1) := by decide +kernel
theorem dX6_bookInterest_12 : decode cX6_bookInterest 12 = .ok (.getfield 32, 3) := by decide +kernel
theorem dX6_bookInterest_15 : decode cX6_bookInterest 15 = .ok (.aload_n 0, 1) := by decide +kernel
theorem dX6_bookInterest_16 : decode cX6_bookInterest 16 = .ok (.getfield 10, 3) := by decide +kernel
theorem dX6_bookInterest_19 : decode cX6_bookInterest 19 = .ok (.invokevirtual 77, 3) := by decide +kernel
theorem dX6_bookInterest_22 : decode cX6_bookInterest 22 = .ok (.return_, 1) := by decide +kernel
set_option maxRecDepth 20000 in
theorem ggX6_keep_X7_keep : GoodIn wsX6_keep wsX7_keep := goodIn_r _ [7, 8, 9, 10, 11, 12, 13, 14, 15, 16, 17, 23, 24, 25, 26, 27, 28, 29, 30, 31, 32] (by decide +kernel) (by decide +kernel)
set_option maxRecDepth 20000 in
theorem gX6_keep_X7_keep : GoodIn wsX6_keep (wsV RX6 81 RX7 yX7_keep wsX7_keep) := goodIn_app (goodIn_of _ (by decide +kernel)) ggX6_keep_X7_keep
theorem dX6_keep_0 : decode cX6_keep 0 = .ok (.aload_n 0, 1) := by decide +kernel
theorem dX6_keep_1 : decode cX6_keep 1 = .ok (.getfield 28, 3) := by decide +kernel
theorem dX6_keep_4 : decode cX6_keep 4 = .ok (.invokevirtual 81, 3) := by decide +kernel
theorem dX6_keep_7 : decode cX6_keep 7 = .ok (.aload_n 0, 1) := by decide +kernel
theorem dX6_keep_8 : decode cX6_keep 8 = .ok (.getfield 32, 3) := by decide +kernel
theorem dX6_keep_11 : decode cX6_keep 11 = .ok (.invokevirtual 81, 3) := by decide +kernel
theorem dX6_keep_14 : decode cX6_keep 14 = .ok (.return_, 1) := by decide +kernel
set_option maxRecDepth 20000 in
theorem ggX6_goBack_X7_goBack : GoodIn wsX6_goBack wsX7_goBack := goodIn_r _ [7, 8, 9, 10, 11, 12, 13, 14, 15, 16, 17, 23, 24, 25, 26, 27, 28, 29, 30, 31, 32] (by decide +kernel) (by decide +kernel)
set_option maxRecDepth 20000 in
theorem gX6_goBack_X7_goBack : GoodIn wsX6_goBack (wsV RX6 84 RX7 yX7_goBack wsX7_goBack) := goodIn_app (goodIn_of _ (by decide +kernel)) ggX6_goBack_X7_goBack
theorem dX6_goBack_0 : decode cX6_goBack 0 = .ok (.aload_n 0, 1) := by decide +kernel
theorem dX6_goBack_1 : decode cX6_goBack 1 = .ok (.getfield 28, 3) := by decide +kernel
theorem dX6_goBack_4 : decode cX6_goBack 4 = .ok (.invokevirtual 84, 3) := by decide +kernel
theorem dX6_goBack_7 : decode cX6_goBack 7 = .ok (.aload_n 0, 1) := by decide +kernel
theorem dX6_goBack_8 : decode cX6_goBack 8 = .ok (.getfield 32, 3) := by decide +kernel
theorem dX6_goBack_11 : decode cX6_goBack 11 = .ok (.invokevirtual 84, 3) := by decide +kernel
theorem dX6_goBack_14 : decode cX6_goBack 14 = .ok (.return_, 1) := by decide +kernel
theorem dX7_init_0 : decode cX7_init 0 = .ok (.aload_n 0, 1) := by decide +kernel
theorem dX7_init_1 : decode cX7_init 1 = .ok (.invokespecial 3, 3) := by decide +kernel
theorem dX7_init_4 : decode cX7_init 4 = .ok (.aload_n 0, 1) := by decide +kernel
theorem dX7_init_5 : decode cX7_init 5 = .ok (.bipush 10, 2) := by decide +kernel
theorem dX7_init_7 : decode cX7_init 7 = .ok (.newarray .long, 2) := by decide +kernel
theorem dX7_init_9 : decode cX7_init 9 = .ok (.putfield 9, 3) := by decide +kernel
theorem dX7_init_12 : decode cX7_init 12 = .ok (.aload_n 0, 1) := by decide +kernel
theorem dX7_init_13 : decode cX7_init 13 = .ok (.bipush 10, 2) := by decide +kernel
theorem dX7_init_15 : decode cX7_init 15 = .ok (.newarray .long, 2) := by decide +kernel
theorem dX7_init_17 : decode cX7_init 17 = .ok (.putfield 15, 3) := by decide +kernel
theorem dX7_init_20 : decode cX7_init 20 = .ok (.aload_n 0, 1) := by decide +kernel
theorem dX7_init_21 : decode cX7_init 21 = .ok (.bipush 10, 2) := by decide +kernel
theorem dX7_init_23 : decode cX7_init 23 = .ok (.newarray .long, 2) := by decide +kernel
theorem dX7_init_25 : decode cX7_init 25 = .ok (.putfield 18, 3) := by decide +kernel
theorem dX7_init_28 : decode cX7_init 28 = .ok (.aload_n 0, 1) := by decide +kernel
theorem dX7_init_29 : decode cX7_init 29 = .ok (.bipush 10, 2) := by decide +kernel
theorem dX7_init_31 : decode cX7_init 31 = .ok (.newarray .long, 2) := by decide +kernel
theorem dX7_init_33 : decode cX7_init 33 = .ok (.putfield 21, 3) := by decide +kernel
theorem dX7_init_36 : decode cX7_init 36 = .ok (.aload_n 0, 1) := by decide +kernel
theorem dX7_init_37 : decode cX7_init 37 = .ok (.iload_n 1, 1) := by decide +kernel
theorem dX7_init_38 : decode cX7_init 38 = .ok (.putfield 24, 3) := by decide +kernel
theorem dX7_init_41 : decode cX7_init 41 = .ok (.aload_n 0, 1) := by decide +kernel
theorem dX7_init_42 : decode cX7_init 42 = .ok (.iload_n 2, 1) := by decide +kernel
theorem dX7_init_43 : decode cX7_init 43 = .ok (.putfield 28, 3) := by decide +kernel
theorem dX7_init_46 : decode cX7_init 46 = .ok (.return_, 1) := by decide +kernel
set_option maxRecDepth 20000 in
theorem ggX7_accrue_Jx4a65c_size_8abf5 : GoodIn wsX7_accrue wsJx4a65c_size_8abf5 := goodIn_r _ [15, 16, 56, 57, 58] (by decide +kernel) (by decide +kernel)
set_option maxRecDepth 20000 in
theorem gX7_accrue_Jx4a65c_size_8abf5 : GoodIn wsX7_accrue (wsV RX7 35 RJx4a65c yJx4a65c_size_8abf5 wsJx4a65c_size_8abf5) := goodIn_app (goodIn_of _ (by decide +kernel)) ggX7_accrue_Jx4a65c_size_8abf5
set_option maxRecDepth 20000 in
theorem ggX7_accrue_Jx4a65c_get_915e3 : GoodIn wsX7_accrue wsJx4a65c_get_915e3 := goodIn_r _ [20, 16, 21, 22, 23, 24, 25, 26, 27, 28, 29, 30, 31, 14, 32, 33, 56, 57, 58] (by decide +kernel) (by decide +kernel)
set_option maxRecDepth 20000 in
theorem gX7_accrue_Jx4a65c_get_915e3 : GoodIn wsX7_accrue (wsV RX7 41 RJx4a65c yJx4a65c_get_915e3 wsJx4a65c_get_915e3) := goodIn_app (goodIn_of _ (by decide +kernel)) ggX7_accrue_Jx4a65c_get_915e3
theorem dX7_accrue_0 : decode cX7_accrue 0 = .ok (.aload_n 0, 1) := by decide +kernel
theorem dX7_accrue_1 : decode cX7_accrue 1 = .ok (.getfield 28, 3) := by decide +kernel
theorem dX7_accrue_4 : decode cX7_accrue 4 = .ok (.i2l, 1) := by decide +kernel
theorem dX7_accrue_5 : decode cX7_accrue 5 = .ok (.lload_n 1, 1) := by decide +kernel
theorem dX7_accrue_6 : decode cX7_accrue 6 = .ok (.lmul, 1) := by decide +kernel
theorem dX7_accrue_7 : decode cX7_accrue 7 = .ok (.lstore 4, 2) := by decide +kernel
theorem dX7_accrue_9 : decode cX7_accrue 9 = .ok (.lload 4, 2) := by decide +kernel
theorem dX7_accrue_11 : decode cX7_accrue 11 = .ok (.lconst 0, 1) := by decide +kernel
theorem dX7_accrue_12 : decode cX7_accrue 12 = .ok (.lcmp, 1) := by decide +kernel
theorem dX7_accrue_13 : decode cX7_accrue 13 = .ok (.ifCond .gt 4, 3) := by decide +kernel
theorem dX7_accrue_16 : decode cX7_accrue 16 = .ok (.return_, 1) := by decide +kernel
theorem dX7_accrue_17 : decode cX7_accrue 17 = .ok (.aload_n 0, 1) := by decide +kernel
theorem dX7_accrue_18 : decode cX7_accrue 18 = .ok (.dup, 1) := by decide +kernel
theorem dX7_accrue_19 : decode cX7_accrue 19 = .ok (.getfield 31, 3) := by decide +kernel
theorem dX7_accrue_22 : decode cX7_accrue 22 = .ok (.lload 4, 2) := by decide +kernel
theorem dX7_accrue_24 : decode cX7_accrue 24 = .ok (.aload_n 0, 1) := by decide +kernel
theorem dX7_accrue_25 : decode cX7_accrue 25 = .ok (.getfield 24, 3) := by decide +kernel
theorem dX7_accrue_28 : decode cX7_accrue 28 = .ok (.i2l, 1) := by decide +kernel
theorem dX7_accrue_29 : decode cX7_accrue 29 = .ok (.lmul, 1) := by decide +kernel
theorem dX7_accrue_30 : decode cX7_accrue 30 = .ok (.ladd, 1) := by decide +kernel
theorem dX7_accrue_31 : decode cX7_accrue 31 = .ok (.putfield 31, 3) := by decide +kernel
theorem dX7_accrue_34 : decode cX7_accrue 34 = .ok (.iconst 0, 1) := by decide +kernel
theorem dX7_accrue_35 : decode cX7_accrue 35 = .ok (.istore 6, 2) := by decide +kernel
theorem dX7_accrue_37 : decode cX7_accrue 37 = .ok (.iload 6, 2) := by decide +kernel
theorem dX7_accrue_39 : decode cX7_accrue 39 = .ok (.aload_n 3, 1) := by decide +kernel
theorem dX7_accrue_40 : decode cX7_accrue 40 = .ok (.invokevirtual 35, 3) := by decide +kernel
theorem dX7_accrue_43 : decode cX7_accrue 43 = .ok (.if_icmp .ge 51, 3) := by decide +kernel
theorem dX7_accrue_46 : decode cX7_accrue 46 = .ok (.iload 6, 2) := by decide +kernel
theorem dX7_accrue_48 : decode cX7_accrue 48 = .ok (.aload_n 0, 1) := by decide +kernel
theorem dX7_accrue_49 : decode cX7_accrue 49 = .ok (.getfield 9, 3) := by decide +kernel
theorem dX7_accrue_52 : decode cX7_accrue 52 = .ok (.arraylength, 1) := by decide +kernel
theorem dX7_accrue_53 : decode cX7_accrue 53 = .ok (.if_icmp .ge 41, 3) := by decide +kernel
theorem dX7_accrue_56 : decode cX7_accrue 56 = .ok (.aload_n 0, 1) := by decide +kernel
theorem dX7_accrue_57 : decode cX7_accrue 57 = .ok (.getfield 9, 3) := by decide +kernel
theorem dX7_accrue_60 : decode cX7_accrue 60 = .ok (.iload 6, 2) := by decide +kernel
theorem dX7_accrue_62 : decode cX7_accrue 62 = .ok (.dup2, 1) := by decide +kernel
theorem dX7_accrue_63 : decode cX7_accrue 63 = .ok (.laload, 1) := by decide +kernel
theorem dX7_accrue_64 : decode cX7_accrue 64 = .ok (.aload_n 0, 1) := by decide +kernel
theorem dX7_accrue_65 : decode cX7_accrue 65 = .ok (.getfield 28, 3) := by decide +kernel
theorem dX7_accrue_68 : decode cX7_accrue 68 = .ok (.i2l, 1) := by decide +kernel
theorem dX7_accrue_69 : decode cX7_accrue 69 = .ok (.aload_n 3, 1) := by decide +kernel
theorem dX7_accrue_70 : decode cX7_accrue 70 = .ok (.iload 6, 2) := by decide +kernel
theorem dX7_accrue_72 : decode cX7_accrue 72 = .ok (.invokevirtual 41, 3) := by decide +kernel
theorem dX7_accrue_75 : decode cX7_accrue 75 = .ok (.checkcast 45, 3) := by decide +kernel
theorem dX7_accrue_78 : decode cX7_accrue 78 = .ok (.getfield 47, 3) := by decide +kernel
theorem dX7_accrue_81 : decode cX7_accrue 81 = .ok (.lmul, 1) := by decide +kernel
theorem dX7_accrue_82 : decode cX7_accrue 82 = .ok (.lconst 0, 1) := by decide +kernel
theorem dX7_accrue_83 : decode cX7_accrue 83 = .ok (.invokestatic 50, 3) := by decide +kernel
theorem dX7_accrue_86 : decode cX7_accrue 86 = .ok (.ladd, 1) := by decide +kernel
theorem dX7_accrue_87 : decode cX7_accrue 87 = .ok (.lastore, 1) := by decide +kernel
theorem dX7_accrue_88 : decode cX7_accrue 88 = .ok (.iinc 6 1, 3) := by decide +kernel
theorem dX7_accrue_91 : decode cX7_accrue 91 = .ok (.goto (-54), 3) := by decide +kernel
theorem dX7_accrue_94 : decode cX7_accrue 94 = .ok (.return_, 1) := by decide +kernel
set_option maxRecDepth 20000 in
theorem ggX7_bookTo_X7_split : GoodIn wsX7_bookTo wsX7_split := goodIn_r _ [12, 4, 7, 13, 14, 15, 16, 11, 17, 18, 49, 50, 51, 52, 53, 54, 55, 56, 57, 58] (by decide +kernel) (by decide +kernel)
set_option maxRecDepth 20000 in
theorem gX7_bookTo_X7_split : GoodIn wsX7_bookTo (wsV RX7 61 RX7 yX7_split wsX7_split) := goodIn_app (goodIn_of _ (by decide +kernel)) ggX7_bookTo_X7_split
set_option maxRecDepth 20000 in
theorem ggX7_bookTo_Jx4a65c_size_8abf5 : GoodIn wsX7_bookTo wsJx4a65c_size_8abf5 := goodIn_r _ [23, 24, 59, 60, 61] (by decide +kernel) (by decide +kernel)
set_option maxRecDepth 20000 in
theorem gX7_bookTo_Jx4a65c_size_8abf5 : GoodIn wsX7_bookTo (wsV RX7 35 RJx4a65c yJx4a65c_size_8abf5 wsJx4a65c_size_8abf5) := goodIn_app (goodIn_of _ (by decide +kernel)) ggX7_bookTo_Jx4a65c_size_8abf5
set_option maxRecDepth 20000 in
theorem ggX7_bookTo_Jx4a65c_get_915e3 : GoodIn wsX7_bookTo wsJx4a65c_get_915e3 := goodIn_r _ [28, 24, 29, 30, 31, 32, 33, 34, 35, 36, 37, 38, 39, 22, 40, 41, 59, 60, 61] (by decide +kernel) (by decide +kernel)
set_option maxRecDepth 20000 in
theorem gX7_bookTo_Jx4a65c_get_915e3 : GoodIn wsX7_bookTo (wsV RX7 41 RJx4a65c yJx4a65c_get_915e3 wsJx4a65c_get_915e3) := goodIn_app (goodIn_of _ (by decide +kernel)) ggX7_bookTo_Jx4a65c_get_915e3
set_option maxRecDepth 20000 in
theorem ggX7_bookTo_X0_addInterest : GoodIn wsX7_bookTo wsX0_addInterest := goodIn_r _ [46, 47, 48, 62, 63, 64, 65, 66, 67, 68, 69, 70, 71, 72, 73] (by decide +kernel) (by decide +kernel)
set_option maxRecDepth 20000 in
theorem gX7_bookTo_X0_addInterest : GoodIn wsX7_bookTo (wsV RX7 65 RX0 yX0_addInterest wsX0_addInterest) := goodIn_app (goodIn_of _ (by decide +kernel)) ggX7_bookTo_X0_addInterest
theorem dX7_bookTo_0 : decode cX7_bookTo 0 = .ok (.aload_n 0, 1) := by decide +kernel
theorem dX7_bookTo_1 : decode cX7_bookTo 1 = .ok (.getfield 31, 3) := by decide +kernel
theorem dX7_bookTo_4 : decode cX7_bookTo 4 = .ok (.ldc2_w 56, 3) := by decide +kernel
theorem dX7_bookTo_7 : decode cX7_bookTo 7 = .ok (.ldiv, 1) := by decide +kernel
theorem dX7_bookTo_8 : decode cX7_bookTo 8 = .ok (.lstore_n 2, 1) := by decide +kernel
theorem dX7_bookTo_9 : decode cX7_bookTo 9 = .ok (.aload_n 0, 1) := by decide +kernel
theorem dX7_bookTo_10 : decode cX7_bookTo 10 = .ok (.dup, 1) := by decide +kernel
theorem dX7_bookTo_11 : decode cX7_bookTo 11 = .ok (.getfield 31, 3) := by decide +kernel
theorem dX7_bookTo_14 : decode cX7_bookTo 14 = .ok (.lload_n 2, 1) := by decide +kernel
theorem dX7_bookTo_15 : decode cX7_bookTo 15 = .ok (.ldc2_w 56, 3) := by decide +kernel
theorem dX7_bookTo_18 : decode cX7_bookTo 18 = .ok (.lmul, 1) := by decide +kernel
theorem dX7_bookTo_19 : decode cX7_bookTo 19 = .ok (.lsub, 1) := by decide +kernel
theorem dX7_bookTo_20 : decode cX7_bookTo 20 = .ok (.putfield 31, 3) := by decide +kernel
theorem dX7_bookTo_23 : decode cX7_bookTo 23 = .ok (.aload_n 0, 1) := by decide +kernel
theorem dX7_bookTo_24 : decode cX7_bookTo 24 = .ok (.dup, 1) := by decide +kernel
theorem dX7_bookTo_25 : decode cX7_bookTo 25 = .ok (.getfield 58, 3) := by decide +kernel
theorem dX7_bookTo_28 : decode cX7_bookTo 28 = .ok (.lload_n 2, 1) := by decide +kernel
theorem dX7_bookTo_29 : decode cX7_bookTo 29 = .ok (.ladd, 1) := by decide +kernel
theorem dX7_bookTo_30 : decode cX7_bookTo 30 = .ok (.putfield 58, 3) := by decide +kernel
theorem dX7_bookTo_33 : decode cX7_bookTo 33 = .ok (.aload_n 0, 1) := by decide +kernel
theorem dX7_bookTo_34 : decode cX7_bookTo 34 = .ok (.lload_n 2, 1) := by decide +kernel
theorem dX7_bookTo_35 : decode cX7_bookTo 35 = .ok (.invokevirtual 61, 3) := by decide +kernel
theorem dX7_bookTo_38 : decode cX7_bookTo 38 = .ok (.iconst 0, 1) := by decide +kernel
theorem dX7_bookTo_39 : decode cX7_bookTo 39 = .ok (.istore 4, 2) := by decide +kernel
theorem dX7_bookTo_41 : decode cX7_bookTo 41 = .ok (.iload 4, 2) := by decide +kernel
theorem dX7_bookTo_43 : decode cX7_bookTo 43 = .ok (.aload_n 0, 1) := by decide +kernel
theorem dX7_bookTo_44 : decode cX7_bookTo 44 = .ok (.getfield 9, 3) := by decide +kernel
theorem dX7_bookTo_47 : decode cX7_bookTo 47 = .ok (.arraylength, 1) := by decide +kernel
theorem dX7_bookTo_48 : decode cX7_bookTo 48 = .ok (.if_icmp .ge 51, 3) := by decide +kernel
theorem dX7_bookTo_51 : decode cX7_bookTo 51 = .ok (.iload 4, 2) := by decide +kernel
theorem dX7_bookTo_53 : decode cX7_bookTo 53 = .ok (.aload_n 1, 1) := by decide +kernel
theorem dX7_bookTo_54 : decode cX7_bookTo 54 = .ok (.invokevirtual 35, 3) := by decide +kernel
theorem dX7_bookTo_57 : decode cX7_bookTo 57 = .ok (.if_icmp .ge 28, 3) := by decide +kernel
theorem dX7_bookTo_60 : decode cX7_bookTo 60 = .ok (.aload_n 1, 1) := by decide +kernel
theorem dX7_bookTo_61 : decode cX7_bookTo 61 = .ok (.iload 4, 2) := by decide +kernel
theorem dX7_bookTo_63 : decode cX7_bookTo 63 = .ok (.invokevirtual 41, 3) := by decide +kernel
theorem dX7_bookTo_66 : decode cX7_bookTo 66 = .ok (.checkcast 45, 3) := by decide +kernel
theorem dX7_bookTo_69 : decode cX7_bookTo 69 = .ok (.aload_n 0, 1) := by decide +kernel
theorem dX7_bookTo_70 : decode cX7_bookTo 70 = .ok (.getfield 28, 3) := by decide +kernel
theorem dX7_bookTo_73 : decode cX7_bookTo 73 = .ok (.i2l, 1) := by decide +kernel
theorem dX7_bookTo_74 : decode cX7_bookTo 74 = .ok (.aload_n 0, 1) := by decide +kernel
theorem dX7_bookTo_75 : decode cX7_bookTo 75 = .ok (.getfield 15, 3) := by decide +kernel
theorem dX7_bookTo_78 : decode cX7_bookTo 78 = .ok (.iload 4, 2) := by decide +kernel
theorem dX7_bookTo_80 : decode cX7_bookTo 80 = .ok (.laload, 1) := by decide +kernel
theorem dX7_bookTo_81 : decode cX7_bookTo 81 = .ok (.lmul, 1) := by decide +kernel
theorem dX7_bookTo_82 : decode cX7_bookTo 82 = .ok (.invokevirtual 65, 3) := by decide +kernel
theorem dX7_bookTo_85 : decode cX7_bookTo 85 = .ok (.aload_n 0, 1) := by decide +kernel
theorem dX7_bookTo_86 : decode cX7_bookTo 86 = .ok (.getfield 9, 3) := by decide +kernel
theorem dX7_bookTo_89 : decode cX7_bookTo 89 = .ok (.iload 4, 2) := by decide +kernel
theorem dX7_bookTo_91 : decode cX7_bookTo 91 = .ok (.lconst 0, 1) := by decide +kernel
theorem dX7_bookTo_92 : decode cX7_bookTo 92 = .ok (.lastore, 1) := by decide +kernel
theorem dX7_bookTo_93 : decode cX7_bookTo 93 = .ok (.iinc 4 1, 3) := by decide +kernel
theorem dX7_bookTo_96 : decode cX7_bookTo 96 = .ok (.goto (-55), 3) := by decide +kernel
theorem dX7_bookTo_99 : decode cX7_bookTo 99 = .ok (.return_, 1) := by decide +kernel
set_option maxRecDepth 20000 in
theorem ggX7_split_X7_giveCents : GoodIn wsX7_split wsX7_giveCents := goodIn_r _ [8, 2, 3, 9, 10, 11, 12, 13, 14, 15, 16, 17, 18, 19] (by decide +kernel) (by decide +kernel)
set_option maxRecDepth 20000 in
theorem gX7_split_X7_giveCents : GoodIn wsX7_split (wsV RX7 68 RX7 yX7_giveCents wsX7_giveCents) := goodIn_app (goodIn_of _ (by decide +kernel)) ggX7_split_X7_giveCents
theorem dX7_split_0 : decode cX7_split 0 = .ok (.lconst 0, 1) := by decide +kernel
theorem dX7_split_1 : decode cX7_split 1 = .ok (.lstore_n 3, 1) := by decide +kernel
theorem dX7_split_2 : decode cX7_split 2 = .ok (.iconst 0, 1) := by decide +kernel
theorem dX7_split_3 : decode cX7_split 3 = .ok (.istore 5, 2) := by decide +kernel
theorem dX7_split_5 : decode cX7_split 5 = .ok (.iload 5, 2) := by decide +kernel
theorem dX7_split_7 : decode cX7_split 7 = .ok (.aload_n 0, 1) := by decide +kernel
theorem dX7_split_8 : decode cX7_split 8 = .ok (.getfield 9, 3) := by decide +kernel
theorem dX7_split_11 : decode cX7_split 11 = .ok (.arraylength, 1) := by decide +kernel
theorem dX7_split_12 : decode cX7_split 12 = .ok (.if_icmp .ge 27, 3) := by decide +kernel
theorem dX7_split_15 : decode cX7_split 15 = .ok (.lload_n 3, 1) := by decide +kernel
theorem dX7_split_16 : decode cX7_split 16 = .ok (.aload_n 0, 1) := by decide +kernel
theorem dX7_split_17 : decode cX7_split 17 = .ok (.getfield 9, 3) := by decide +kernel
theorem dX7_split_20 : decode cX7_split 20 = .ok (.iload 5, 2) := by decide +kernel
theorem dX7_split_22 : decode cX7_split 22 = .ok (.laload, 1) := by decide +kernel
theorem dX7_split_23 : decode cX7_split 23 = .ok (.ladd, 1) := by decide +kernel
theorem dX7_split_24 : decode cX7_split 24 = .ok (.lstore_n 3, 1) := by decide +kernel
theorem dX7_split_25 : decode cX7_split 25 = .ok (.aload_n 0, 1) := by decide +kernel
theorem dX7_split_26 : decode cX7_split 26 = .ok (.getfield 15, 3) := by decide +kernel
theorem dX7_split_29 : decode cX7_split 29 = .ok (.iload 5, 2) := by decide +kernel
theorem dX7_split_31 : decode cX7_split 31 = .ok (.lconst 0, 1) := by decide +kernel
theorem dX7_split_32 : decode cX7_split 32 = .ok (.lastore, 1) := by decide +kernel
theorem dX7_split_33 : decode cX7_split 33 = .ok (.iinc 5 1, 3) := by decide +kernel
theorem dX7_split_36 : decode cX7_split 36 = .ok (.goto (-31), 3) := by decide +kernel
theorem dX7_split_39 : decode cX7_split 39 = .ok (.lload_n 3, 1) := by decide +kernel
theorem dX7_split_40 : decode cX7_split 40 = .ok (.lconst 0, 1) := by decide +kernel
theorem dX7_split_41 : decode cX7_split 41 = .ok (.lcmp, 1) := by decide +kernel
theorem dX7_split_42 : decode cX7_split 42 = .ok (.ifCond .gt 4, 3) := by decide +kernel
theorem dX7_split_45 : decode cX7_split 45 = .ok (.return_, 1) := by decide +kernel
theorem dX7_split_46 : decode cX7_split 46 = .ok (.lload_n 1, 1) := by decide +kernel
theorem dX7_split_47 : decode cX7_split 47 = .ok (.lstore 5, 2) := by decide +kernel
theorem dX7_split_49 : decode cX7_split 49 = .ok (.iconst 0, 1) := by decide +kernel
theorem dX7_split_50 : decode cX7_split 50 = .ok (.istore 7, 2) := by decide +kernel
theorem dX7_split_52 : decode cX7_split 52 = .ok (.iload 7, 2) := by decide +kernel
theorem dX7_split_54 : decode cX7_split 54 = .ok (.aload_n 0, 1) := by decide +kernel
theorem dX7_split_55 : decode cX7_split 55 = .ok (.getfield 9, 3) := by decide +kernel
theorem dX7_split_58 : decode cX7_split 58 = .ok (.arraylength, 1) := by decide +kernel
theorem dX7_split_59 : decode cX7_split 59 = .ok (.if_icmp .ge 54, 3) := by decide +kernel
theorem dX7_split_62 : decode cX7_split 62 = .ok (.lload_n 1, 1) := by decide +kernel
theorem dX7_split_63 : decode cX7_split 63 = .ok (.aload_n 0, 1) := by decide +kernel
theorem dX7_split_64 : decode cX7_split 64 = .ok (.getfield 9, 3) := by decide +kernel
theorem dX7_split_67 : decode cX7_split 67 = .ok (.iload 7, 2) := by decide +kernel
theorem dX7_split_69 : decode cX7_split 69 = .ok (.laload, 1) := by decide +kernel
theorem dX7_split_70 : decode cX7_split 70 = .ok (.lmul, 1) := by decide +kernel
theorem dX7_split_71 : decode cX7_split 71 = .ok (.lstore 8, 2) := by decide +kernel
theorem dX7_split_73 : decode cX7_split 73 = .ok (.aload_n 0, 1) := by decide +kernel
theorem dX7_split_74 : decode cX7_split 74 = .ok (.getfield 15, 3) := by decide +kernel
theorem dX7_split_77 : decode cX7_split 77 = .ok (.iload 7, 2) := by decide +kernel
theorem dX7_split_79 : decode cX7_split 79 = .ok (.lload 8, 2) := by decide +kernel
theorem dX7_split_81 : decode cX7_split 81 = .ok (.lload_n 3, 1) := by decide +kernel
theorem dX7_split_82 : decode cX7_split 82 = .ok (.ldiv, 1) := by decide +kernel
theorem dX7_split_83 : decode cX7_split 83 = .ok (.lastore, 1) := by decide +kernel
theorem dX7_split_84 : decode cX7_split 84 = .ok (.aload_n 0, 1) := by decide +kernel
theorem dX7_split_85 : decode cX7_split 85 = .ok (.getfield 18, 3) := by decide +kernel
theorem dX7_split_88 : decode cX7_split 88 = .ok (.iload 7, 2) := by decide +kernel
theorem dX7_split_90 : decode cX7_split 90 = .ok (.lload 8, 2) := by decide +kernel
theorem dX7_split_92 : decode cX7_split 92 = .ok (.lload_n 3, 1) := by decide +kernel
theorem dX7_split_93 : decode cX7_split 93 = .ok (.lrem, 1) := by decide +kernel
theorem dX7_split_94 : decode cX7_split 94 = .ok (.lastore, 1) := by decide +kernel
theorem dX7_split_95 : decode cX7_split 95 = .ok (.lload 5, 2) := by decide +kernel
theorem dX7_split_97 : decode cX7_split 97 = .ok (.aload_n 0, 1) := by decide +kernel
theorem dX7_split_98 : decode cX7_split 98 = .ok (.getfield 15, 3) := by decide +kernel
theorem dX7_split_101 : decode cX7_split 101 = .ok (.iload 7, 2) := by decide +kernel
theorem dX7_split_103 : decode cX7_split 103 = .ok (.laload, 1) := by decide +kernel
theorem dX7_split_104 : decode cX7_split 104 = .ok (.lsub, 1) := by decide +kernel
theorem dX7_split_105 : decode cX7_split 105 = .ok (.lstore 5, 2) := by decide +kernel
theorem dX7_split_107 : decode cX7_split 107 = .ok (.iinc 7 1, 3) := by decide +kernel
theorem dX7_split_110 : decode cX7_split 110 = .ok (.goto (-58), 3) := by decide +kernel
theorem dX7_split_113 : decode cX7_split 113 = .ok (.aload_n 0, 1) := by decide +kernel
theorem dX7_split_114 : decode cX7_split 114 = .ok (.lload 5, 2) := by decide +kernel
theorem dX7_split_116 : decode cX7_split 116 = .ok (.invokevirtual 68, 3) := by decide +kernel
theorem dX7_split_119 : decode cX7_split 119 = .ok (.return_, 1) := by decide +kernel
theorem dX7_giveCents_0 : decode cX7_giveCents 0 = .ok (.iconst 0, 1) := by decide +kernel
theorem dX7_giveCents_1 : decode cX7_giveCents 1 = .ok (.istore_n 3, 1) := by decide +kernel
theorem dX7_giveCents_2 : decode cX7_giveCents 2 = .ok (.iload_n 3, 1) := by decide +kernel
theorem dX7_giveCents_3 : decode cX7_giveCents 3 = .ok (.i2l, 1) := by decide +kernel
theorem dX7_giveCents_4 : decode cX7_giveCents 4 = .ok (.lload_n 1, 1) := by decide +kernel
theorem dX7_giveCents_5 : decode cX7_giveCents 5 = .ok (.lcmp, 1) := by decide +kernel
theorem dX7_giveCents_6 : decode cX7_giveCents 6 = .ok (.ifCond .ge 83, 3) := by decide +kernel
theorem dX7_giveCents_9 : decode cX7_giveCents 9 = .ok (.iload_n 3, 1) := by decide +kernel
theorem dX7_giveCents_10 : decode cX7_giveCents 10 = .ok (.aload_n 0, 1) := by decide +kernel
theorem dX7_giveCents_11 : decode cX7_giveCents 11 = .ok (.getfield 15, 3) := by decide +kernel
theorem dX7_giveCents_14 : decode cX7_giveCents 14 = .ok (.arraylength, 1) := by decide +kernel
theorem dX7_giveCents_15 : decode cX7_giveCents 15 = .ok (.if_icmp .ge 74, 3) := by decide +kernel
theorem dX7_giveCents_18 : decode cX7_giveCents 18 = .ok (.iconst 0, 1) := by decide +kernel
theorem dX7_giveCents_19 : decode cX7_giveCents 19 = .ok (.istore 4, 2) := by decide +kernel
theorem dX7_giveCents_21 : decode cX7_giveCents 21 = .ok (.iconst 1, 1) := by decide +kernel
theorem dX7_giveCents_22 : decode cX7_giveCents 22 = .ok (.istore 5, 2) := by decide +kernel
theorem dX7_giveCents_24 : decode cX7_giveCents 24 = .ok (.iload 5, 2) := by decide +kernel
theorem dX7_giveCents_26 : decode cX7_giveCents 26 = .ok (.aload_n 0, 1) := by decide +kernel
theorem dX7_giveCents_27 : decode cX7_giveCents 27 = .ok (.getfield 18, 3) := by decide +kernel
theorem dX7_giveCents_30 : decode cX7_giveCents 30 = .ok (.arraylength, 1) := by decide +kernel
theorem dX7_giveCents_31 : decode cX7_giveCents 31 = .ok (.if_icmp .ge 31, 3) := by decide +kernel
theorem dX7_giveCents_34 : decode cX7_giveCents 34 = .ok (.aload_n 0, 1) := by decide +kernel
theorem dX7_giveCents_35 : decode cX7_giveCents 35 = .ok (.getfield 18, 3) := by decide +kernel
theorem dX7_giveCents_38 : decode cX7_giveCents 38 = .ok (.iload 5, 2) := by decide +kernel
theorem dX7_giveCents_40 : decode cX7_giveCents 40 = .ok (.laload, 1) := by decide +kernel
theorem dX7_giveCents_41 : decode cX7_giveCents 41 = .ok (.aload_n 0, 1) := by decide +kernel
theorem dX7_giveCents_42 : decode cX7_giveCents 42 = .ok (.getfield 18, 3) := by decide +kernel
theorem dX7_giveCents_45 : decode cX7_giveCents 45 = .ok (.iload 4, 2) := by decide +kernel
theorem dX7_giveCents_47 : decode cX7_giveCents 47 = .ok (.laload, 1) := by decide +kernel
theorem dX7_giveCents_48 : decode cX7_giveCents 48 = .ok (.lcmp, 1) := by decide +kernel
theorem dX7_giveCents_49 : decode cX7_giveCents 49 = .ok (.ifCond .le 7, 3) := by decide +kernel
theorem dX7_giveCents_52 : decode cX7_giveCents 52 = .ok (.iload 5, 2) := by decide +kernel
theorem dX7_giveCents_54 : decode cX7_giveCents 54 = .ok (.istore 4, 2) := by decide +kernel
theorem dX7_giveCents_56 : decode cX7_giveCents 56 = .ok (.iinc 5 1, 3) := by decide +kernel
theorem dX7_giveCents_59 : decode cX7_giveCents 59 = .ok (.goto (-35), 3) := by decide +kernel
theorem dX7_giveCents_62 : decode cX7_giveCents 62 = .ok (.aload_n 0, 1) := by decide +kernel
theorem dX7_giveCents_63 : decode cX7_giveCents 63 = .ok (.getfield 15, 3) := by decide +kernel
theorem dX7_giveCents_66 : decode cX7_giveCents 66 = .ok (.iload 4, 2) := by decide +kernel
theorem dX7_giveCents_68 : decode cX7_giveCents 68 = .ok (.dup2, 1) := by decide +kernel
theorem dX7_giveCents_69 : decode cX7_giveCents 69 = .ok (.laload, 1) := by decide +kernel
theorem dX7_giveCents_70 : decode cX7_giveCents 70 = .ok (.lconst 1, 1) := by decide +kernel
theorem dX7_giveCents_71 : decode cX7_giveCents 71 = .ok (.ladd, 1) := by decide +kernel
theorem dX7_giveCents_72 : decode cX7_giveCents 72 = .ok (.lastore, 1) := by decide +kernel
theorem dX7_giveCents_73 : decode cX7_giveCents 73 = .ok (.aload_n 0, 1) := by decide +kernel
theorem dX7_giveCents_74 : decode cX7_giveCents 74 = .ok (.getfield 18, 3) := by decide +kernel
theorem dX7_giveCents_77 : decode cX7_giveCents 77 = .ok (.iload 4, 2) := by decide +kernel
theorem dX7_giveCents_79 : decode cX7_giveCents 79 = .ok (.ldc2_w 71, 3) := by decide +kernel
theorem dX7_giveCents_82 : decode cX7_giveCents 82 = .ok (.lastore, 1) := by decide +kernel
theorem dX7_giveCents_83 : decode cX7_giveCents 83 = .ok (.iinc 3 1, 3) := by decide +kernel
theorem dX7_giveCents_86 : decode cX7_giveCents 86 = .ok (.goto (-84), 3) := by decide +kernel
theorem dX7_giveCents_89 : decode cX7_giveCents 89 = .ok (.return_, 1) := by decide +kernel
theorem dX7_keep_0 : decode cX7_keep 0 = .ok (.aload_n 0, 1) := by decide +kernel
theorem dX7_keep_1 : decode cX7_keep 1 = .ok (.aload_n 0, 1) := by decide +kernel
theorem dX7_keep_2 : decode cX7_keep 2 = .ok (.getfield 31, 3) := by decide +kernel
theorem dX7_keep_5 : decode cX7_keep 5 = .ok (.putfield 73, 3) := by decide +kernel
theorem dX7_keep_8 : decode cX7_keep 8 = .ok (.aload_n 0, 1) := by decide +kernel
theorem dX7_keep_9 : decode cX7_keep 9 = .ok (.aload_n 0, 1) := by decide +kernel
theorem dX7_keep_10 : decode cX7_keep 10 = .ok (.getfield 58, 3) := by decide +kernel
theorem dX7_keep_13 : decode cX7_keep 13 = .ok (.putfield 76, 3) := by decide +kernel
theorem dX7_keep_16 : decode cX7_keep 16 = .ok (.aload_n 0, 1) := by decide +kernel
theorem dX7_keep_17 : decode cX7_keep 17 = .ok (.getfield 9, 3) := by decide +kernel
theorem dX7_keep_20 : decode cX7_keep 20 = .ok (.iconst 0, 1) := by decide +kernel
theorem dX7_keep_21 : decode cX7_keep 21 = .ok (.aload_n 0, 1) := by decide +kernel
theorem dX7_keep_22 : decode cX7_keep 22 = .ok (.getfield 21, 3) := by decide +kernel
theorem dX7_keep_25 : decode cX7_keep 25 = .ok (.iconst 0, 1) := by decide +kernel
theorem dX7_keep_26 : decode cX7_keep 26 = .ok (.bipush 10, 2) := by decide +kernel
theorem dX7_keep_28 : decode cX7_keep 28 = .ok (.invokestatic 79, 3) := by decide +kernel
theorem dX7_keep_31 : decode cX7_keep 31 = .ok (.return_, 1) := by decide +kernel
theorem dX7_goBack_0 : decode cX7_goBack 0 = .ok (.aload_n 0, 1) := by decide +kernel
theorem dX7_goBack_1 : decode cX7_goBack 1 = .ok (.aload_n 0, 1) := by decide +kernel
theorem dX7_goBack_2 : decode cX7_goBack 2 = .ok (.getfield 73, 3) := by decide +kernel
theorem dX7_goBack_5 : decode cX7_goBack 5 = .ok (.putfield 31, 3) := by decide +kernel
theorem dX7_goBack_8 : decode cX7_goBack 8 = .ok (.aload_n 0, 1) := by decide +kernel
theorem dX7_goBack_9 : decode cX7_goBack 9 = .ok (.aload_n 0, 1) := by decide +kernel
theorem dX7_goBack_10 : decode cX7_goBack 10 = .ok (.getfield 76, 3) := by decide +kernel
theorem dX7_goBack_13 : decode cX7_goBack 13 = .ok (.putfield 58, 3) := by decide +kernel
theorem dX7_goBack_16 : decode cX7_goBack 16 = .ok (.aload_n 0, 1) := by decide +kernel
theorem dX7_goBack_17 : decode cX7_goBack 17 = .ok (.getfield 21, 3) := by decide +kernel
theorem dX7_goBack_20 : decode cX7_goBack 20 = .ok (.iconst 0, 1) := by decide +kernel
theorem dX7_goBack_21 : decode cX7_goBack 21 = .ok (.aload_n 0, 1) := by decide +kernel
theorem dX7_goBack_22 : decode cX7_goBack 22 = .ok (.getfield 9, 3) := by decide +kernel
theorem dX7_goBack_25 : decode cX7_goBack 25 = .ok (.iconst 0, 1) := by decide +kernel
theorem dX7_goBack_26 : decode cX7_goBack 26 = .ok (.bipush 10, 2) := by decide +kernel
theorem dX7_goBack_28 : decode cX7_goBack 28 = .ok (.invokestatic 79, 3) := by decide +kernel
theorem dX7_goBack_31 : decode cX7_goBack 31 = .ok (.return_, 1) := by decide +kernel
set_option maxRecDepth 20000 in
theorem ggX8_sumFrom_Jx4a65c_size_8abf5 : GoodIn wsX8_sumFrom wsJx4a65c_size_8abf5 := goodIn_r _ [8, 9, 42, 43, 44] (by decide +kernel) (by decide +kernel)
set_option maxRecDepth 20000 in
theorem gX8_sumFrom_Jx4a65c_size_8abf5 : GoodIn wsX8_sumFrom (wsV RX8 19 RJx4a65c yJx4a65c_size_8abf5 wsJx4a65c_size_8abf5) := goodIn_app (goodIn_of _ (by decide +kernel)) ggX8_sumFrom_Jx4a65c_size_8abf5
set_option maxRecDepth 20000 in
theorem ggX8_sumFrom_Jx4a65c_get_915e3 : GoodIn wsX8_sumFrom wsJx4a65c_get_915e3 := goodIn_r _ [13, 9, 14, 15, 16, 17, 18, 19, 20, 21, 22, 23, 24, 7, 25, 26, 42, 43, 44] (by decide +kernel) (by decide +kernel)
set_option maxRecDepth 20000 in
theorem gX8_sumFrom_Jx4a65c_get_915e3 : GoodIn wsX8_sumFrom (wsV RX8 25 RJx4a65c yJx4a65c_get_915e3 wsJx4a65c_get_915e3) := goodIn_app (goodIn_of _ (by decide +kernel)) ggX8_sumFrom_Jx4a65c_get_915e3
set_option maxRecDepth 20000 in
theorem ggX8_sumFrom_X8_sumFrom : GoodIn wsX8_sumFrom wsX8_sumFrom := goodIn_r _ [0, 1, 2, 3, 4, 5, 6, 7, 8, 9, 10, 11, 12, 13, 14, 15, 16, 17, 18, 19, 20, 21, 22, 23, 24, 25, 26, 27, 28, 29, 30, 31, 32, 33, 34, 35, 36, 37, 38, 39, 40, 41, 42, 43, 44] (by decide +kernel) (by decide +kernel)
set_option maxRecDepth 20000 in
theorem gX8_sumFrom_X8_sumFrom : GoodIn wsX8_sumFrom (va_wsS RX8 29 yX8_sumFrom wsX8_sumFrom) := goodIn_app (goodIn_of _ (by decide +kernel)) ggX8_sumFrom_X8_sumFrom
theorem dX8_sumFrom_0 : decode cX8_sumFrom 0 = .ok (.iload_n 1, 1) := by decide +kernel
theorem dX8_sumFrom_1 : decode cX8_sumFrom 1 = .ok (.bipush 10, 2) := by decide +kernel
theorem dX8_sumFrom_3 : decode cX8_sumFrom 3 = .ok (.if_icmp .le 5, 3) := by decide +kernel
theorem dX8_sumFrom_6 : decode cX8_sumFrom 6 = .ok (.lconst 0, 1) := by decide +kernel
theorem dX8_sumFrom_7 : decode cX8_sumFrom 7 = .ok (.lreturn, 1) := by decide +kernel
theorem dX8_sumFrom_8 : decode cX8_sumFrom 8 = .ok (.aload_n 0, 1) := by decide +kernel
theorem dX8_sumFrom_9 : decode cX8_sumFrom 9 = .ok (.getfield 9, 3) := by decide +kernel
theorem dX8_sumFrom_12 : decode cX8_sumFrom 12 = .ok (.lstore_n 2, 1) := by decide +kernel
theorem dX8_sumFrom_13 : decode cX8_sumFrom 13 = .ok (.iconst 0, 1) := by decide +kernel
theorem dX8_sumFrom_14 : decode cX8_sumFrom 14 = .ok (.istore 4, 2) := by decide +kernel
theorem dX8_sumFrom_16 : decode cX8_sumFrom 16 = .ok (.iload 4, 2) := by decide +kernel
theorem dX8_sumFrom_18 : decode cX8_sumFrom 18 = .ok (.aload_n 0, 1) := by decide +kernel
theorem dX8_sumFrom_19 : decode cX8_sumFrom 19 = .ok (.getfield 15, 3) := by decide +kernel
theorem dX8_sumFrom_22 : decode cX8_sumFrom 22 = .ok (.invokevirtual 19, 3) := by decide +kernel
theorem dX8_sumFrom_25 : decode cX8_sumFrom 25 = .ok (.if_icmp .ge 30, 3) := by decide +kernel
theorem dX8_sumFrom_28 : decode cX8_sumFrom 28 = .ok (.lload_n 2, 1) := by decide +kernel
theorem dX8_sumFrom_29 : decode cX8_sumFrom 29 = .ok (.aload_n 0, 1) := by decide +kernel
theorem dX8_sumFrom_30 : decode cX8_sumFrom 30 = .ok (.getfield 15, 3) := by decide +kernel
theorem dX8_sumFrom_33 : decode cX8_sumFrom 33 = .ok (.iload 4, 2) := by decide +kernel
theorem dX8_sumFrom_35 : decode cX8_sumFrom 35 = .ok (.invokevirtual 25, 3) := by decide +kernel
theorem dX8_sumFrom_38 : decode cX8_sumFrom 38 = .ok (.checkcast 10, 3) := by decide +kernel
theorem dX8_sumFrom_41 : decode cX8_sumFrom 41 = .ok (.iload_n 1, 1) := by decide +kernel
theorem dX8_sumFrom_42 : decode cX8_sumFrom 42 = .ok (.iconst 1, 1) := by decide +kernel
theorem dX8_sumFrom_43 : decode cX8_sumFrom 43 = .ok (.iadd, 1) := by decide +kernel
theorem dX8_sumFrom_44 : decode cX8_sumFrom 44 = .ok (.invokestatic 29, 3) := by decide +kernel
theorem dX8_sumFrom_47 : decode cX8_sumFrom 47 = .ok (.ladd, 1) := by decide +kernel
theorem dX8_sumFrom_48 : decode cX8_sumFrom 48 = .ok (.lstore_n 2, 1) := by decide +kernel
theorem dX8_sumFrom_49 : decode cX8_sumFrom 49 = .ok (.iinc 4 1, 3) := by decide +kernel
theorem dX8_sumFrom_52 : decode cX8_sumFrom 52 = .ok (.goto (-36), 3) := by decide +kernel
theorem dX8_sumFrom_55 : decode cX8_sumFrom 55 = .ok (.lload_n 2, 1) := by decide +kernel
theorem dX8_sumFrom_56 : decode cX8_sumFrom 56 = .ok (.lreturn, 1) := by decide +kernel
set_option maxRecDepth 20000 in
theorem ggX8_sweep_X8_sweepUp : GoodIn wsX8_sweep wsX8_sweepUp := goodIn_r _ [4, 5, 6, 7, 8, 9, 10, 11, 12, 13, 14, 15, 16, 17, 18, 19, 20, 21, 22, 23, 24, 25, 26, 27, 28, 29, 30, 31, 32, 33, 34, 35, 1, 2, 3, 36, 37, 38, 39, 40, 41, 42, 43, 44, 45, 46, 55, 56, 57, 58, 59, 60, 61, 62, 63, 64, 65, 66, 67, 68, 69] (by decide +kernel) (by decide +kernel)
set_option maxRecDepth 20000 in
theorem gX8_sweep_X8_sweepUp : GoodIn wsX8_sweep (va_wsS RX8 35 yX8_sweepUp wsX8_sweepUp) := goodIn_app (goodIn_of _ (by decide +kernel)) ggX8_sweep_X8_sweepUp
set_option maxRecDepth 20000 in
theorem ggX8_sweep_X8_sweepDown : GoodIn wsX8_sweep wsX8_sweepDown := goodIn_r _ [49, 12, 7, 5, 6, 50, 51, 3, 52, 8, 9, 10, 11, 53, 54, 45, 46, 36, 37, 38, 39, 40, 41, 42, 43, 44, 13, 14, 15, 16, 17, 18, 19, 20, 21, 22, 23, 24, 25, 26, 27, 28, 29, 30, 31, 32, 33, 34, 35, 47, 48, 55, 56, 57, 58, 59, 60, 61, 62, 63, 64, 65, 66, 67, 68, 69] (by decide +kernel) (by decide +kernel)
set_option maxRecDepth 20000 in
theorem gX8_sweep_X8_sweepDown : GoodIn wsX8_sweep (va_wsS RX8 39 yX8_sweepDown wsX8_sweepDown) := goodIn_app (goodIn_of _ (by decide +kernel)) ggX8_sweep_X8_sweepDown
theorem dX8_sweep_0 : decode cX8_sweep 0 = .ok (.aload_n 0, 1) := by decide +kernel
theorem dX8_sweep_1 : decode cX8_sweep 1 = .ok (.iconst 0, 1) := by decide +kernel
theorem dX8_sweep_2 : decode cX8_sweep 2 = .ok (.invokestatic 35, 3) := by decide +kernel
theorem dX8_sweep_5 : decode cX8_sweep 5 = .ok (.aload_n 0, 1) := by decide +kernel
theorem dX8_sweep_6 : decode cX8_sweep 6 = .ok (.iconst 0, 1) := by decide +kernel
theorem dX8_sweep_7 : decode cX8_sweep 7 = .ok (.invokestatic 39, 3) := by decide +kernel
theorem dX8_sweep_10 : decode cX8_sweep 10 = .ok (.return_, 1) := by decide +kernel
set_option maxRecDepth 20000 in
theorem ggX8_sweepUp_Jx4a65c_size_8abf5 : GoodIn wsX8_sweepUp wsJx4a65c_size_8abf5 := goodIn_r _ [13, 14, 58, 59, 60] (by decide +kernel) (by decide +kernel)
set_option maxRecDepth 20000 in
theorem gX8_sweepUp_Jx4a65c_size_8abf5 : GoodIn wsX8_sweepUp (wsV RX8 19 RJx4a65c yJx4a65c_size_8abf5 wsJx4a65c_size_8abf5) := goodIn_app (goodIn_of _ (by decide +kernel)) ggX8_sweepUp_Jx4a65c_size_8abf5
set_option maxRecDepth 20000 in
theorem ggX8_sweepUp_Jx4a65c_get_915e3 : GoodIn wsX8_sweepUp wsJx4a65c_get_915e3 := goodIn_r _ [18, 14, 19, 20, 21, 22, 23, 24, 25, 26, 27, 28, 29, 12, 30, 31, 58, 59, 60] (by decide +kernel) (by decide +kernel)
set_option maxRecDepth 20000 in
theorem gX8_sweepUp_Jx4a65c_get_915e3 : GoodIn wsX8_sweepUp (wsV RX8 25 RJx4a65c yJx4a65c_get_915e3 wsJx4a65c_get_915e3) := goodIn_app (goodIn_of _ (by decide +kernel)) ggX8_sweepUp_Jx4a65c_get_915e3
set_option maxRecDepth 20000 in
theorem ggX8_sweepUp_X8_sweepUp : GoodIn wsX8_sweepUp wsX8_sweepUp := goodIn_r _ [0, 1, 2, 3, 4, 5, 6, 7, 8, 9, 10, 11, 12, 13, 14, 15, 16, 17, 18, 19, 20, 21, 22, 23, 24, 25, 26, 27, 28, 29, 30, 31, 32, 33, 34, 35, 36, 37, 38, 39, 40, 41, 42, 43, 44, 45, 46, 47, 48, 49, 50, 51, 52, 53, 54, 55, 56, 57, 58, 59, 60] (by decide +kernel) (by decide +kernel)
set_option maxRecDepth 20000 in
theorem gX8_sweepUp_X8_sweepUp : GoodIn wsX8_sweepUp (va_wsS RX8 35 yX8_sweepUp wsX8_sweepUp) := goodIn_app (goodIn_of _ (by decide +kernel)) ggX8_sweepUp_X8_sweepUp
set_option maxRecDepth 20000 in
theorem ggX8_sweepUp_X0_surplusOf : GoodIn wsX8_sweepUp wsX0_surplusOf := goodIn_r _ [39, 40, 41, 42, 5, 6, 7, 43, 44, 45, 46, 47, 48, 49, 50, 51, 52, 53, 54, 55, 56, 57] (by decide +kernel) (by decide +kernel)
set_option maxRecDepth 20000 in
theorem gX8_sweepUp_X0_surplusOf : GoodIn wsX8_sweepUp (wsV RX8 42 RX0 yX0_surplusOf wsX0_surplusOf) := goodIn_app (goodIn_of _ (by decide +kernel)) ggX8_sweepUp_X0_surplusOf
theorem dX8_sweepUp_0 : decode cX8_sweepUp 0 = .ok (.iload_n 1, 1) := by decide +kernel
theorem dX8_sweepUp_1 : decode cX8_sweepUp 1 = .ok (.bipush 10, 2) := by decide +kernel
theorem dX8_sweepUp_3 : decode cX8_sweepUp 3 = .ok (.if_icmp .le 4, 3) := by decide +kernel
theorem dX8_sweepUp_6 : decode cX8_sweepUp 6 = .ok (.return_, 1) := by decide +kernel
theorem dX8_sweepUp_7 : decode cX8_sweepUp 7 = .ok (.iconst 0, 1) := by decide +kernel
theorem dX8_sweepUp_8 : decode cX8_sweepUp 8 = .ok (.istore_n 2, 1) := by decide +kernel
theorem dX8_sweepUp_9 : decode cX8_sweepUp 9 = .ok (.iload_n 2, 1) := by decide +kernel
theorem dX8_sweepUp_10 : decode cX8_sweepUp 10 = .ok (.aload_n 0, 1) := by decide +kernel
theorem dX8_sweepUp_11 : decode cX8_sweepUp 11 = .ok (.getfield 15, 3) := by decide +kernel
theorem dX8_sweepUp_14 : decode cX8_sweepUp 14 = .ok (.invokevirtual 19, 3) := by decide +kernel
theorem dX8_sweepUp_17 : decode cX8_sweepUp 17 = .ok (.if_icmp .ge 26, 3) := by decide +kernel
theorem dX8_sweepUp_20 : decode cX8_sweepUp 20 = .ok (.aload_n 0, 1) := by decide +kernel
theorem dX8_sweepUp_21 : decode cX8_sweepUp 21 = .ok (.getfield 15, 3) := by decide +kernel
theorem dX8_sweepUp_24 : decode cX8_sweepUp 24 = .ok (.iload_n 2, 1) := by decide +kernel
theorem dX8_sweepUp_25 : decode cX8_sweepUp 25 = .ok (.invokevirtual 25, 3) := by decide +kernel
theorem dX8_sweepUp_28 : decode cX8_sweepUp 28 = .ok (.checkcast 10, 3) := by decide +kernel
theorem dX8_sweepUp_31 : decode cX8_sweepUp 31 = .ok (.iload_n 1, 1) := by decide +kernel
theorem dX8_sweepUp_32 : decode cX8_sweepUp 32 = .ok (.iconst 1, 1) := by decide +kernel
theorem dX8_sweepUp_33 : decode cX8_sweepUp 33 = .ok (.iadd, 1) := by decide +kernel
theorem dX8_sweepUp_34 : decode cX8_sweepUp 34 = .ok (.invokestatic 35, 3) := by decide +kernel
theorem dX8_sweepUp_37 : decode cX8_sweepUp 37 = .ok (.iinc 2 1, 3) := by decide +kernel
theorem dX8_sweepUp_40 : decode cX8_sweepUp 40 = .ok (.goto (-31), 3) := by decide +kernel
theorem dX8_sweepUp_43 : decode cX8_sweepUp 43 = .ok (.aload_n 0, 1) := by decide +kernel
theorem dX8_sweepUp_44 : decode cX8_sweepUp 44 = .ok (.aload_n 0, 1) := by decide +kernel
theorem dX8_sweepUp_45 : decode cX8_sweepUp 45 = .ok (.getfield 9, 3) := by decide +kernel
theorem dX8_sweepUp_48 : decode cX8_sweepUp 48 = .ok (.invokevirtual 42, 3) := by decide +kernel
theorem dX8_sweepUp_51 : decode cX8_sweepUp 51 = .ok (.lconst 0, 1) := by decide +kernel
theorem dX8_sweepUp_52 : decode cX8_sweepUp 52 = .ok (.invokestatic 46, 3) := by decide +kernel
theorem dX8_sweepUp_55 : decode cX8_sweepUp 55 = .ok (.lstore_n 2, 1) := by decide +kernel
theorem dX8_sweepUp_56 : decode cX8_sweepUp 56 = .ok (.aload_n 0, 1) := by decide +kernel
theorem dX8_sweepUp_57 : decode cX8_sweepUp 57 = .ok (.getfield 52, 3) := by decide +kernel
theorem dX8_sweepUp_60 : decode cX8_sweepUp 60 = .ok (.ifnull 26, 3) := by decide +kernel
theorem dX8_sweepUp_63 : decode cX8_sweepUp 63 = .ok (.aload_n 0, 1) := by decide +kernel
theorem dX8_sweepUp_64 : decode cX8_sweepUp 64 = .ok (.dup, 1) := by decide +kernel
theorem dX8_sweepUp_65 : decode cX8_sweepUp 65 = .ok (.getfield 9, 3) := by decide +kernel
theorem dX8_sweepUp_68 : decode cX8_sweepUp 68 = .ok (.lload_n 2, 1) := by decide +kernel
theorem dX8_sweepUp_69 : decode cX8_sweepUp 69 = .ok (.lsub, 1) := by decide +kernel
theorem dX8_sweepUp_70 : decode cX8_sweepUp 70 = .ok (.putfield 9, 3) := by decide +kernel
theorem dX8_sweepUp_73 : decode cX8_sweepUp 73 = .ok (.aload_n 0, 1) := by decide +kernel
theorem dX8_sweepUp_74 : decode cX8_sweepUp 74 = .ok (.getfield 52, 3) := by decide +kernel
theorem dX8_sweepUp_77 : decode cX8_sweepUp 77 = .ok (.dup, 1) := by decide +kernel
theorem dX8_sweepUp_78 : decode cX8_sweepUp 78 = .ok (.getfield 9, 3) := by decide +kernel
theorem dX8_sweepUp_81 : decode cX8_sweepUp 81 = .ok (.lload_n 2, 1) := by decide +kernel
theorem dX8_sweepUp_82 : decode cX8_sweepUp 82 = .ok (.ladd, 1) := by decide +kernel
theorem dX8_sweepUp_83 : decode cX8_sweepUp 83 = .ok (.putfield 9, 3) := by decide +kernel
theorem dX8_sweepUp_86 : decode cX8_sweepUp 86 = .ok (.return_, 1) := by decide +kernel
set_option maxRecDepth 20000 in
theorem ggX8_sweepDown_X8_partOf : GoodIn wsX8_sweepDown wsX8_partOf := goodIn_r _ [8, 1, 9, 10, 11, 12, 13, 14, 15, 16, 17, 18, 19, 20, 21, 22, 23, 24, 25, 51, 52, 53, 54, 55, 56, 57, 58, 59, 60, 61, 62] (by decide +kernel) (by decide +kernel)
set_option maxRecDepth 20000 in
theorem gX8_sweepDown_X8_partOf : GoodIn wsX8_sweepDown (va_wsS RX8 56 yX8_partOf wsX8_partOf) := goodIn_app (goodIn_of _ (by decide +kernel)) ggX8_sweepDown_X8_partOf
set_option maxRecDepth 20000 in
theorem ggX8_sweepDown_Jx4a65c_size_8abf5 : GoodIn wsX8_sweepDown wsJx4a65c_size_8abf5 := goodIn_r _ [30, 31, 63, 64, 65] (by decide +kernel) (by decide +kernel)
set_option maxRecDepth 20000 in
theorem gX8_sweepDown_Jx4a65c_size_8abf5 : GoodIn wsX8_sweepDown (wsV RX8 19 RJx4a65c yJx4a65c_size_8abf5 wsJx4a65c_size_8abf5) := goodIn_app (goodIn_of _ (by decide +kernel)) ggX8_sweepDown_Jx4a65c_size_8abf5
set_option maxRecDepth 20000 in
theorem ggX8_sweepDown_Jx4a65c_get_915e3 : GoodIn wsX8_sweepDown wsJx4a65c_get_915e3 := goodIn_r _ [35, 31, 36, 37, 38, 39, 40, 41, 42, 43, 44, 45, 46, 29, 47, 48, 63, 64, 65] (by decide +kernel) (by decide +kernel)
set_option maxRecDepth 20000 in
theorem gX8_sweepDown_Jx4a65c_get_915e3 : GoodIn wsX8_sweepDown (wsV RX8 25 RJx4a65c yJx4a65c_get_915e3 wsJx4a65c_get_915e3) := goodIn_app (goodIn_of _ (by decide +kernel)) ggX8_sweepDown_Jx4a65c_get_915e3
set_option maxRecDepth 20000 in
theorem ggX8_sweepDown_X8_sweepDown : GoodIn wsX8_sweepDown wsX8_sweepDown := goodIn_r _ [0, 1, 2, 3, 4, 5, 6, 7, 8, 9, 10, 11, 12, 13, 14, 15, 16, 17, 18, 19, 20, 21, 22, 23, 24, 25, 26, 27, 28, 29, 30, 31, 32, 33, 34, 35, 36, 37, 38, 39, 40, 41, 42, 43, 44, 45, 46, 47, 48, 49, 50, 51, 52, 53, 54, 55, 56, 57, 58, 59, 60, 61, 62, 63, 64, 65] (by decide +kernel) (by decide +kernel)
set_option maxRecDepth 20000 in
theorem gX8_sweepDown_X8_sweepDown : GoodIn wsX8_sweepDown (va_wsS RX8 39 yX8_sweepDown wsX8_sweepDown) := goodIn_app (goodIn_of _ (by decide +kernel)) ggX8_sweepDown_X8_sweepDown
theorem dX8_sweepDown_0 : decode cX8_sweepDown 0 = .ok (.iload_n 1, 1) := by decide +kernel
theorem dX8_sweepDown_1 : decode cX8_sweepDown 1 = .ok (.bipush 10, 2) := by decide +kernel
theorem dX8_sweepDown_3 : decode cX8_sweepDown 3 = .ok (.if_icmp .le 4, 3) := by decide +kernel
theorem dX8_sweepDown_6 : decode cX8_sweepDown 6 = .ok (.return_, 1) := by decide +kernel
theorem dX8_sweepDown_7 : decode cX8_sweepDown 7 = .ok (.aload_n 0, 1) := by decide +kernel
theorem dX8_sweepDown_8 : decode cX8_sweepDown 8 = .ok (.getfield 52, 3) := by decide +kernel
theorem dX8_sweepDown_11 : decode cX8_sweepDown 11 = .ok (.ifnull 42, 3) := by decide +kernel
theorem dX8_sweepDown_14 : decode cX8_sweepDown 14 = .ok (.aload_n 0, 1) := by decide +kernel
theorem dX8_sweepDown_15 : decode cX8_sweepDown 15 = .ok (.aload_n 0, 1) := by decide +kernel
theorem dX8_sweepDown_16 : decode cX8_sweepDown 16 = .ok (.getfield 9, 3) := by decide +kernel
theorem dX8_sweepDown_19 : decode cX8_sweepDown 19 = .ok (.aload_n 0, 1) := by decide +kernel
theorem dX8_sweepDown_20 : decode cX8_sweepDown 20 = .ok (.getfield 52, 3) := by decide +kernel
theorem dX8_sweepDown_23 : decode cX8_sweepDown 23 = .ok (.getfield 9, 3) := by decide +kernel
theorem dX8_sweepDown_26 : decode cX8_sweepDown 26 = .ok (.invokestatic 56, 3) := by decide +kernel
theorem dX8_sweepDown_29 : decode cX8_sweepDown 29 = .ok (.lstore_n 2, 1) := by decide +kernel
theorem dX8_sweepDown_30 : decode cX8_sweepDown 30 = .ok (.aload_n 0, 1) := by decide +kernel
theorem dX8_sweepDown_31 : decode cX8_sweepDown 31 = .ok (.dup, 1) := by decide +kernel
theorem dX8_sweepDown_32 : decode cX8_sweepDown 32 = .ok (.getfield 9, 3) := by decide +kernel
theorem dX8_sweepDown_35 : decode cX8_sweepDown 35 = .ok (.lload_n 2, 1) := by decide +kernel
theorem dX8_sweepDown_36 : decode cX8_sweepDown 36 = .ok (.ladd, 1) := by decide +kernel
theorem dX8_sweepDown_37 : decode cX8_sweepDown 37 = .ok (.putfield 9, 3) := by decide +kernel
theorem dX8_sweepDown_40 : decode cX8_sweepDown 40 = .ok (.aload_n 0, 1) := by decide +kernel
theorem dX8_sweepDown_41 : decode cX8_sweepDown 41 = .ok (.getfield 52, 3) := by decide +kernel
theorem dX8_sweepDown_44 : decode cX8_sweepDown 44 = .ok (.dup, 1) := by decide +kernel
theorem dX8_sweepDown_45 : decode cX8_sweepDown 45 = .ok (.getfield 9, 3) := by decide +kernel
theorem dX8_sweepDown_48 : decode cX8_sweepDown 48 = .ok (.lload_n 2, 1) := by decide +kernel
theorem dX8_sweepDown_49 : decode cX8_sweepDown 49 = .ok (.lsub, 1) := by decide +kernel
theorem dX8_sweepDown_50 : decode cX8_sweepDown 50 = .ok (.putfield 9, 3) := by decide +kernel
theorem dX8_sweepDown_53 : decode cX8_sweepDown 53 = .ok (.iconst 0, 1) := by decide +kernel
theorem dX8_sweepDown_54 : decode cX8_sweepDown 54 = .ok (.istore_n 2, 1) := by decide +kernel
theorem dX8_sweepDown_55 : decode cX8_sweepDown 55 = .ok (.iload_n 2, 1) := by decide +kernel
theorem dX8_sweepDown_56 : decode cX8_sweepDown 56 = .ok (.aload_n 0, 1) := by decide +kernel
theorem dX8_sweepDown_57 : decode cX8_sweepDown 57 = .ok (.getfield 15, 3) := by decide +kernel
theorem dX8_sweepDown_60 : decode cX8_sweepDown 60 = .ok (.invokevirtual 19, 3) := by decide +kernel
theorem dX8_sweepDown_63 : decode cX8_sweepDown 63 = .ok (.if_icmp .ge 26, 3) := by decide +kernel
theorem dX8_sweepDown_66 : decode cX8_sweepDown 66 = .ok (.aload_n 0, 1) := by decide +kernel
theorem dX8_sweepDown_67 : decode cX8_sweepDown 67 = .ok (.getfield 15, 3) := by decide +kernel
theorem dX8_sweepDown_70 : decode cX8_sweepDown 70 = .ok (.iload_n 2, 1) := by decide +kernel
theorem dX8_sweepDown_71 : decode cX8_sweepDown 71 = .ok (.invokevirtual 25, 3) := by decide +kernel
theorem dX8_sweepDown_74 : decode cX8_sweepDown 74 = .ok (.checkcast 10, 3) := by decide +kernel
theorem dX8_sweepDown_77 : decode cX8_sweepDown 77 = .ok (.iload_n 1, 1) := by decide +kernel
theorem dX8_sweepDown_78 : decode cX8_sweepDown 78 = .ok (.iconst 1, 1) := by decide +kernel
theorem dX8_sweepDown_79 : decode cX8_sweepDown 79 = .ok (.iadd, 1) := by decide +kernel
theorem dX8_sweepDown_80 : decode cX8_sweepDown 80 = .ok (.invokestatic 39, 3) := by decide +kernel
theorem dX8_sweepDown_83 : decode cX8_sweepDown 83 = .ok (.iinc 2 1, 3) := by decide +kernel
theorem dX8_sweepDown_86 : decode cX8_sweepDown 86 = .ok (.goto (-31), 3) := by decide +kernel
theorem dX8_sweepDown_89 : decode cX8_sweepDown 89 = .ok (.return_, 1) := by decide +kernel
set_option maxRecDepth 20000 in
theorem ggX8_partOf_X0_surplusOf : GoodIn wsX8_partOf wsX0_surplusOf := goodIn_r _ [14, 15, 16, 17, 3, 4, 5, 18, 8, 9, 19, 20, 21, 22, 23, 24, 25, 26, 27, 28, 29, 30] (by decide +kernel) (by decide +kernel)
set_option maxRecDepth 20000 in
theorem gX8_partOf_X0_surplusOf : GoodIn wsX8_partOf (wsV RX8 42 RX0 yX0_surplusOf wsX0_surplusOf) := goodIn_app (goodIn_of _ (by decide +kernel)) ggX8_partOf_X0_surplusOf
theorem dX8_partOf_0 : decode cX8_partOf 0 = .ok (.aload_n 0, 1) := by decide +kernel
theorem dX8_partOf_1 : decode cX8_partOf 1 = .ok (.getfield 52, 3) := by decide +kernel
theorem dX8_partOf_4 : decode cX8_partOf 4 = .ok (.ifnonnull 5, 3) := by decide +kernel
theorem dX8_partOf_7 : decode cX8_partOf 7 = .ok (.lconst 0, 1) := by decide +kernel
theorem dX8_partOf_8 : decode cX8_partOf 8 = .ok (.lreturn, 1) := by decide +kernel
theorem dX8_partOf_9 : decode cX8_partOf 9 = .ok (.aload_n 0, 1) := by decide +kernel
theorem dX8_partOf_10 : decode cX8_partOf 10 = .ok (.lload_n 1, 1) := by decide +kernel
theorem dX8_partOf_11 : decode cX8_partOf 11 = .ok (.invokevirtual 42, 3) := by decide +kernel
theorem dX8_partOf_14 : decode cX8_partOf 14 = .ok (.lneg, 1) := by decide +kernel
theorem dX8_partOf_15 : decode cX8_partOf 15 = .ok (.lconst 0, 1) := by decide +kernel
theorem dX8_partOf_16 : decode cX8_partOf 16 = .ok (.invokestatic 46, 3) := by decide +kernel
theorem dX8_partOf_19 : decode cX8_partOf 19 = .ok (.lstore 5, 2) := by decide +kernel
theorem dX8_partOf_21 : decode cX8_partOf 21 = .ok (.lload_n 3, 1) := by decide +kernel
theorem dX8_partOf_22 : decode cX8_partOf 22 = .ok (.aload_n 0, 1) := by decide +kernel
theorem dX8_partOf_23 : decode cX8_partOf 23 = .ok (.getfield 52, 3) := by decide +kernel
theorem dX8_partOf_26 : decode cX8_partOf 26 = .ok (.getfield 60, 3) := by decide +kernel
theorem dX8_partOf_29 : decode cX8_partOf 29 = .ok (.i2l, 1) := by decide +kernel
theorem dX8_partOf_30 : decode cX8_partOf 30 = .ok (.lsub, 1) := by decide +kernel
theorem dX8_partOf_31 : decode cX8_partOf 31 = .ok (.lconst 0, 1) := by decide +kernel
theorem dX8_partOf_32 : decode cX8_partOf 32 = .ok (.invokestatic 46, 3) := by decide +kernel
theorem dX8_partOf_35 : decode cX8_partOf 35 = .ok (.lstore 7, 2) := by decide +kernel
theorem dX8_partOf_37 : decode cX8_partOf 37 = .ok (.lload 5, 2) := by decide +kernel
theorem dX8_partOf_39 : decode cX8_partOf 39 = .ok (.lload 7, 2) := by decide +kernel
theorem dX8_partOf_41 : decode cX8_partOf 41 = .ok (.invokestatic 64, 3) := by decide +kernel
theorem dX8_partOf_44 : decode cX8_partOf 44 = .ok (.lreturn, 1) := by decide +kernel
set_option maxRecDepth 20000 in
theorem ggX8_sweptCash_X8_leftBefore : GoodIn wsX8_sweptCash wsX8_leftBefore := goodIn_r _ [4, 5, 6, 7, 8, 9, 10, 3, 11, 12, 13, 14, 15, 16, 17, 18, 19, 20, 21, 22, 23, 24, 25, 26, 27, 28, 29, 30, 31, 32, 33, 34, 35, 36, 37, 38, 39, 40, 41, 42, 43, 44, 45, 46, 47, 48, 49, 50, 51, 52, 53, 1, 2, 54, 55, 56, 57, 58, 59, 60, 61, 62, 63, 64, 65, 66, 67, 68, 69, 70, 71, 72, 73] (by decide +kernel) (by decide +kernel)
set_option maxRecDepth 20000 in
theorem gX8_sweptCash_X8_leftBefore : GoodIn wsX8_sweptCash (va_wsS RX8 67 yX8_leftBefore wsX8_leftBefore) := goodIn_app (goodIn_of _ (by decide +kernel)) ggX8_sweptCash_X8_leftBefore
theorem dX8_sweptCash_0 : decode cX8_sweptCash 0 = .ok (.aload_n 0, 1) := by decide +kernel
theorem dX8_sweptCash_1 : decode cX8_sweptCash 1 = .ok (.bipush 10, 2) := by decide +kernel
theorem dX8_sweptCash_3 : decode cX8_sweptCash 3 = .ok (.iconst 0, 1) := by decide +kernel
theorem dX8_sweptCash_4 : decode cX8_sweptCash 4 = .ok (.invokestatic 67, 3) := by decide +kernel
theorem dX8_sweptCash_7 : decode cX8_sweptCash 7 = .ok (.lreturn, 1) := by decide +kernel
set_option maxRecDepth 20000 in
theorem ggX8_leftBefore_X8_heldBetweenPasses : GoodIn wsX8_leftBefore wsX8_heldBetweenPasses := goodIn_r _ [8, 9, 10, 11, 12, 13, 14, 7, 15, 16, 3, 4, 17, 18, 19, 20, 21, 22, 23, 24, 25, 26, 27, 28, 29, 30, 31, 32, 33, 34, 35, 36, 37, 38, 39, 40, 41, 42, 43, 44, 45, 46, 47, 48, 49, 50, 58, 59, 60, 61, 62, 63, 64, 65, 66, 67, 68, 69, 70, 71, 72] (by decide +kernel) (by decide +kernel)
set_option maxRecDepth 20000 in
theorem gX8_leftBefore_X8_heldBetweenPasses : GoodIn wsX8_leftBefore (va_wsS RX8 71 yX8_heldBetweenPasses wsX8_heldBetweenPasses) := goodIn_app (goodIn_of _ (by decide +kernel)) ggX8_leftBefore_X8_heldBetweenPasses
set_option maxRecDepth 20000 in
theorem ggX8_leftBefore_X8_leftBefore : GoodIn wsX8_leftBefore wsX8_leftBefore := goodIn_r _ [0, 1, 2, 3, 4, 5, 6, 7, 8, 9, 10, 11, 12, 13, 14, 15, 16, 17, 18, 19, 20, 21, 22, 23, 24, 25, 26, 27, 28, 29, 30, 31, 32, 33, 34, 35, 36, 37, 38, 39, 40, 41, 42, 43, 44, 45, 46, 47, 48, 49, 50, 51, 52, 53, 54, 55, 56, 57, 58, 59, 60, 61, 62, 63, 64, 65, 66, 67, 68, 69, 70, 71, 72] (by decide +kernel) (by decide +kernel)
set_option maxRecDepth 20000 in
theorem gX8_leftBefore_X8_leftBefore : GoodIn wsX8_leftBefore (va_wsS RX8 67 yX8_leftBefore wsX8_leftBefore) := goodIn_app (goodIn_of _ (by decide +kernel)) ggX8_leftBefore_X8_leftBefore
set_option maxRecDepth 20000 in
theorem ggX8_leftBefore_X8_partOf : GoodIn wsX8_leftBefore wsX8_partOf := goodIn_r _ [55, 1, 9, 10, 11, 12, 56, 57, 49, 50, 40, 41, 42, 43, 44, 45, 46, 47, 48, 58, 59, 60, 61, 62, 63, 64, 65, 66, 67, 68, 69] (by decide +kernel) (by decide +kernel)
set_option maxRecDepth 20000 in
theorem gX8_leftBefore_X8_partOf : GoodIn wsX8_leftBefore (va_wsS RX8 56 yX8_partOf wsX8_partOf) := goodIn_app (goodIn_of _ (by decide +kernel)) ggX8_leftBefore_X8_partOf
set_option maxRecDepth 20000 in
theorem ggX8_leftBefore_Jx4a65c_size_8abf5 : GoodIn wsX8_leftBefore wsJx4a65c_size_8abf5 := goodIn_r _ [21, 22, 70, 71, 72] (by decide +kernel) (by decide +kernel)
set_option maxRecDepth 20000 in
theorem gX8_leftBefore_Jx4a65c_size_8abf5 : GoodIn wsX8_leftBefore (wsV RX8 19 RJx4a65c yJx4a65c_size_8abf5 wsJx4a65c_size_8abf5) := goodIn_app (goodIn_of _ (by decide +kernel)) ggX8_leftBefore_Jx4a65c_size_8abf5
set_option maxRecDepth 20000 in
theorem ggX8_leftBefore_Jx4a65c_get_915e3 : GoodIn wsX8_leftBefore wsJx4a65c_get_915e3 := goodIn_r _ [26, 22, 27, 28, 29, 30, 31, 32, 33, 34, 35, 36, 37, 20, 38, 39, 70, 71, 72] (by decide +kernel) (by decide +kernel)
set_option maxRecDepth 20000 in
theorem gX8_leftBefore_Jx4a65c_get_915e3 : GoodIn wsX8_leftBefore (wsV RX8 25 RJx4a65c yJx4a65c_get_915e3 wsJx4a65c_get_915e3) := goodIn_app (goodIn_of _ (by decide +kernel)) ggX8_leftBefore_Jx4a65c_get_915e3
theorem dX8_leftBefore_0 : decode cX8_leftBefore 0 = .ok (.iload_n 2, 1) := by decide +kernel
theorem dX8_leftBefore_1 : decode cX8_leftBefore 1 = .ok (.bipush 10, 2) := by decide +kernel
theorem dX8_leftBefore_3 : decode cX8_leftBefore 3 = .ok (.if_icmp .le 5, 3) := by decide +kernel
theorem dX8_leftBefore_6 : decode cX8_leftBefore 6 = .ok (.lconst 0, 1) := by decide +kernel
theorem dX8_leftBefore_7 : decode cX8_leftBefore 7 = .ok (.lreturn, 1) := by decide +kernel
theorem dX8_leftBefore_8 : decode cX8_leftBefore 8 = .ok (.aload_n 0, 1) := by decide +kernel
theorem dX8_leftBefore_9 : decode cX8_leftBefore 9 = .ok (.invokestatic 71, 3) := by decide +kernel
theorem dX8_leftBefore_12 : decode cX8_leftBefore 12 = .ok (.lstore_n 3, 1) := by decide +kernel
theorem dX8_leftBefore_13 : decode cX8_leftBefore 13 = .ok (.aload_n 0, 1) := by decide +kernel
theorem dX8_leftBefore_14 : decode cX8_leftBefore 14 = .ok (.getfield 52, 3) := by decide +kernel
theorem dX8_leftBefore_17 : decode cX8_leftBefore 17 = .ok (.ifnull 25, 3) := by decide +kernel
theorem dX8_leftBefore_20 : decode cX8_leftBefore 20 = .ok (.lload_n 3, 1) := by decide +kernel
theorem dX8_leftBefore_21 : decode cX8_leftBefore 21 = .ok (.aload_n 0, 1) := by decide +kernel
theorem dX8_leftBefore_22 : decode cX8_leftBefore 22 = .ok (.lload_n 3, 1) := by decide +kernel
theorem dX8_leftBefore_23 : decode cX8_leftBefore 23 = .ok (.aload_n 0, 1) := by decide +kernel
theorem dX8_leftBefore_24 : decode cX8_leftBefore 24 = .ok (.getfield 52, 3) := by decide +kernel
theorem dX8_leftBefore_27 : decode cX8_leftBefore 27 = .ok (.aload_n 0, 1) := by decide +kernel
theorem dX8_leftBefore_28 : decode cX8_leftBefore 28 = .ok (.getfield 75, 3) := by decide +kernel
theorem dX8_leftBefore_31 : decode cX8_leftBefore 31 = .ok (.iload_n 2, 1) := by decide +kernel
theorem dX8_leftBefore_32 : decode cX8_leftBefore 32 = .ok (.iconst 1, 1) := by decide +kernel
theorem dX8_leftBefore_33 : decode cX8_leftBefore 33 = .ok (.iadd, 1) := by decide +kernel
theorem dX8_leftBefore_34 : decode cX8_leftBefore 34 = .ok (.invokestatic 67, 3) := by decide +kernel
theorem dX8_leftBefore_37 : decode cX8_leftBefore 37 = .ok (.invokestatic 56, 3) := by decide +kernel
theorem dX8_leftBefore_40 : decode cX8_leftBefore 40 = .ok (.ladd, 1) := by decide +kernel
theorem dX8_leftBefore_41 : decode cX8_leftBefore 41 = .ok (.lstore_n 3, 1) := by decide +kernel
theorem dX8_leftBefore_42 : decode cX8_leftBefore 42 = .ok (.iconst 0, 1) := by decide +kernel
theorem dX8_leftBefore_43 : decode cX8_leftBefore 43 = .ok (.istore 5, 2) := by decide +kernel
theorem dX8_leftBefore_45 : decode cX8_leftBefore 45 = .ok (.iload 5, 2) := by decide +kernel
theorem dX8_leftBefore_47 : decode cX8_leftBefore 47 = .ok (.aload_n 0, 1) := by decide +kernel
theorem dX8_leftBefore_48 : decode cX8_leftBefore 48 = .ok (.getfield 15, 3) := by decide +kernel
theorem dX8_leftBefore_51 : decode cX8_leftBefore 51 = .ok (.invokevirtual 19, 3) := by decide +kernel
theorem dX8_leftBefore_54 : decode cX8_leftBefore 54 = .ok (.if_icmp .ge 46, 3) := by decide +kernel
theorem dX8_leftBefore_57 : decode cX8_leftBefore 57 = .ok (.aload_n 0, 1) := by decide +kernel
theorem dX8_leftBefore_58 : decode cX8_leftBefore 58 = .ok (.getfield 15, 3) := by decide +kernel
theorem dX8_leftBefore_61 : decode cX8_leftBefore 61 = .ok (.iload 5, 2) := by decide +kernel
theorem dX8_leftBefore_63 : decode cX8_leftBefore 63 = .ok (.invokevirtual 25, 3) := by decide +kernel
theorem dX8_leftBefore_66 : decode cX8_leftBefore 66 = .ok (.checkcast 10, 3) := by decide +kernel
theorem dX8_leftBefore_69 : decode cX8_leftBefore 69 = .ok (.astore 6, 2) := by decide +kernel
theorem dX8_leftBefore_71 : decode cX8_leftBefore 71 = .ok (.aload 6, 2) := by decide +kernel
theorem dX8_leftBefore_73 : decode cX8_leftBefore 73 = .ok (.getfield 75, 3) := by decide +kernel
theorem dX8_leftBefore_76 : decode cX8_leftBefore 76 = .ok (.iload_n 1, 1) := by decide +kernel
theorem dX8_leftBefore_77 : decode cX8_leftBefore 77 = .ok (.if_icmp .ge 17, 3) := by decide +kernel
theorem dX8_leftBefore_80 : decode cX8_leftBefore 80 = .ok (.lload_n 3, 1) := by decide +kernel
theorem dX8_leftBefore_81 : decode cX8_leftBefore 81 = .ok (.aload 6, 2) := by decide +kernel
theorem dX8_leftBefore_83 : decode cX8_leftBefore 83 = .ok (.aload 6, 2) := by decide +kernel
theorem dX8_leftBefore_85 : decode cX8_leftBefore 85 = .ok (.invokestatic 71, 3) := by decide +kernel
theorem dX8_leftBefore_88 : decode cX8_leftBefore 88 = .ok (.lload_n 3, 1) := by decide +kernel
theorem dX8_leftBefore_89 : decode cX8_leftBefore 89 = .ok (.invokestatic 56, 3) := by decide +kernel
theorem dX8_leftBefore_92 : decode cX8_leftBefore 92 = .ok (.lsub, 1) := by decide +kernel
theorem dX8_leftBefore_93 : decode cX8_leftBefore 93 = .ok (.lstore_n 3, 1) := by decide +kernel
theorem dX8_leftBefore_94 : decode cX8_leftBefore 94 = .ok (.iinc 5 1, 3) := by decide +kernel
theorem dX8_leftBefore_97 : decode cX8_leftBefore 97 = .ok (.goto (-52), 3) := by decide +kernel
theorem dX8_leftBefore_100 : decode cX8_leftBefore 100 = .ok (.lload_n 3, 1) := by decide +kernel
theorem dX8_leftBefore_101 : decode cX8_leftBefore 101 = .ok (.lreturn, 1) := by decide +kernel
set_option maxRecDepth 20000 in
theorem ggX8_heldBetweenPasses_X8_heldWithGifts : GoodIn wsX8_heldBetweenPasses wsX8_heldWithGifts := goodIn_r _ [8, 9, 10, 11, 1, 2, 3, 4, 12, 13, 14, 15, 16, 17, 18, 19, 20, 21, 22, 23, 24, 25, 26, 27, 28, 29, 30, 31, 32, 33, 34, 5, 6, 7, 35, 36, 37, 38, 39, 40, 41, 42, 43, 44, 45, 46, 47, 48, 49, 50, 51, 52, 53, 54, 55, 56, 57, 58, 59, 60] (by decide +kernel) (by decide +kernel)
set_option maxRecDepth 20000 in
theorem gX8_heldBetweenPasses_X8_heldWithGifts : GoodIn wsX8_heldBetweenPasses (va_wsS RX8 78 yX8_heldWithGifts wsX8_heldWithGifts) := goodIn_app (goodIn_of _ (by decide +kernel)) ggX8_heldBetweenPasses_X8_heldWithGifts
set_option maxRecDepth 20000 in
theorem ggX8_heldBetweenPasses_X0_surplusOf : GoodIn wsX8_heldBetweenPasses wsX0_surplusOf := goodIn_r _ [39, 40, 41, 42, 2, 3, 4, 43, 44, 45, 46, 47, 48, 49, 50, 51, 52, 53, 54, 55, 56, 57] (by decide +kernel) (by decide +kernel)
set_option maxRecDepth 20000 in
theorem gX8_heldBetweenPasses_X0_surplusOf : GoodIn wsX8_heldBetweenPasses (wsV RX8 42 RX0 yX0_surplusOf wsX0_surplusOf) := goodIn_app (goodIn_of _ (by decide +kernel)) ggX8_heldBetweenPasses_X0_surplusOf
theorem dX8_heldBetweenPasses_0 : decode cX8_heldBetweenPasses 0 = .ok (.aload_n 0, 1) := by decide +kernel
theorem dX8_heldBetweenPasses_1 : decode cX8_heldBetweenPasses 1 = .ok (.iconst 0, 1) := by decide +kernel
theorem dX8_heldBetweenPasses_2 : decode cX8_heldBetweenPasses 2 = .ok (.invokestatic 78, 3) := by decide +kernel
theorem dX8_heldBetweenPasses_5 : decode cX8_heldBetweenPasses 5 = .ok (.lstore_n 1, 1) := by decide +kernel
theorem dX8_heldBetweenPasses_6 : decode cX8_heldBetweenPasses 6 = .ok (.lload_n 1, 1) := by decide +kernel
theorem dX8_heldBetweenPasses_7 : decode cX8_heldBetweenPasses 7 = .ok (.aload_n 0, 1) := by decide +kernel
theorem dX8_heldBetweenPasses_8 : decode cX8_heldBetweenPasses 8 = .ok (.lload_n 1, 1) := by decide +kernel
theorem dX8_heldBetweenPasses_9 : decode cX8_heldBetweenPasses 9 = .ok (.invokevirtual 42, 3) := by decide +kernel
theorem dX8_heldBetweenPasses_12 : decode cX8_heldBetweenPasses 12 = .ok (.lconst 0, 1) := by decide +kernel
theorem dX8_heldBetweenPasses_13 : decode cX8_heldBetweenPasses 13 = .ok (.invokestatic 46, 3) := by decide +kernel
theorem dX8_heldBetweenPasses_16 : decode cX8_heldBetweenPasses 16 = .ok (.lsub, 1) := by decide +kernel
theorem dX8_heldBetweenPasses_17 : decode cX8_heldBetweenPasses 17 = .ok (.lreturn, 1) := by decide +kernel
set_option maxRecDepth 20000 in
theorem ggX8_heldWithGifts_Jx4a65c_size_8abf5 : GoodIn wsX8_heldWithGifts wsJx4a65c_size_8abf5 := goodIn_r _ [12, 13, 57, 58, 59] (by decide +kernel) (by decide +kernel)
set_option maxRecDepth 20000 in
theorem gX8_heldWithGifts_Jx4a65c_size_8abf5 : GoodIn wsX8_heldWithGifts (wsV RX8 19 RJx4a65c yJx4a65c_size_8abf5 wsJx4a65c_size_8abf5) := goodIn_app (goodIn_of _ (by decide +kernel)) ggX8_heldWithGifts_Jx4a65c_size_8abf5
set_option maxRecDepth 20000 in
theorem ggX8_heldWithGifts_Jx4a65c_get_915e3 : GoodIn wsX8_heldWithGifts wsJx4a65c_get_915e3 := goodIn_r _ [17, 13, 18, 19, 20, 21, 22, 23, 24, 25, 26, 27, 28, 11, 29, 30, 57, 58, 59] (by decide +kernel) (by decide +kernel)
set_option maxRecDepth 20000 in
theorem gX8_heldWithGifts_Jx4a65c_get_915e3 : GoodIn wsX8_heldWithGifts (wsV RX8 25 RJx4a65c yJx4a65c_get_915e3 wsJx4a65c_get_915e3) := goodIn_app (goodIn_of _ (by decide +kernel)) ggX8_heldWithGifts_Jx4a65c_get_915e3
set_option maxRecDepth 20000 in
theorem ggX8_heldWithGifts_X8_heldWithGifts : GoodIn wsX8_heldWithGifts wsX8_heldWithGifts := goodIn_r _ [0, 1, 2, 3, 4, 5, 6, 7, 8, 9, 10, 11, 12, 13, 14, 15, 16, 17, 18, 19, 20, 21, 22, 23, 24, 25, 26, 27, 28, 29, 30, 31, 32, 33, 34, 35, 36, 37, 38, 39, 40, 41, 42, 43, 44, 45, 46, 47, 48, 49, 50, 51, 52, 53, 54, 55, 56, 57, 58, 59] (by decide +kernel) (by decide +kernel)
set_option maxRecDepth 20000 in
theorem gX8_heldWithGifts_X8_heldWithGifts : GoodIn wsX8_heldWithGifts (va_wsS RX8 78 yX8_heldWithGifts wsX8_heldWithGifts) := goodIn_app (goodIn_of _ (by decide +kernel)) ggX8_heldWithGifts_X8_heldWithGifts
set_option maxRecDepth 20000 in
theorem ggX8_heldWithGifts_X0_surplusOf : GoodIn wsX8_heldWithGifts wsX0_surplusOf := goodIn_r _ [38, 39, 40, 41, 5, 6, 7, 42, 43, 44, 45, 46, 47, 48, 49, 50, 51, 52, 53, 54, 55, 56] (by decide +kernel) (by decide +kernel)
set_option maxRecDepth 20000 in
theorem gX8_heldWithGifts_X0_surplusOf : GoodIn wsX8_heldWithGifts (wsV RX8 42 RX0 yX0_surplusOf wsX0_surplusOf) := goodIn_app (goodIn_of _ (by decide +kernel)) ggX8_heldWithGifts_X0_surplusOf
theorem dX8_heldWithGifts_0 : decode cX8_heldWithGifts 0 = .ok (.iload_n 1, 1) := by decide +kernel
theorem dX8_heldWithGifts_1 : decode cX8_heldWithGifts 1 = .ok (.bipush 10, 2) := by decide +kernel
theorem dX8_heldWithGifts_3 : decode cX8_heldWithGifts 3 = .ok (.if_icmp .le 5, 3) := by decide +kernel
theorem dX8_heldWithGifts_6 : decode cX8_heldWithGifts 6 = .ok (.lconst 0, 1) := by decide +kernel
theorem dX8_heldWithGifts_7 : decode cX8_heldWithGifts 7 = .ok (.lreturn, 1) := by decide +kernel
theorem dX8_heldWithGifts_8 : decode cX8_heldWithGifts 8 = .ok (.aload_n 0, 1) := by decide +kernel
theorem dX8_heldWithGifts_9 : decode cX8_heldWithGifts 9 = .ok (.getfield 9, 3) := by decide +kernel
theorem dX8_heldWithGifts_12 : decode cX8_heldWithGifts 12 = .ok (.lstore_n 2, 1) := by decide +kernel
theorem dX8_heldWithGifts_13 : decode cX8_heldWithGifts 13 = .ok (.iconst 0, 1) := by decide +kernel
theorem dX8_heldWithGifts_14 : decode cX8_heldWithGifts 14 = .ok (.istore 4, 2) := by decide +kernel
theorem dX8_heldWithGifts_16 : decode cX8_heldWithGifts 16 = .ok (.iload 4, 2) := by decide +kernel
theorem dX8_heldWithGifts_18 : decode cX8_heldWithGifts 18 = .ok (.aload_n 0, 1) := by decide +kernel
theorem dX8_heldWithGifts_19 : decode cX8_heldWithGifts 19 = .ok (.getfield 15, 3) := by decide +kernel
theorem dX8_heldWithGifts_22 : decode cX8_heldWithGifts 22 = .ok (.invokevirtual 19, 3) := by decide +kernel
theorem dX8_heldWithGifts_25 : decode cX8_heldWithGifts 25 = .ok (.if_icmp .ge 43, 3) := by decide +kernel
theorem dX8_heldWithGifts_28 : decode cX8_heldWithGifts 28 = .ok (.aload_n 0, 1) := by decide +kernel
theorem dX8_heldWithGifts_29 : decode cX8_heldWithGifts 29 = .ok (.getfield 15, 3) := by decide +kernel
theorem dX8_heldWithGifts_32 : decode cX8_heldWithGifts 32 = .ok (.iload 4, 2) := by decide +kernel
theorem dX8_heldWithGifts_34 : decode cX8_heldWithGifts 34 = .ok (.invokevirtual 25, 3) := by decide +kernel
theorem dX8_heldWithGifts_37 : decode cX8_heldWithGifts 37 = .ok (.checkcast 10, 3) := by decide +kernel
theorem dX8_heldWithGifts_40 : decode cX8_heldWithGifts 40 = .ok (.astore 5, 2) := by decide +kernel
theorem dX8_heldWithGifts_42 : decode cX8_heldWithGifts 42 = .ok (.lload_n 2, 1) := by decide +kernel
theorem dX8_heldWithGifts_43 : decode cX8_heldWithGifts 43 = .ok (.aload 5, 2) := by decide +kernel
theorem dX8_heldWithGifts_45 : decode cX8_heldWithGifts 45 = .ok (.aload 5, 2) := by decide +kernel
theorem dX8_heldWithGifts_47 : decode cX8_heldWithGifts 47 = .ok (.iload_n 1, 1) := by decide +kernel
theorem dX8_heldWithGifts_48 : decode cX8_heldWithGifts 48 = .ok (.iconst 1, 1) := by decide +kernel
theorem dX8_heldWithGifts_49 : decode cX8_heldWithGifts 49 = .ok (.iadd, 1) := by decide +kernel
theorem dX8_heldWithGifts_50 : decode cX8_heldWithGifts 50 = .ok (.invokestatic 78, 3) := by decide +kernel
theorem dX8_heldWithGifts_53 : decode cX8_heldWithGifts 53 = .ok (.invokevirtual 42, 3) := by decide +kernel
theorem dX8_heldWithGifts_56 : decode cX8_heldWithGifts 56 = .ok (.lconst 0, 1) := by decide +kernel
theorem dX8_heldWithGifts_57 : decode cX8_heldWithGifts 57 = .ok (.invokestatic 46, 3) := by decide +kernel
theorem dX8_heldWithGifts_60 : decode cX8_heldWithGifts 60 = .ok (.ladd, 1) := by decide +kernel
theorem dX8_heldWithGifts_61 : decode cX8_heldWithGifts 61 = .ok (.lstore_n 2, 1) := by decide +kernel
theorem dX8_heldWithGifts_62 : decode cX8_heldWithGifts 62 = .ok (.iinc 4 1, 3) := by decide +kernel
theorem dX8_heldWithGifts_65 : decode cX8_heldWithGifts 65 = .ok (.goto (-49), 3) := by decide +kernel
theorem dX8_heldWithGifts_68 : decode cX8_heldWithGifts 68 = .ok (.lload_n 2, 1) := by decide +kernel
theorem dX8_heldWithGifts_69 : decode cX8_heldWithGifts 69 = .ok (.lreturn, 1) := by decide +kernel
set_option maxRecDepth 20000 in
theorem ggX9_init_X3_init : GoodIn wsX9_init wsX3_init := goodIn_r _ [10, 11, 2, 3, 12, 13, 14, 15, 16, 17, 18, 19, 20, 21, 22, 23, 24, 25, 26, 27, 28, 29, 30, 31, 32, 33, 34, 35, 36, 37, 38, 39, 40, 41, 42, 43, 44, 45, 46, 47, 48, 49, 50, 51, 52, 53, 54, 55, 56, 57, 58, 59, 60, 61, 62, 63, 64, 65, 66, 67, 68, 69, 70, 71, 72, 73, 74, 75, 76, 77, 78, 79, 80, 81, 82, 83, 84, 85, 86, 87, 88, 89, 90, 91, 92, 93, 94, 95, 96, 97, 98, 99, 100, 101, 102, 103, 104, 105, 115, 116, 117, 106, 107, 108, 109, 110, 111, 112, 113, 118, 119, 120, 121] (by decide +kernel) (by decide +kernel)
set_option maxRecDepth 20000 in
theorem gX9_init_X3_init : GoodIn wsX9_init (wsX3_init) := ggX9_init_X3_init
theorem dX9_init_0 : decode cX9_init 0 = .ok (.aload_n 0, 1) := by decide +kernel
theorem dX9_init_1 : decode cX9_init 1 = .ok (.invokespecial 1, 3) := by decide +kernel
theorem dX9_init_4 : decode cX9_init 4 = .ok (.aload_n 0, 1) := by decide +kernel
theorem dX9_init_5 : decode cX9_init 5 = .ok (.new 7, 3) := by decide +kernel
theorem dX9_init_8 : decode cX9_init 8 = .ok (.dup, 1) := by decide +kernel
theorem dX9_init_9 : decode cX9_init 9 = .ok (.invokespecial 9, 3) := by decide +kernel
theorem dX9_init_12 : decode cX9_init 12 = .ok (.putfield 10, 3) := by decide +kernel
theorem dX9_init_15 : decode cX9_init 15 = .ok (.return_, 1) := by decide +kernel
set_option maxRecDepth 20000 in
theorem ggX9_addPool_X9_bankAt : GoodIn wsX9_addPool wsX9_bankAt := goodIn_ca (goodIn_r _ [6, 7, 8, 1, 9, 10, 11, 12, 13, 14, 15, 16, 17, 18, 19, 20, 21, 22, 23, 24, 25, 26, 27, 28, 29, 30, 31, 32, 33, 168, 169, 170, 171, 172, 173, 174, 175, 176, 177, 178, 179] (by decide +kernel) (by decide +kernel)) (goodIn_sub (fun _ h => List.mem_cons_of_mem _ (List.mem_append_left _ (List.mem_append_right _ h))) (by decide +kernel))
set_option maxRecDepth 20000 in
theorem gX9_addPool_X9_bankAt : GoodIn wsX9_addPool (wsV RX9 16 RX9 yX9_bankAt wsX9_bankAt) := goodIn_app (goodIn_of _ (by decide +kernel)) ggX9_addPool_X9_bankAt
set_option maxRecDepth 20000 in
theorem ggX9_addPool_X9_requireWithin : GoodIn wsX9_addPool wsX9_requireWithin := goodIn_ca (goodIn_r _ [36, 7, 8] (by decide +kernel) (by decide +kernel)) (goodIn_sub (fun _ h => List.mem_cons_of_mem _ (List.mem_append_left _ (List.mem_append_right _ h))) (by decide +kernel))
set_option maxRecDepth 20000 in
theorem gX9_addPool_X9_requireWithin : GoodIn wsX9_addPool (va_wsS RX9 20 yX9_requireWithin wsX9_requireWithin) := goodIn_app (goodIn_of _ (by decide +kernel)) ggX9_addPool_X9_requireWithin
set_option maxRecDepth 20000 in
theorem ggX9_addPool_X9_requireAccountLeft : GoodIn wsX9_addPool wsX9_requireAccountLeft := goodIn_ca (goodIn_r _ [40, 41, 42, 1, 43, 11, 12, 13, 14, 15, 16, 168, 169, 170, 171, 172, 173, 174, 175, 176, 177, 178, 179] (by decide +kernel) (by decide +kernel)) (goodIn_sub (fun _ h => List.mem_cons_of_mem _ (List.mem_append_right _ h)) (by decide +kernel))
set_option maxRecDepth 20000 in
theorem gX9_addPool_X9_requireAccountLeft : GoodIn wsX9_addPool (wsV RX9 24 RX9 yX9_requireAccountLeft wsX9_requireAccountLeft) := goodIn_app (goodIn_of _ (by decide +kernel)) ggX9_addPool_X9_requireAccountLeft
set_option maxRecDepth 20000 in
theorem ggX9_addPool_X3_openPool : GoodIn wsX9_addPool wsX3_openPool := goodIn_r _ [48, 49, 50, 51, 52, 53, 54, 55, 56, 57, 12, 13, 14, 15, 16, 58, 59, 60, 61, 62, 63, 64, 65, 66, 67, 68, 69, 70, 71, 72, 73, 74, 75, 76, 77, 33, 78, 79, 80, 81, 82, 83, 84, 85, 86, 87, 88, 89, 90, 91, 92, 93, 94, 95, 96, 97, 98, 99, 100, 101, 102, 103, 104, 105, 106, 107, 108, 109, 110, 111, 112, 113, 114, 115, 116, 117, 118, 119, 120, 121, 122, 123, 124, 125, 126, 127, 128, 129, 130, 131, 132, 133, 134, 135, 136, 137, 138, 139, 140, 141, 142, 143, 144, 145, 146, 147, 148, 149, 150, 151, 152, 153, 154, 155, 156, 157, 158, 159, 160, 161, 162, 163, 164, 47, 165, 166, 167, 169, 170, 171, 172, 173, 174, 175, 176, 180, 181, 182, 183, 184, 185, 186, 187, 188, 189, 190, 191, 192, 193, 194, 195, 196, 177, 178, 179, 197, 198, 199, 200, 201, 202, 203, 204, 205, 206] (by decide +kernel) (by decide +kernel)
set_option maxRecDepth 20000 in
theorem gX9_addPool_X3_openPool : GoodIn wsX9_addPool (wsV RX9 27 RX3 yX3_openPool wsX3_openPool) := goodIn_app (goodIn_of _ (by decide +kernel)) ggX9_addPool_X3_openPool
theorem dX9_addPool_0 : decode cX9_addPool 0 = .ok (.aload_n 0, 1) := by decide +kernel
theorem dX9_addPool_1 : decode cX9_addPool 1 = .ok (.iload_n 1, 1) := by decide +kernel
theorem dX9_addPool_2 : decode cX9_addPool 2 = .ok (.invokevirtual 16, 3) := by decide +kernel
theorem dX9_addPool_5 : decode cX9_addPool 5 = .ok (.astore 4, 2) := by decide +kernel
theorem dX9_addPool_7 : decode cX9_addPool 7 = .ok (.iload_n 2, 1) := by decide +kernel
theorem dX9_addPool_8 : decode cX9_addPool 8 = .ok (.iconst 0, 1) := by decide +kernel
theorem dX9_addPool_9 : decode cX9_addPool 9 = .ok (.sipush 1000, 3) := by decide +kernel
theorem dX9_addPool_12 : decode cX9_addPool 12 = .ok (.invokestatic 20, 3) := by decide +kernel
theorem dX9_addPool_15 : decode cX9_addPool 15 = .ok (.iload_n 3, 1) := by decide +kernel
theorem dX9_addPool_16 : decode cX9_addPool 16 = .ok (.iconst 0, 1) := by decide +kernel
theorem dX9_addPool_17 : decode cX9_addPool 17 = .ok (.sipush 1000, 3) := by decide +kernel
theorem dX9_addPool_20 : decode cX9_addPool 20 = .ok (.invokestatic 20, 3) := by decide +kernel
theorem dX9_addPool_23 : decode cX9_addPool 23 = .ok (.aload_n 0, 1) := by decide +kernel
theorem dX9_addPool_24 : decode cX9_addPool 24 = .ok (.invokevirtual 24, 3) := by decide +kernel
theorem dX9_addPool_27 : decode cX9_addPool 27 = .ok (.aload_n 0, 1) := by decide +kernel
theorem dX9_addPool_28 : decode cX9_addPool 28 = .ok (.getfield 10, 3) := by decide +kernel
theorem dX9_addPool_31 : decode cX9_addPool 31 = .ok (.aload 4, 2) := by decide +kernel
theorem dX9_addPool_33 : decode cX9_addPool 33 = .ok (.iload_n 2, 1) := by decide +kernel
theorem dX9_addPool_34 : decode cX9_addPool 34 = .ok (.iload_n 3, 1) := by decide +kernel
theorem dX9_addPool_35 : decode cX9_addPool 35 = .ok (.invokevirtual 27, 3) := by decide +kernel
theorem dX9_addPool_38 : decode cX9_addPool 38 = .ok (.ireturn, 1) := by decide +kernel
set_option maxRecDepth 20000 in
theorem ggX9_addAccount_X9_accountAt : GoodIn wsX9_addAccount wsX9_accountAt := goodIn_ca (goodIn_r _ [6, 7, 8, 1, 9, 10, 11, 12, 13, 14, 15, 16, 17, 18, 19, 20, 21, 22, 23, 24, 25, 26, 27, 28, 29, 30, 31, 32, 33, 144, 145, 146, 147, 148, 149, 150, 151, 152, 153, 154, 155] (by decide +kernel) (by decide +kernel)) (goodIn_sub (fun _ h => List.mem_cons_of_mem _ (List.mem_append_left _ (List.mem_append_left _ (List.mem_append_right _ h)))) (by decide +kernel))
set_option maxRecDepth 20000 in
theorem gX9_addAccount_X9_accountAt : GoodIn wsX9_addAccount (wsV RX9 31 RX9 yX9_accountAt wsX9_accountAt) := goodIn_app (goodIn_of _ (by decide +kernel)) ggX9_addAccount_X9_accountAt
set_option maxRecDepth 20000 in
theorem ggX9_addAccount_X9_bankAt : GoodIn wsX9_addAccount wsX9_bankAt := goodIn_ca (goodIn_r _ [37, 38, 39, 1, 40, 41, 11, 12, 13, 14, 15, 16, 17, 18, 19, 20, 21, 22, 23, 24, 25, 26, 27, 28, 29, 30, 31, 32, 33, 144, 145, 146, 147, 148, 149, 150, 151, 152, 153, 154, 155] (by decide +kernel) (by decide +kernel)) (goodIn_sub (fun _ h => List.mem_cons_of_mem _ (List.mem_append_left _ (List.mem_append_right _ h))) (by decide +kernel))
set_option maxRecDepth 20000 in
theorem gX9_addAccount_X9_bankAt : GoodIn wsX9_addAccount (wsV RX9 16 RX9 yX9_bankAt wsX9_bankAt) := goodIn_app (goodIn_of _ (by decide +kernel)) ggX9_addAccount_X9_bankAt
set_option maxRecDepth 20000 in
theorem ggX9_addAccount_X9_requireAccountLeft : GoodIn wsX9_addAccount wsX9_requireAccountLeft := goodIn_ca (goodIn_r _ [45, 46, 47, 1, 9, 11, 12, 13, 14, 15, 16, 144, 145, 146, 147, 148, 149, 150, 151, 152, 153, 154, 155] (by decide +kernel) (by decide +kernel)) (goodIn_sub (fun _ h => List.mem_cons_of_mem _ (List.mem_append_right _ h)) (by decide +kernel))
set_option maxRecDepth 20000 in
theorem gX9_addAccount_X9_requireAccountLeft : GoodIn wsX9_addAccount (wsV RX9 24 RX9 yX9_requireAccountLeft wsX9_requireAccountLeft) := goodIn_app (goodIn_of _ (by decide +kernel)) ggX9_addAccount_X9_requireAccountLeft
set_option maxRecDepth 20000 in
theorem ggX9_addAccount_X3_openAccount : GoodIn wsX9_addAccount wsX3_openAccount := goodIn_r _ [52, 53, 54, 55, 56, 57, 58, 59, 12, 13, 14, 15, 16, 60, 61, 62, 63, 64, 65, 66, 67, 68, 69, 70, 71, 72, 73, 74, 75, 76, 33, 77, 78, 79, 80, 81, 82, 83, 84, 85, 86, 87, 88, 89, 90, 91, 92, 93, 94, 95, 96, 97, 98, 99, 100, 101, 102, 103, 104, 105, 106, 107, 108, 109, 110, 111, 112, 113, 114, 115, 116, 117, 118, 119, 120, 121, 122, 123, 124, 125, 126, 127, 128, 129, 130, 131, 132, 133, 134, 135, 136, 137, 138, 139, 140, 141, 51, 142, 143, 145, 146, 147, 148, 149, 150, 151, 152, 156, 157, 158, 159, 160, 161, 162, 163, 164, 165, 166, 167, 153, 154, 155, 168, 169, 170, 171, 172] (by decide +kernel) (by decide +kernel)
set_option maxRecDepth 20000 in
theorem gX9_addAccount_X3_openAccount : GoodIn wsX9_addAccount (wsV RX9 35 RX3 yX3_openAccount wsX3_openAccount) := goodIn_app (goodIn_of _ (by decide +kernel)) ggX9_addAccount_X3_openAccount
theorem dX9_addAccount_0 : decode cX9_addAccount 0 = .ok (.aload_n 0, 1) := by decide +kernel
theorem dX9_addAccount_1 : decode cX9_addAccount 1 = .ok (.iload_n 1, 1) := by decide +kernel
theorem dX9_addAccount_2 : decode cX9_addAccount 2 = .ok (.invokevirtual 31, 3) := by decide +kernel
theorem dX9_addAccount_5 : decode cX9_addAccount 5 = .ok (.astore_n 3, 1) := by decide +kernel
theorem dX9_addAccount_6 : decode cX9_addAccount 6 = .ok (.aload_n 0, 1) := by decide +kernel
theorem dX9_addAccount_7 : decode cX9_addAccount 7 = .ok (.iload_n 2, 1) := by decide +kernel
theorem dX9_addAccount_8 : decode cX9_addAccount 8 = .ok (.invokevirtual 16, 3) := by decide +kernel
theorem dX9_addAccount_11 : decode cX9_addAccount 11 = .ok (.astore 4, 2) := by decide +kernel
theorem dX9_addAccount_13 : decode cX9_addAccount 13 = .ok (.aload_n 0, 1) := by decide +kernel
theorem dX9_addAccount_14 : decode cX9_addAccount 14 = .ok (.invokevirtual 24, 3) := by decide +kernel
theorem dX9_addAccount_17 : decode cX9_addAccount 17 = .ok (.aload_n 0, 1) := by decide +kernel
theorem dX9_addAccount_18 : decode cX9_addAccount 18 = .ok (.getfield 10, 3) := by decide +kernel
theorem dX9_addAccount_21 : decode cX9_addAccount 21 = .ok (.aload_n 3, 1) := by decide +kernel
theorem dX9_addAccount_22 : decode cX9_addAccount 22 = .ok (.aload 4, 2) := by decide +kernel
theorem dX9_addAccount_24 : decode cX9_addAccount 24 = .ok (.invokevirtual 35, 3) := by decide +kernel
theorem dX9_addAccount_27 : decode cX9_addAccount 27 = .ok (.ireturn, 1) := by decide +kernel
set_option maxRecDepth 20000 in
theorem ggX9_setRule_X9_accountAt : GoodIn wsX9_setRule wsX9_accountAt := goodIn_ca (goodIn_r _ [12, 13, 14, 15, 16, 17, 18, 19, 20, 21, 22, 23, 24, 25, 26, 27, 28, 29, 30, 31, 32, 33, 34, 35, 36, 37, 38, 39, 40, 58, 59, 60, 61, 62, 63, 64, 65, 66, 67, 68, 69] (by decide +kernel) (by decide +kernel)) (goodIn_sub (fun _ h => List.mem_cons_of_mem _ (List.mem_append_left _ (List.mem_append_right _ h))) (by decide +kernel))
set_option maxRecDepth 20000 in
theorem gX9_setRule_X9_accountAt : GoodIn wsX9_setRule (wsV RX9 31 RX9 yX9_accountAt wsX9_accountAt) := goodIn_app (goodIn_of _ (by decide +kernel)) ggX9_setRule_X9_accountAt
set_option maxRecDepth 20000 in
theorem ggX9_setRule_X9_requireWithin : GoodIn wsX9_setRule wsX9_requireWithin := goodIn_ca (goodIn_r _ [43, 44, 45] (by decide +kernel) (by decide +kernel)) (goodIn_sub (fun _ h => List.mem_cons_of_mem _ (List.mem_append_right _ h)) (by decide +kernel))
set_option maxRecDepth 20000 in
theorem gX9_setRule_X9_requireWithin : GoodIn wsX9_setRule (va_wsS RX9 20 yX9_requireWithin wsX9_requireWithin) := goodIn_app (goodIn_of _ (by decide +kernel)) ggX9_setRule_X9_requireWithin
theorem dX9_setRule_0 : decode cX9_setRule 0 = .ok (.aload_n 0, 1) := by decide +kernel
theorem dX9_setRule_1 : decode cX9_setRule 1 = .ok (.iload_n 1, 1) := by decide +kernel
theorem dX9_setRule_2 : decode cX9_setRule 2 = .ok (.invokevirtual 31, 3) := by decide +kernel
theorem dX9_setRule_5 : decode cX9_setRule 5 = .ok (.astore 4, 2) := by decide +kernel
theorem dX9_setRule_7 : decode cX9_setRule 7 = .ok (.iload_n 2, 1) := by decide +kernel
theorem dX9_setRule_8 : decode cX9_setRule 8 = .ok (.iconst 0, 1) := by decide +kernel
theorem dX9_setRule_9 : decode cX9_setRule 9 = .ok (.iconst 3, 1) := by decide +kernel
theorem dX9_setRule_10 : decode cX9_setRule 10 = .ok (.invokestatic 20, 3) := by decide +kernel
theorem dX9_setRule_13 : decode cX9_setRule 13 = .ok (.iload_n 3, 1) := by decide +kernel
theorem dX9_setRule_14 : decode cX9_setRule 14 = .ok (.ldc 39, 2) := by decide +kernel
theorem dX9_setRule_16 : decode cX9_setRule 16 = .ok (.ldc 40, 2) := by decide +kernel
theorem dX9_setRule_18 : decode cX9_setRule 18 = .ok (.invokestatic 20, 3) := by decide +kernel
theorem dX9_setRule_21 : decode cX9_setRule 21 = .ok (.aload 4, 2) := by decide +kernel
theorem dX9_setRule_23 : decode cX9_setRule 23 = .ok (.getfield 41, 3) := by decide +kernel
theorem dX9_setRule_26 : decode cX9_setRule 26 = .ok (.ifnonnull 13, 3) := by decide +kernel
theorem dX9_setRule_29 : decode cX9_setRule 29 = .ok (.new 47, 3) := by decide +kernel
theorem dX9_setRule_32 : decode cX9_setRule 32 = .ok (.dup, 1) := by decide +kernel
theorem dX9_setRule_33 : decode cX9_setRule 33 = .ok (.ldc 49, 2) := by decide +kernel
theorem dX9_setRule_35 : decode cX9_setRule 35 = .ok (.invokespecial 51, 3) := by decide +kernel
theorem dX9_setRule_38 : decode cX9_setRule 38 = .ok (.athrow, 1) := by decide +kernel
theorem dX9_setRule_39 : decode cX9_setRule 39 = .ok (.aload 4, 2) := by decide +kernel
theorem dX9_setRule_41 : decode cX9_setRule 41 = .ok (.getfield 54, 3) := by decide +kernel
theorem dX9_setRule_44 : decode cX9_setRule 44 = .ok (.istore 5, 2) := by decide +kernel
theorem dX9_setRule_46 : decode cX9_setRule 46 = .ok (.aload 4, 2) := by decide +kernel
theorem dX9_setRule_48 : decode cX9_setRule 48 = .ok (.iload_n 2, 1) := by decide +kernel
theorem dX9_setRule_49 : decode cX9_setRule 49 = .ok (.putfield 54, 3) := by decide +kernel
theorem dX9_setRule_52 : decode cX9_setRule 52 = .ok (.aload 4, 2) := by decide +kernel
theorem dX9_setRule_54 : decode cX9_setRule 54 = .ok (.iload_n 3, 1) := by decide +kernel
theorem dX9_setRule_55 : decode cX9_setRule 55 = .ok (.putfield 58, 3) := by decide +kernel
theorem dX9_setRule_58 : decode cX9_setRule 58 = .ok (.iload 5, 2) := by decide +kernel
theorem dX9_setRule_60 : decode cX9_setRule 60 = .ok (.ireturn, 1) := by decide +kernel
set_option maxRecDepth 20000 in
theorem ggX9_setFloor_X9_accountAt : GoodIn wsX9_setFloor wsX9_accountAt := goodIn_ca (goodIn_r _ [8, 9, 10, 11, 12, 13, 14, 15, 16, 17, 18, 19, 20, 21, 22, 23, 24, 25, 26, 27, 28, 29, 30, 31, 32, 33, 34, 35, 36, 54, 55, 56, 57, 58, 59, 60, 61, 62, 63, 64, 65] (by decide +kernel) (by decide +kernel)) (goodIn_sub (fun _ h => List.mem_cons_of_mem _ (List.mem_append_left _ (List.mem_append_right _ h))) (by decide +kernel))
set_option maxRecDepth 20000 in
theorem gX9_setFloor_X9_accountAt : GoodIn wsX9_setFloor (wsV RX9 31 RX9 yX9_accountAt wsX9_accountAt) := goodIn_app (goodIn_of _ (by decide +kernel)) ggX9_setFloor_X9_accountAt
set_option maxRecDepth 20000 in
theorem ggX9_setFloor_X9_requireWithin : GoodIn wsX9_setFloor wsX9_requireWithin := goodIn_ca (goodIn_r _ [39, 40, 41] (by decide +kernel) (by decide +kernel)) (goodIn_sub (fun _ h => List.mem_cons_of_mem _ (List.mem_append_right _ h)) (by decide +kernel))
set_option maxRecDepth 20000 in
theorem gX9_setFloor_X9_requireWithin : GoodIn wsX9_setFloor (va_wsS RX9 20 yX9_requireWithin wsX9_requireWithin) := goodIn_app (goodIn_of _ (by decide +kernel)) ggX9_setFloor_X9_requireWithin
theorem dX9_setFloor_0 : decode cX9_setFloor 0 = .ok (.aload_n 0, 1) := by decide +kernel
theorem dX9_setFloor_1 : decode cX9_setFloor 1 = .ok (.iload_n 1, 1) := by decide +kernel
theorem dX9_setFloor_2 : decode cX9_setFloor 2 = .ok (.invokevirtual 31, 3) := by decide +kernel
theorem dX9_setFloor_5 : decode cX9_setFloor 5 = .ok (.astore_n 3, 1) := by decide +kernel
theorem dX9_setFloor_6 : decode cX9_setFloor 6 = .ok (.iload_n 2, 1) := by decide +kernel
theorem dX9_setFloor_7 : decode cX9_setFloor 7 = .ok (.ldc 39, 2) := by decide +kernel
theorem dX9_setFloor_9 : decode cX9_setFloor 9 = .ok (.ldc 40, 2) := by decide +kernel
theorem dX9_setFloor_11 : decode cX9_setFloor 11 = .ok (.invokestatic 20, 3) := by decide +kernel
theorem dX9_setFloor_14 : decode cX9_setFloor 14 = .ok (.aload_n 3, 1) := by decide +kernel
theorem dX9_setFloor_15 : decode cX9_setFloor 15 = .ok (.getfield 61, 3) := by decide +kernel
theorem dX9_setFloor_18 : decode cX9_setFloor 18 = .ok (.istore 4, 2) := by decide +kernel
theorem dX9_setFloor_20 : decode cX9_setFloor 20 = .ok (.aload_n 3, 1) := by decide +kernel
theorem dX9_setFloor_21 : decode cX9_setFloor 21 = .ok (.iload_n 2, 1) := by decide +kernel
theorem dX9_setFloor_22 : decode cX9_setFloor 22 = .ok (.putfield 61, 3) := by decide +kernel
theorem dX9_setFloor_25 : decode cX9_setFloor 25 = .ok (.iload 4, 2) := by decide +kernel
theorem dX9_setFloor_27 : decode cX9_setFloor 27 = .ok (.ireturn, 1) := by decide +kernel
set_option maxRecDepth 20000 in
theorem ggX9_addLine_X9_accountAt : GoodIn wsX9_addLine wsX9_accountAt := goodIn_ca (goodIn_r _ [10, 11, 12, 4, 13, 14, 15, 16, 17, 18, 19, 20, 21, 22, 23, 24, 25, 26, 27, 28, 29, 30, 31, 32, 33, 34, 35, 36, 37, 139, 140, 141, 142, 143, 144, 145, 146, 147, 148, 149, 150] (by decide +kernel) (by decide +kernel)) (goodIn_sub (fun _ h => List.mem_cons_of_mem _ (List.mem_append_left _ (List.mem_append_right _ h))) (by decide +kernel))
set_option maxRecDepth 20000 in
theorem gX9_addLine_X9_accountAt : GoodIn wsX9_addLine (wsV RX9 31 RX9 yX9_accountAt wsX9_accountAt) := goodIn_app (goodIn_of _ (by decide +kernel)) ggX9_addLine_X9_accountAt
set_option maxRecDepth 20000 in
theorem ggX9_addLine_X9_requireWithin : GoodIn wsX9_addLine wsX9_requireWithin := goodIn_ca (goodIn_r _ [40, 41, 42] (by decide +kernel) (by decide +kernel)) (goodIn_sub (fun _ h => List.mem_cons_of_mem _ (List.mem_append_right _ h)) (by decide +kernel))
set_option maxRecDepth 20000 in
theorem gX9_addLine_X9_requireWithin : GoodIn wsX9_addLine (va_wsS RX9 20 yX9_requireWithin wsX9_requireWithin) := goodIn_app (goodIn_of _ (by decide +kernel)) ggX9_addLine_X9_requireWithin
set_option maxRecDepth 20000 in
theorem ggX9_addLine_X9_requireTop : GoodIn wsX9_addLine wsX9_requireTop := goodIn_ca (goodIn_r _ [45, 1, 2, 46, 151, 152, 153, 154, 155, 156, 157, 158, 159, 160, 161, 162] (by decide +kernel) (by decide +kernel)) (goodIn_sub (fun _ h => List.mem_cons_of_mem _ (List.mem_append_left _ (List.mem_append_left _ (List.mem_append_right _ h)))) (by decide +kernel))
set_option maxRecDepth 20000 in
theorem gX9_addLine_X9_requireTop : GoodIn wsX9_addLine (va_wsS RX9 65 yX9_requireTop wsX9_requireTop) := goodIn_app (goodIn_of _ (by decide +kernel)) ggX9_addLine_X9_requireTop
set_option maxRecDepth 20000 in
theorem ggX9_addLine_Jx4a65c_size_8abf5 : GoodIn wsX9_addLine wsJx4a65c_size_8abf5 := goodIn_r _ [19, 20, 148, 149, 150] (by decide +kernel) (by decide +kernel)
set_option maxRecDepth 20000 in
theorem gX9_addLine_Jx4a65c_size_8abf5 : GoodIn wsX9_addLine (wsV RX9 73 RJx4a65c yJx4a65c_size_8abf5 wsJx4a65c_size_8abf5) := goodIn_app (goodIn_of _ (by decide +kernel)) ggX9_addLine_Jx4a65c_size_8abf5
set_option maxRecDepth 20000 in
theorem ggX9_addLine_X3_openLine : GoodIn wsX9_addLine wsX3_openLine := goodIn_r _ [51, 52, 53, 54, 55, 56, 57, 58, 59, 60, 61, 62, 63, 64, 65, 66, 67, 68, 18, 69, 70, 71, 37, 20, 72, 73, 74, 75, 76, 77, 78, 79, 80, 81, 82, 83, 84, 85, 86, 87, 88, 89, 90, 91, 92, 93, 94, 95, 96, 97, 98, 99, 100, 101, 102, 103, 104, 105, 106, 107, 108, 109, 110, 111, 112, 113, 114, 115, 116, 117, 118, 119, 120, 121, 122, 123, 124, 125, 126, 127, 16, 17, 19, 128, 22, 23, 24, 25, 26, 27, 28, 29, 30, 31, 32, 33, 34, 35, 36, 129, 130, 131, 132, 133, 134, 135, 136, 137, 138, 163, 164, 165, 166, 167, 168, 169, 170, 171, 140, 141, 142, 143, 144, 145, 146, 147, 151, 152, 153, 154, 155, 156, 157, 158, 159, 160, 161, 162, 148, 149, 150, 172, 173, 174, 175, 176] (by decide +kernel) (by decide +kernel)
set_option maxRecDepth 20000 in
theorem gX9_addLine_X3_openLine : GoodIn wsX9_addLine (wsV RX9 81 RX3 yX3_openLine wsX3_openLine) := goodIn_app (goodIn_of _ (by decide +kernel)) ggX9_addLine_X3_openLine
theorem dX9_addLine_0 : decode cX9_addLine 0 = .ok (.aload_n 0, 1) := by decide +kernel
theorem dX9_addLine_1 : decode cX9_addLine 1 = .ok (.iload_n 1, 1) := by decide +kernel
theorem dX9_addLine_2 : decode cX9_addLine 2 = .ok (.invokevirtual 31, 3) := by decide +kernel
theorem dX9_addLine_5 : decode cX9_addLine 5 = .ok (.astore 4, 2) := by decide +kernel
theorem dX9_addLine_7 : decode cX9_addLine 7 = .ok (.iload_n 2, 1) := by decide +kernel
theorem dX9_addLine_8 : decode cX9_addLine 8 = .ok (.iconst 1, 1) := by decide +kernel
theorem dX9_addLine_9 : decode cX9_addLine 9 = .ok (.ldc 64, 2) := by decide +kernel
theorem dX9_addLine_11 : decode cX9_addLine 11 = .ok (.invokestatic 20, 3) := by decide +kernel
theorem dX9_addLine_14 : decode cX9_addLine 14 = .ok (.iload_n 3, 1) := by decide +kernel
theorem dX9_addLine_15 : decode cX9_addLine 15 = .ok (.iconst 0, 1) := by decide +kernel
theorem dX9_addLine_16 : decode cX9_addLine 16 = .ok (.sipush 1000, 3) := by decide +kernel
theorem dX9_addLine_19 : decode cX9_addLine 19 = .ok (.invokestatic 20, 3) := by decide +kernel
theorem dX9_addLine_22 : decode cX9_addLine 22 = .ok (.aload 4, 2) := by decide +kernel
theorem dX9_addLine_24 : decode cX9_addLine 24 = .ok (.invokestatic 65, 3) := by decide +kernel
theorem dX9_addLine_27 : decode cX9_addLine 27 = .ok (.aload_n 0, 1) := by decide +kernel
theorem dX9_addLine_28 : decode cX9_addLine 28 = .ok (.getfield 10, 3) := by decide +kernel
theorem dX9_addLine_31 : decode cX9_addLine 31 = .ok (.getfield 69, 3) := by decide +kernel
theorem dX9_addLine_34 : decode cX9_addLine 34 = .ok (.invokevirtual 73, 3) := by decide +kernel
theorem dX9_addLine_37 : decode cX9_addLine 37 = .ok (.bipush 6, 2) := by decide +kernel
theorem dX9_addLine_39 : decode cX9_addLine 39 = .ok (.if_icmp .lt 13, 3) := by decide +kernel
theorem dX9_addLine_42 : decode cX9_addLine 42 = .ok (.new 47, 3) := by decide +kernel
theorem dX9_addLine_45 : decode cX9_addLine 45 = .ok (.dup, 1) := by decide +kernel
theorem dX9_addLine_46 : decode cX9_addLine 46 = .ok (.ldc 79, 2) := by decide +kernel
theorem dX9_addLine_48 : decode cX9_addLine 48 = .ok (.invokespecial 51, 3) := by decide +kernel
theorem dX9_addLine_51 : decode cX9_addLine 51 = .ok (.athrow, 1) := by decide +kernel
theorem dX9_addLine_52 : decode cX9_addLine 52 = .ok (.aload_n 0, 1) := by decide +kernel
theorem dX9_addLine_53 : decode cX9_addLine 53 = .ok (.getfield 10, 3) := by decide +kernel
theorem dX9_addLine_56 : decode cX9_addLine 56 = .ok (.aload 4, 2) := by decide +kernel
theorem dX9_addLine_58 : decode cX9_addLine 58 = .ok (.iload_n 2, 1) := by decide +kernel
theorem dX9_addLine_59 : decode cX9_addLine 59 = .ok (.iload_n 3, 1) := by decide +kernel
theorem dX9_addLine_60 : decode cX9_addLine 60 = .ok (.invokevirtual 81, 3) := by decide +kernel
theorem dX9_addLine_63 : decode cX9_addLine 63 = .ok (.ireturn, 1) := by decide +kernel
set_option maxRecDepth 20000 in
theorem ggX9_setBankLimit_X9_bankAt : GoodIn wsX9_setBankLimit wsX9_bankAt := goodIn_ca (goodIn_r _ [7, 8, 9, 10, 11, 12, 13, 14, 15, 16, 17, 18, 19, 20, 21, 22, 23, 24, 25, 26, 27, 28, 29, 30, 31, 32, 33, 34, 35, 42, 43, 44, 45, 46, 47, 48, 49, 50, 51, 52, 53] (by decide +kernel) (by decide +kernel)) (goodIn_sub (fun _ h => List.mem_cons_of_mem _ (List.mem_append_right _ h)) (by decide +kernel))
set_option maxRecDepth 20000 in
theorem gX9_setBankLimit_X9_bankAt : GoodIn wsX9_setBankLimit (wsV RX9 16 RX9 yX9_bankAt wsX9_bankAt) := goodIn_app (goodIn_of _ (by decide +kernel)) ggX9_setBankLimit_X9_bankAt
set_option maxRecDepth 20000 in
theorem ggX9_setBankLimit_X9_requireWithin : GoodIn wsX9_setBankLimit wsX9_requireWithin := goodIn_ca (goodIn_r _ [38, 8, 9] (by decide +kernel) (by decide +kernel)) (goodIn_sub (fun _ h => List.mem_cons_of_mem _ (List.mem_append_right _ h)) (by decide +kernel))
set_option maxRecDepth 20000 in
theorem gX9_setBankLimit_X9_requireWithin : GoodIn wsX9_setBankLimit (va_wsS RX9 20 yX9_requireWithin wsX9_requireWithin) := goodIn_app (goodIn_of _ (by decide +kernel)) ggX9_setBankLimit_X9_requireWithin
theorem dX9_setBankLimit_0 : decode cX9_setBankLimit 0 = .ok (.aload_n 0, 1) := by decide +kernel
theorem dX9_setBankLimit_1 : decode cX9_setBankLimit 1 = .ok (.iload_n 1, 1) := by decide +kernel
theorem dX9_setBankLimit_2 : decode cX9_setBankLimit 2 = .ok (.invokevirtual 16, 3) := by decide +kernel
theorem dX9_setBankLimit_5 : decode cX9_setBankLimit 5 = .ok (.astore_n 3, 1) := by decide +kernel
theorem dX9_setBankLimit_6 : decode cX9_setBankLimit 6 = .ok (.iload_n 2, 1) := by decide +kernel
theorem dX9_setBankLimit_7 : decode cX9_setBankLimit 7 = .ok (.iconst (-1), 1) := by decide +kernel
theorem dX9_setBankLimit_8 : decode cX9_setBankLimit 8 = .ok (.ldc 85, 2) := by decide +kernel
theorem dX9_setBankLimit_10 : decode cX9_setBankLimit 10 = .ok (.invokestatic 20, 3) := by decide +kernel
theorem dX9_setBankLimit_13 : decode cX9_setBankLimit 13 = .ok (.aload_n 3, 1) := by decide +kernel
theorem dX9_setBankLimit_14 : decode cX9_setBankLimit 14 = .ok (.getfield 86, 3) := by decide +kernel
theorem dX9_setBankLimit_17 : decode cX9_setBankLimit 17 = .ok (.istore 4, 2) := by decide +kernel
theorem dX9_setBankLimit_19 : decode cX9_setBankLimit 19 = .ok (.aload_n 3, 1) := by decide +kernel
theorem dX9_setBankLimit_20 : decode cX9_setBankLimit 20 = .ok (.iload_n 2, 1) := by decide +kernel
theorem dX9_setBankLimit_21 : decode cX9_setBankLimit 21 = .ok (.putfield 86, 3) := by decide +kernel
theorem dX9_setBankLimit_24 : decode cX9_setBankLimit 24 = .ok (.iload 4, 2) := by decide +kernel
theorem dX9_setBankLimit_26 : decode cX9_setBankLimit 26 = .ok (.ireturn, 1) := by decide +kernel
theorem dX9_today_0 : decode cX9_today 0 = .ok (.aload_n 0, 1) := by decide +kernel
theorem dX9_today_1 : decode cX9_today 1 = .ok (.getfield 10, 3) := by decide +kernel
theorem dX9_today_4 : decode cX9_today 4 = .ok (.getfield 91, 3) := by decide +kernel
theorem dX9_today_7 : decode cX9_today 7 = .ok (.ireturn, 1) := by decide +kernel
set_option maxRecDepth 20000 in
theorem ggX9_addHoliday_X9_requireWithin : GoodIn wsX9_addHoliday wsX9_requireWithin := goodIn_ca (goodIn_r _ [6, 7, 8] (by decide +kernel) (by decide +kernel)) (goodIn_sub (fun _ h => List.mem_cons_of_mem _ (List.mem_append_right _ h)) (by decide +kernel))
set_option maxRecDepth 20000 in
theorem gX9_addHoliday_X9_requireWithin : GoodIn wsX9_addHoliday (va_wsS RX9 20 yX9_requireWithin wsX9_requireWithin) := goodIn_app (goodIn_of _ (by decide +kernel)) ggX9_addHoliday_X9_requireWithin
set_option maxRecDepth 20000 in
theorem ggX9_addHoliday_X2_markHoliday : GoodIn wsX9_addHoliday wsX2_markHoliday := goodIn_r _ [13, 14, 32] (by decide +kernel) (by decide +kernel)
set_option maxRecDepth 20000 in
theorem gX9_addHoliday_X2_markHoliday : GoodIn wsX9_addHoliday (wsV RX9 98 RX2 yX2_markHoliday wsX2_markHoliday) := goodIn_app (goodIn_of _ (by decide +kernel)) ggX9_addHoliday_X2_markHoliday
set_option maxRecDepth 20000 in
theorem ggX9_addHoliday_X2_countSettling : GoodIn wsX9_addHoliday wsX2_countSettling := goodIn_r _ [18, 19, 20, 21, 12, 22, 14, 32] (by decide +kernel) (by decide +kernel)
set_option maxRecDepth 20000 in
theorem gX9_addHoliday_X2_countSettling : GoodIn wsX9_addHoliday (wsV RX9 104 RX2 yX2_countSettling wsX2_countSettling) := goodIn_app (goodIn_of _ (by decide +kernel)) ggX9_addHoliday_X2_countSettling
theorem dX9_addHoliday_0 : decode cX9_addHoliday 0 = .ok (.iload_n 1, 1) := by decide +kernel
theorem dX9_addHoliday_1 : decode cX9_addHoliday 1 = .ok (.iconst 0, 1) := by decide +kernel
theorem dX9_addHoliday_2 : decode cX9_addHoliday 2 = .ok (.sipush 450, 3) := by decide +kernel
theorem dX9_addHoliday_5 : decode cX9_addHoliday 5 = .ok (.invokestatic 20, 3) := by decide +kernel
theorem dX9_addHoliday_8 : decode cX9_addHoliday 8 = .ok (.aload_n 0, 1) := by decide +kernel
theorem dX9_addHoliday_9 : decode cX9_addHoliday 9 = .ok (.getfield 10, 3) := by decide +kernel
theorem dX9_addHoliday_12 : decode cX9_addHoliday 12 = .ok (.getfield 94, 3) := by decide +kernel
theorem dX9_addHoliday_15 : decode cX9_addHoliday 15 = .ok (.iload_n 1, 1) := by decide +kernel
theorem dX9_addHoliday_16 : decode cX9_addHoliday 16 = .ok (.invokevirtual 98, 3) := by decide +kernel
theorem dX9_addHoliday_19 : decode cX9_addHoliday 19 = .ok (.aload_n 0, 1) := by decide +kernel
theorem dX9_addHoliday_20 : decode cX9_addHoliday 20 = .ok (.getfield 10, 3) := by decide +kernel
theorem dX9_addHoliday_23 : decode cX9_addHoliday 23 = .ok (.getfield 94, 3) := by decide +kernel
theorem dX9_addHoliday_26 : decode cX9_addHoliday 26 = .ok (.invokevirtual 104, 3) := by decide +kernel
theorem dX9_addHoliday_29 : decode cX9_addHoliday 29 = .ok (.ireturn, 1) := by decide +kernel
set_option maxRecDepth 20000 in
theorem ggX9_settlementDay_X9_requireWithin : GoodIn wsX9_settlementDay wsX9_requireWithin := goodIn_ca (goodIn_r _ [6, 7, 8] (by decide +kernel) (by decide +kernel)) (goodIn_sub (fun _ h => List.mem_cons_of_mem _ (List.mem_append_right _ h)) (by decide +kernel))
set_option maxRecDepth 20000 in
theorem gX9_settlementDay_X9_requireWithin : GoodIn wsX9_settlementDay (va_wsS RX9 20 yX9_requireWithin wsX9_requireWithin) := goodIn_app (goodIn_of _ (by decide +kernel)) ggX9_settlementDay_X9_requireWithin
set_option maxRecDepth 20000 in
theorem ggX9_settlementDay_X2_firstSettlingFrom : GoodIn wsX9_settlementDay wsX2_firstSettlingFrom := goodIn_r _ [13, 14, 15, 16, 12, 17, 18, 28] (by decide +kernel) (by decide +kernel)
set_option maxRecDepth 20000 in
theorem gX9_settlementDay_X2_firstSettlingFrom : GoodIn wsX9_settlementDay (wsV RX9 107 RX2 yX2_firstSettlingFrom wsX2_firstSettlingFrom) := goodIn_app (goodIn_of _ (by decide +kernel)) ggX9_settlementDay_X2_firstSettlingFrom
theorem dX9_settlementDay_0 : decode cX9_settlementDay 0 = .ok (.iload_n 1, 1) := by decide +kernel
theorem dX9_settlementDay_1 : decode cX9_settlementDay 1 = .ok (.iconst 0, 1) := by decide +kernel
theorem dX9_settlementDay_2 : decode cX9_settlementDay 2 = .ok (.sipush 450, 3) := by decide +kernel
theorem dX9_settlementDay_5 : decode cX9_settlementDay 5 = .ok (.invokestatic 20, 3) := by decide +kernel
theorem dX9_settlementDay_8 : decode cX9_settlementDay 8 = .ok (.aload_n 0, 1) := by decide +kernel
theorem dX9_settlementDay_9 : decode cX9_settlementDay 9 = .ok (.getfield 10, 3) := by decide +kernel
theorem dX9_settlementDay_12 : decode cX9_settlementDay 12 = .ok (.getfield 94, 3) := by decide +kernel
theorem dX9_settlementDay_15 : decode cX9_settlementDay 15 = .ok (.iload_n 1, 1) := by decide +kernel
theorem dX9_settlementDay_16 : decode cX9_settlementDay 16 = .ok (.invokevirtual 107, 3) := by decide +kernel
theorem dX9_settlementDay_19 : decode cX9_settlementDay 19 = .ok (.ireturn, 1) := by decide +kernel
set_option maxRecDepth 20000 in
theorem ggX9_passDays_X9_requireWithin : GoodIn wsX9_passDays wsX9_requireWithin := goodIn_ca (goodIn_r _ [8, 9, 10] (by decide +kernel) (by decide +kernel)) (goodIn_sub (fun _ h => List.mem_cons_of_mem _ (List.mem_append_right _ h)) (by decide +kernel))
set_option maxRecDepth 20000 in
theorem gX9_passDays_X9_requireWithin : GoodIn wsX9_passDays (va_wsS RX9 20 yX9_requireWithin wsX9_requireWithin) := goodIn_app (goodIn_of _ (by decide +kernel)) ggX9_passDays_X9_requireWithin
set_option maxRecDepth 20000 in
theorem ggX9_passDays_X3_passDay : GoodIn wsX9_passDays wsX3_passDay := goodIn_r _ [15, 16, 17, 18, 19, 20, 21, 22, 23, 24, 25, 26, 14, 27, 28, 29, 30, 31, 32, 33, 34, 35, 36, 37, 38, 39, 40, 41, 42, 43, 44, 45, 46, 47, 48, 49, 50, 51, 52, 53, 54, 55, 56, 57, 58, 59, 60, 61, 62, 63, 64, 65, 66, 67, 68, 69, 70, 71, 72, 73, 74, 75, 76, 77, 78, 79, 80, 81, 82, 83, 84, 85, 86, 87, 88, 89, 90, 91, 92, 93, 94, 95, 96, 97, 98, 99, 100, 101, 102, 103, 104, 105, 106, 107, 108, 109, 110, 111, 112, 113, 114, 115, 116, 117, 118, 119, 120, 121, 122, 123, 124, 125, 126, 127, 128, 129, 130, 131, 132, 133, 134, 135, 136, 137, 138, 139, 140, 141, 142, 143, 144, 145, 146, 147, 148, 149, 150, 151, 152, 153, 154, 155, 156, 157, 158, 159, 160, 161, 162, 163, 164, 165, 166, 167, 168, 169, 170, 171, 172, 173, 174, 175, 176, 177, 178, 179, 180, 181, 182, 183, 184, 185, 186, 187, 188, 189, 190, 191, 192, 193, 194, 195, 196, 197, 198, 199, 200, 201, 202, 203, 204, 205, 206, 207, 208, 209, 210, 211, 212, 213, 214, 215, 216, 217, 218, 219, 220, 221, 222, 223, 224, 225, 226, 227, 228, 229, 230, 231, 232, 233, 234, 235, 236, 237, 238, 239, 240, 241, 242, 243, 244, 245, 246, 247, 248, 250, 251, 252, 253, 254, 255, 256, 257, 258, 259, 260, 261, 262, 263, 264, 265, 266, 267, 268, 269, 270, 271, 272, 273, 274, 275, 276, 277, 278, 279, 280, 281, 282, 283, 284, 285, 286, 287, 288, 289, 290, 291, 292, 293, 294, 295, 296, 297, 298, 299, 300, 301, 302, 303, 304, 305, 306, 307] (by decide +kernel) (by decide +kernel)
set_option maxRecDepth 20000 in
theorem gX9_passDays_X3_passDay : GoodIn wsX9_passDays (wsV RX9 113 RX3 yX3_passDay wsX3_passDay) := goodIn_app (goodIn_of _ (by decide +kernel)) ggX9_passDays_X3_passDay
