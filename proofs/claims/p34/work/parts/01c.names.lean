theorem dX0_pairs_31 : decode cX0_pairs 31 = .ok (.ireturn, 1) := by decide +kernel
set_option maxRecDepth 20000 in
theorem ggX1_init_X0_init : GoodIn wsX1_init wsX0_init := goodIn_r _ [11, 12, 2, 3, 13, 14, 15, 16, 17, 18, 19, 20, 21, 22, 26, 27, 28, 29, 30, 31, 32, 33, 34] (by decide +kernel) (by decide +kernel)
set_option maxRecDepth 20000 in
theorem gX1_init_X0_init_n24 : GoodIn wsX1_init (wsX0_init) := ggX1_init_X0_init
theorem dX1_init_0 : decode cX1_init 0 = .ok (.aload_n 0, 1) := by decide +kernel
theorem dX1_init_1 : decode cX1_init 1 = .ok (.invokespecial 3, 3) := by decide +kernel
theorem dX1_init_4 : decode cX1_init 4 = .ok (.aload_n 0, 1) := by decide +kernel
theorem dX1_init_5 : decode cX1_init 5 = .ok (.bipush 13, 2) := by decide +kernel
theorem dX1_init_7 : decode cX1_init 7 = .ok (.anewarray 9, 3) := by decide +kernel
theorem dX1_init_10 : decode cX1_init 10 = .ok (.putfield 11, 3) := by decide +kernel
theorem dX1_init_13 : decode cX1_init 13 = .ok (.aload_n 0, 1) := by decide +kernel
theorem dX1_init_14 : decode cX1_init 14 = .ok (.iconst 0, 1) := by decide +kernel
theorem dX1_init_15 : decode cX1_init 15 = .ok (.putfield 17, 3) := by decide +kernel
theorem dX1_init_18 : decode cX1_init 18 = .ok (.aload_n 0, 1) := by decide +kernel
theorem dX1_init_19 : decode cX1_init 19 = .ok (.iconst 0, 1) := by decide +kernel
theorem dX1_init_20 : decode cX1_init 20 = .ok (.putfield 21, 3) := by decide +kernel
theorem dX1_init_23 : decode cX1_init 23 = .ok (.iconst 0, 1) := by decide +kernel
theorem dX1_init_24 : decode cX1_init 24 = .ok (.istore_n 1, 1) := by decide +kernel
theorem dX1_init_25 : decode cX1_init 25 = .ok (.iload_n 1, 1) := by decide +kernel
theorem dX1_init_26 : decode cX1_init 26 = .ok (.bipush 12, 2) := by decide +kernel
theorem dX1_init_28 : decode cX1_init 28 = .ok (.if_icmp .gt 22, 3) := by decide +kernel
theorem dX1_init_31 : decode cX1_init 31 = .ok (.aload_n 0, 1) := by decide +kernel
theorem dX1_init_32 : decode cX1_init 32 = .ok (.getfield 11, 3) := by decide +kernel
theorem dX1_init_35 : decode cX1_init 35 = .ok (.iload_n 1, 1) := by decide +kernel
theorem dX1_init_36 : decode cX1_init 36 = .ok (.new 9, 3) := by decide +kernel
theorem dX1_init_39 : decode cX1_init 39 = .ok (.dup, 1) := by decide +kernel
theorem dX1_init_40 : decode cX1_init 40 = .ok (.invokespecial 24, 3) := by decide +kernel
theorem dX1_init_43 : decode cX1_init 43 = .ok (.aastore, 1) := by decide +kernel
theorem dX1_init_44 : decode cX1_init 44 = .ok (.iinc 1 1, 3) := by decide +kernel
theorem dX1_init_47 : decode cX1_init 47 = .ok (.goto (-22), 3) := by decide +kernel
theorem dX1_init_50 : decode cX1_init 50 = .ok (.return_, 1) := by decide +kernel
set_option maxRecDepth 20000 in
theorem ggX1_keep_X1_dropOldest : GoodIn wsX1_keep wsX1_dropOldest := goodIn_r _ [8, 3, 27, 28, 29] (by decide +kernel) (by decide +kernel)
set_option maxRecDepth 20000 in
theorem gX1_keep_X1_dropOldest : GoodIn wsX1_keep (wsV RX1 29 RX1 yX1_dropOldest wsX1_dropOldest) := goodIn_app (goodIn_of _ (by decide +kernel)) ggX1_keep_X1_dropOldest
set_option maxRecDepth 20000 in
theorem ggX1_keep_X0_copyFrom : GoodIn wsX1_keep wsX0_copyFrom := goodIn_r _ [13, 14, 15, 16, 17, 18, 19, 20, 21, 22, 23, 24, 25, 26, 30, 31, 32, 33, 34, 35, 36, 37, 38] (by decide +kernel) (by decide +kernel)
set_option maxRecDepth 20000 in
theorem gX1_keep_X0_copyFrom : GoodIn wsX1_keep (wsV RX1 25 RX0 yX0_copyFrom wsX0_copyFrom) := goodIn_app (goodIn_of _ (by decide +kernel)) ggX1_keep_X0_copyFrom
theorem dX1_keep_0 : decode cX1_keep 0 = .ok (.aload_n 0, 1) := by decide +kernel
theorem dX1_keep_1 : decode cX1_keep 1 = .ok (.getfield 17, 3) := by decide +kernel
theorem dX1_keep_4 : decode cX1_keep 4 = .ok (.bipush 12, 2) := by decide +kernel
theorem dX1_keep_6 : decode cX1_keep 6 = .ok (.if_icmp .ge 16, 3) := by decide +kernel
theorem dX1_keep_9 : decode cX1_keep 9 = .ok (.aload_n 0, 1) := by decide +kernel
theorem dX1_keep_10 : decode cX1_keep 10 = .ok (.dup, 1) := by decide +kernel
theorem dX1_keep_11 : decode cX1_keep 11 = .ok (.getfield 17, 3) := by decide +kernel
theorem dX1_keep_14 : decode cX1_keep 14 = .ok (.iconst 1, 1) := by decide +kernel
theorem dX1_keep_15 : decode cX1_keep 15 = .ok (.iadd, 1) := by decide +kernel
theorem dX1_keep_16 : decode cX1_keep 16 = .ok (.putfield 17, 3) := by decide +kernel
theorem dX1_keep_19 : decode cX1_keep 19 = .ok (.goto 7, 3) := by decide +kernel
theorem dX1_keep_22 : decode cX1_keep 22 = .ok (.aload_n 0, 1) := by decide +kernel
theorem dX1_keep_23 : decode cX1_keep 23 = .ok (.invokevirtual 29, 3) := by decide +kernel
theorem dX1_keep_26 : decode cX1_keep 26 = .ok (.aload_n 0, 1) := by decide +kernel
theorem dX1_keep_27 : decode cX1_keep 27 = .ok (.iconst 0, 1) := by decide +kernel
theorem dX1_keep_28 : decode cX1_keep 28 = .ok (.putfield 21, 3) := by decide +kernel
theorem dX1_keep_31 : decode cX1_keep 31 = .ok (.aload_n 0, 1) := by decide +kernel
theorem dX1_keep_32 : decode cX1_keep 32 = .ok (.getfield 11, 3) := by decide +kernel
theorem dX1_keep_35 : decode cX1_keep 35 = .ok (.aload_n 0, 1) := by decide +kernel
theorem dX1_keep_36 : decode cX1_keep 36 = .ok (.getfield 17, 3) := by decide +kernel
theorem dX1_keep_39 : decode cX1_keep 39 = .ok (.aaload, 1) := by decide +kernel
theorem dX1_keep_40 : decode cX1_keep 40 = .ok (.aload_n 1, 1) := by decide +kernel
theorem dX1_keep_41 : decode cX1_keep 41 = .ok (.invokevirtual 25, 3) := by decide +kernel
theorem dX1_keep_44 : decode cX1_keep 44 = .ok (.return_, 1) := by decide +kernel
theorem dX1_dropOldest_0 : decode cX1_dropOldest 0 = .ok (.aload_n 0, 1) := by decide +kernel
theorem dX1_dropOldest_1 : decode cX1_dropOldest 1 = .ok (.getfield 11, 3) := by decide +kernel
theorem dX1_dropOldest_4 : decode cX1_dropOldest 4 = .ok (.iconst 0, 1) := by decide +kernel
theorem dX1_dropOldest_5 : decode cX1_dropOldest 5 = .ok (.aaload, 1) := by decide +kernel
theorem dX1_dropOldest_6 : decode cX1_dropOldest 6 = .ok (.astore_n 1, 1) := by decide +kernel
theorem dX1_dropOldest_7 : decode cX1_dropOldest 7 = .ok (.iconst 0, 1) := by decide +kernel
theorem dX1_dropOldest_8 : decode cX1_dropOldest 8 = .ok (.istore_n 2, 1) := by decide +kernel
theorem dX1_dropOldest_9 : decode cX1_dropOldest 9 = .ok (.iload_n 2, 1) := by decide +kernel
theorem dX1_dropOldest_10 : decode cX1_dropOldest 10 = .ok (.bipush 12, 2) := by decide +kernel
theorem dX1_dropOldest_12 : decode cX1_dropOldest 12 = .ok (.if_icmp .ge 23, 3) := by decide +kernel
theorem dX1_dropOldest_15 : decode cX1_dropOldest 15 = .ok (.aload_n 0, 1) := by decide +kernel
theorem dX1_dropOldest_16 : decode cX1_dropOldest 16 = .ok (.getfield 11, 3) := by decide +kernel
theorem dX1_dropOldest_19 : decode cX1_dropOldest 19 = .ok (.iload_n 2, 1) := by decide +kernel
theorem dX1_dropOldest_20 : decode cX1_dropOldest 20 = .ok (.aload_n 0, 1) := by decide +kernel
theorem dX1_dropOldest_21 : decode cX1_dropOldest 21 = .ok (.getfield 11, 3) := by decide +kernel
theorem dX1_dropOldest_24 : decode cX1_dropOldest 24 = .ok (.iload_n 2, 1) := by decide +kernel
theorem dX1_dropOldest_25 : decode cX1_dropOldest 25 = .ok (.iconst 1, 1) := by decide +kernel
theorem dX1_dropOldest_26 : decode cX1_dropOldest 26 = .ok (.iadd, 1) := by decide +kernel
theorem dX1_dropOldest_27 : decode cX1_dropOldest 27 = .ok (.aaload, 1) := by decide +kernel
theorem dX1_dropOldest_28 : decode cX1_dropOldest 28 = .ok (.aastore, 1) := by decide +kernel
theorem dX1_dropOldest_29 : decode cX1_dropOldest 29 = .ok (.iinc 2 1, 3) := by decide +kernel
theorem dX1_dropOldest_32 : decode cX1_dropOldest 32 = .ok (.goto (-23), 3) := by decide +kernel
theorem dX1_dropOldest_35 : decode cX1_dropOldest 35 = .ok (.aload_n 0, 1) := by decide +kernel
theorem dX1_dropOldest_36 : decode cX1_dropOldest 36 = .ok (.getfield 11, 3) := by decide +kernel
theorem dX1_dropOldest_39 : decode cX1_dropOldest 39 = .ok (.bipush 12, 2) := by decide +kernel
theorem dX1_dropOldest_41 : decode cX1_dropOldest 41 = .ok (.aload_n 1, 1) := by decide +kernel
theorem dX1_dropOldest_42 : decode cX1_dropOldest 42 = .ok (.aastore, 1) := by decide +kernel
theorem dX1_dropOldest_43 : decode cX1_dropOldest 43 = .ok (.return_, 1) := by decide +kernel
theorem dX2_init_0 : decode cX2_init 0 = .ok (.aload_n 0, 1) := by decide +kernel
theorem dX2_init_1 : decode cX2_init 1 = .ok (.invokespecial 3, 3) := by decide +kernel
theorem dX2_init_4 : decode cX2_init 4 = .ok (.aload_n 0, 1) := by decide +kernel
theorem dX2_init_5 : decode cX2_init 5 = .ok (.sipush 2000, 3) := by decide +kernel
theorem dX2_init_8 : decode cX2_init 8 = .ok (.newarray .int, 2) := by decide +kernel
theorem dX2_init_10 : decode cX2_init 10 = .ok (.putfield 9, 3) := by decide +kernel
theorem dX2_init_13 : decode cX2_init 13 = .ok (.aload_n 0, 1) := by decide +kernel
theorem dX2_init_14 : decode cX2_init 14 = .ok (.iconst 0, 1) := by decide +kernel
theorem dX2_init_15 : decode cX2_init 15 = .ok (.putfield 15, 3) := by decide +kernel
theorem dX2_init_18 : decode cX2_init 18 = .ok (.return_, 1) := by decide +kernel
set_option maxRecDepth 20000 in
theorem ggX3_init_X6_init : GoodIn wsX3_init wsX6_init := goodIn_r _ [13, 14, 2, 3, 8, 15, 16, 17, 18, 19, 20, 21, 22, 23, 24, 25, 26, 27, 28, 29, 30, 31, 32, 33, 34, 35, 36, 37, 38] (by decide +kernel) (by decide +kernel)
set_option maxRecDepth 20000 in
theorem gX3_init_X6_init_n11 : GoodIn wsX3_init (wsX6_init) := ggX3_init_X6_init
theorem dX3_init_0 : decode cX3_init 0 = .ok (.aload_n 0, 1) := by decide +kernel
theorem dX3_init_1 : decode cX3_init 1 = .ok (.invokespecial 3, 3) := by decide +kernel
theorem dX3_init_4 : decode cX3_init 4 = .ok (.aload_n 0, 1) := by decide +kernel
theorem dX3_init_5 : decode cX3_init 5 = .ok (.new 9, 3) := by decide +kernel
theorem dX3_init_8 : decode cX3_init 8 = .ok (.dup, 1) := by decide +kernel
theorem dX3_init_9 : decode cX3_init 9 = .ok (.invokespecial 11, 3) := by decide +kernel
theorem dX3_init_12 : decode cX3_init 12 = .ok (.putfield 12, 3) := by decide +kernel
theorem dX3_init_15 : decode cX3_init 15 = .ok (.aload_n 0, 1) := by decide +kernel
theorem dX3_init_16 : decode cX3_init 16 = .ok (.iconst 4, 1) := by decide +kernel
theorem dX3_init_17 : decode cX3_init 17 = .ok (.newarray .int, 2) := by decide +kernel
theorem dX3_init_19 : decode cX3_init 19 = .ok (.putfield 18, 3) := by decide +kernel
theorem dX3_init_22 : decode cX3_init 22 = .ok (.aload_n 0, 1) := by decide +kernel
theorem dX3_init_23 : decode cX3_init 23 = .ok (.bipush 80, 2) := by decide +kernel
theorem dX3_init_25 : decode cX3_init 25 = .ok (.newarray .int, 2) := by decide +kernel
theorem dX3_init_27 : decode cX3_init 27 = .ok (.putfield 22, 3) := by decide +kernel
theorem dX3_init_30 : decode cX3_init 30 = .ok (.aload_n 0, 1) := by decide +kernel
theorem dX3_init_31 : decode cX3_init 31 = .ok (.iconst 0, 1) := by decide +kernel
theorem dX3_init_32 : decode cX3_init 32 = .ok (.putfield 25, 3) := by decide +kernel
theorem dX3_init_35 : decode cX3_init 35 = .ok (.return_, 1) := by decide +kernel
set_option maxRecDepth 20000 in
theorem ggX4_init_X6_init : GoodIn wsX4_init wsX6_init := goodIn_r _ [12, 13, 2, 3, 8, 14, 15, 16, 17, 18, 19, 20, 21, 22, 23, 24, 25, 26, 27, 28, 29, 30, 31, 32, 33, 34, 35, 36, 37] (by decide +kernel) (by decide +kernel)
set_option maxRecDepth 20000 in
theorem gX4_init_X6_init_n11 : GoodIn wsX4_init (wsX6_init) := ggX4_init_X6_init
theorem dX4_init_0 : decode cX4_init 0 = .ok (.aload_n 0, 1) := by decide +kernel
theorem dX4_init_1 : decode cX4_init 1 = .ok (.invokespecial 3, 3) := by decide +kernel
theorem dX4_init_4 : decode cX4_init 4 = .ok (.aload_n 0, 1) := by decide +kernel
theorem dX4_init_5 : decode cX4_init 5 = .ok (.new 9, 3) := by decide +kernel
theorem dX4_init_8 : decode cX4_init 8 = .ok (.dup, 1) := by decide +kernel
theorem dX4_init_9 : decode cX4_init 9 = .ok (.invokespecial 11, 3) := by decide +kernel
theorem dX4_init_12 : decode cX4_init 12 = .ok (.putfield 12, 3) := by decide +kernel
theorem dX4_init_15 : decode cX4_init 15 = .ok (.aload_n 0, 1) := by decide +kernel
theorem dX4_init_16 : decode cX4_init 16 = .ok (.bipush 80, 2) := by decide +kernel
theorem dX4_init_18 : decode cX4_init 18 = .ok (.newarray .int, 2) := by decide +kernel
theorem dX4_init_20 : decode cX4_init 20 = .ok (.putfield 18, 3) := by decide +kernel
theorem dX4_init_23 : decode cX4_init 23 = .ok (.aload_n 0, 1) := by decide +kernel
theorem dX4_init_24 : decode cX4_init 24 = .ok (.iconst 0, 1) := by decide +kernel
theorem dX4_init_25 : decode cX4_init 25 = .ok (.putfield 22, 3) := by decide +kernel
theorem dX4_init_28 : decode cX4_init 28 = .ok (.return_, 1) := by decide +kernel
set_option maxRecDepth 20000 in
theorem ggX4_come_J7_fill_53178 : GoodIn wsX4_come wsJ7_fill_53178 := goodIn_r _ [7] (by decide +kernel) (by decide +kernel)
set_option maxRecDepth 20000 in
theorem gX4_come_J7_fill_53178 : GoodIn wsX4_come (va_wsS RX4 26 yJ7_fill_53178 wsJ7_fill_53178) := goodIn_app (goodIn_of _ (by decide +kernel)) ggX4_come_J7_fill_53178
set_option maxRecDepth 20000 in
theorem ggX4_come_X6_enter : GoodIn wsX4_come wsX6_enter := goodIn_r _ [12, 13, 14, 15, 16, 17, 18, 19, 20, 21, 22, 23, 24, 5, 6, 7, 25, 26, 27, 28, 29, 30, 31, 32, 33, 34, 35, 36, 37, 38, 39, 40, 41, 42, 11, 43, 111, 112, 113, 114, 115, 116, 117, 118, 119, 120, 121, 122, 123, 124, 125, 126, 127, 128, 129, 130, 131] (by decide +kernel) (by decide +kernel)
set_option maxRecDepth 20000 in
theorem gX4_come_X6_enter : GoodIn wsX4_come (wsV RX4 32 RX6 yX6_enter wsX6_enter) := goodIn_app (goodIn_of _ (by decide +kernel)) ggX4_come_X6_enter
set_option maxRecDepth 20000 in
theorem ggX4_come_X6_weigh : GoodIn wsX4_come wsX6_weigh := goodIn_r _ [47, 48, 49, 50, 51, 20, 52, 53, 54, 55, 56, 11, 57, 13, 111, 112, 113, 114, 115, 116, 117, 118, 119, 120, 121, 122, 123, 124, 125, 126, 127, 128, 129, 130, 131] (by decide +kernel) (by decide +kernel)
set_option maxRecDepth 20000 in
theorem gX4_come_X6_weigh : GoodIn wsX4_come (wsV RX4 36 RX6 yX6_weigh wsX6_weigh) := goodIn_app (goodIn_of _ (by decide +kernel)) ggX4_come_X6_weigh
set_option maxRecDepth 20000 in
theorem ggX4_come_X6_brings : GoodIn wsX4_come wsX6_brings := goodIn_r _ [61, 62, 13, 63, 64, 65, 11, 66, 19, 14, 50, 67, 68, 69, 70, 51, 37, 38, 39, 71, 72, 73, 74, 75, 76, 77, 78, 15, 48, 79, 80, 81, 82, 83, 84, 16, 49, 85, 86, 87, 88, 17, 89, 90, 91, 92, 93, 94, 95, 96, 97, 98, 99, 100, 111, 112, 113, 114, 115, 116, 117, 118, 119, 120, 121, 122] (by decide +kernel) (by decide +kernel)
set_option maxRecDepth 20000 in
theorem gX4_come_X6_brings : GoodIn wsX4_come (wsV RX4 39 RX6 yX6_brings wsX6_brings) := goodIn_app (goodIn_of _ (by decide +kernel)) ggX4_come_X6_brings
set_option maxRecDepth 20000 in
theorem ggX4_come_X4_note : GoodIn wsX4_come wsX4_note := goodIn_r _ [105, 3, 106, 107, 1, 2, 37, 38, 39, 108, 109, 110, 111, 112, 113, 114, 115, 116, 117, 118, 119, 120, 121, 122] (by decide +kernel) (by decide +kernel)
set_option maxRecDepth 20000 in
theorem gX4_come_X4_note : GoodIn wsX4_come (wsV RX4 43 RX4 yX4_note wsX4_note) := goodIn_app (goodIn_of _ (by decide +kernel)) ggX4_come_X4_note
theorem dX4_come_0 : decode cX4_come 0 = .ok (.aload_n 0, 1) := by decide +kernel
theorem dX4_come_1 : decode cX4_come 1 = .ok (.getfield 18, 3) := by decide +kernel
theorem dX4_come_4 : decode cX4_come 4 = .ok (.iconst 0, 1) := by decide +kernel
theorem dX4_come_5 : decode cX4_come 5 = .ok (.invokestatic 26, 3) := by decide +kernel
theorem dX4_come_8 : decode cX4_come 8 = .ok (.aload_n 0, 1) := by decide +kernel
theorem dX4_come_9 : decode cX4_come 9 = .ok (.iconst 0, 1) := by decide +kernel
theorem dX4_come_10 : decode cX4_come 10 = .ok (.putfield 22, 3) := by decide +kernel
theorem dX4_come_13 : decode cX4_come 13 = .ok (.aload_n 0, 1) := by decide +kernel
theorem dX4_come_14 : decode cX4_come 14 = .ok (.getfield 12, 3) := by decide +kernel
theorem dX4_come_17 : decode cX4_come 17 = .ok (.aload_n 1, 1) := by decide +kernel
theorem dX4_come_18 : decode cX4_come 18 = .ok (.invokevirtual 32, 3) := by decide +kernel
theorem dX4_come_21 : decode cX4_come 21 = .ok (.aload_n 0, 1) := by decide +kernel
theorem dX4_come_22 : decode cX4_come 22 = .ok (.getfield 12, 3) := by decide +kernel
theorem dX4_come_25 : decode cX4_come 25 = .ok (.aload_n 1, 1) := by decide +kernel
theorem dX4_come_26 : decode cX4_come 26 = .ok (.invokevirtual 36, 3) := by decide +kernel
theorem dX4_come_29 : decode cX4_come 29 = .ok (.iconst 1, 1) := by decide +kernel
theorem dX4_come_30 : decode cX4_come 30 = .ok (.istore_n 2, 1) := by decide +kernel
theorem dX4_come_31 : decode cX4_come 31 = .ok (.iload_n 2, 1) := by decide +kernel
theorem dX4_come_32 : decode cX4_come 32 = .ok (.bipush 80, 2) := by decide +kernel
theorem dX4_come_34 : decode cX4_come 34 = .ok (.if_icmp .gt 36, 3) := by decide +kernel
theorem dX4_come_37 : decode cX4_come 37 = .ok (.aload_n 0, 1) := by decide +kernel
theorem dX4_come_38 : decode cX4_come 38 = .ok (.getfield 12, 3) := by decide +kernel
theorem dX4_come_41 : decode cX4_come 41 = .ok (.invokevirtual 39, 3) := by decide +kernel
theorem dX4_come_44 : decode cX4_come 44 = .ok (.ifCond .eq 26, 3) := by decide +kernel
theorem dX4_come_47 : decode cX4_come 47 = .ok (.aload_n 0, 1) := by decide +kernel
theorem dX4_come_48 : decode cX4_come 48 = .ok (.iload_n 2, 1) := by decide +kernel
theorem dX4_come_49 : decode cX4_come 49 = .ok (.putfield 22, 3) := by decide +kernel
theorem dX4_come_52 : decode cX4_come 52 = .ok (.aload_n 0, 1) := by decide +kernel
theorem dX4_come_53 : decode cX4_come 53 = .ok (.invokevirtual 43, 3) := by decide +kernel
theorem dX4_come_56 : decode cX4_come 56 = .ok (.aload_n 0, 1) := by decide +kernel
theorem dX4_come_57 : decode cX4_come 57 = .ok (.getfield 12, 3) := by decide +kernel
theorem dX4_come_60 : decode cX4_come 60 = .ok (.aload_n 1, 1) := by decide +kernel
theorem dX4_come_61 : decode cX4_come 61 = .ok (.invokevirtual 36, 3) := by decide +kernel
theorem dX4_come_64 : decode cX4_come 64 = .ok (.iinc 2 1, 3) := by decide +kernel
theorem dX4_come_67 : decode cX4_come 67 = .ok (.goto (-36), 3) := by decide +kernel
theorem dX4_come_70 : decode cX4_come 70 = .ok (.return_, 1) := by decide +kernel
set_option maxRecDepth 20000 in
theorem ggX4_note_X8_has : GoodIn wsX4_note wsX8_has := goodIn_r _ [8] (by decide +kernel) (by decide +kernel)
set_option maxRecDepth 20000 in
theorem gX4_note_X8_has_n52 : GoodIn wsX4_note (wsX8_has) := ggX4_note_X8_has
theorem dX4_note_0 : decode cX4_note 0 = .ok (.iconst 0, 1) := by decide +kernel
theorem dX4_note_1 : decode cX4_note 1 = .ok (.istore_n 1, 1) := by decide +kernel
theorem dX4_note_2 : decode cX4_note 2 = .ok (.iload_n 1, 1) := by decide +kernel
theorem dX4_note_3 : decode cX4_note 3 = .ok (.iconst 4, 1) := by decide +kernel
theorem dX4_note_4 : decode cX4_note 4 = .ok (.if_icmp .ge 69, 3) := by decide +kernel
theorem dX4_note_7 : decode cX4_note 7 = .ok (.aload_n 0, 1) := by decide +kernel
theorem dX4_note_8 : decode cX4_note 8 = .ok (.getfield 12, 3) := by decide +kernel
theorem dX4_note_11 : decode cX4_note 11 = .ok (.getfield 46, 3) := by decide +kernel
theorem dX4_note_14 : decode cX4_note 14 = .ok (.iload_n 1, 1) := by decide +kernel
theorem dX4_note_15 : decode cX4_note 15 = .ok (.iaload, 1) := by decide +kernel
theorem dX4_note_16 : decode cX4_note 16 = .ok (.istore_n 2, 1) := by decide +kernel
theorem dX4_note_17 : decode cX4_note 17 = .ok (.aload_n 0, 1) := by decide +kernel
theorem dX4_note_18 : decode cX4_note 18 = .ok (.getfield 12, 3) := by decide +kernel
theorem dX4_note_21 : decode cX4_note 21 = .ok (.getfield 49, 3) := by decide +kernel
theorem dX4_note_24 : decode cX4_note 24 = .ok (.iload_n 1, 1) := by decide +kernel
theorem dX4_note_25 : decode cX4_note 25 = .ok (.dup2, 1) := by decide +kernel
theorem dX4_note_26 : decode cX4_note 26 = .ok (.iaload, 1) := by decide +kernel
theorem dX4_note_27 : decode cX4_note 27 = .ok (.iload_n 2, 1) := by decide +kernel
theorem dX4_note_28 : decode cX4_note 28 = .ok (.ior, 1) := by decide +kernel
theorem dX4_note_29 : decode cX4_note 29 = .ok (.iastore, 1) := by decide +kernel
theorem dX4_note_30 : decode cX4_note 30 = .ok (.iconst 0, 1) := by decide +kernel
theorem dX4_note_31 : decode cX4_note 31 = .ok (.istore_n 3, 1) := by decide +kernel
theorem dX4_note_32 : decode cX4_note 32 = .ok (.iload_n 3, 1) := by decide +kernel
theorem dX4_note_33 : decode cX4_note 33 = .ok (.bipush 20, 2) := by decide +kernel
theorem dX4_note_35 : decode cX4_note 35 = .ok (.if_icmp .ge 32, 3) := by decide +kernel
theorem dX4_note_38 : decode cX4_note 38 = .ok (.iload_n 2, 1) := by decide +kernel
theorem dX4_note_39 : decode cX4_note 39 = .ok (.iload_n 3, 1) := by decide +kernel
theorem dX4_note_40 : decode cX4_note 40 = .ok (.invokestatic 52, 3) := by decide +kernel
theorem dX4_note_43 : decode cX4_note 43 = .ok (.ifCond .eq 18, 3) := by decide +kernel
theorem dX4_note_46 : decode cX4_note 46 = .ok (.aload_n 0, 1) := by decide +kernel
theorem dX4_note_47 : decode cX4_note 47 = .ok (.getfield 18, 3) := by decide +kernel
theorem dX4_note_50 : decode cX4_note 50 = .ok (.iload_n 1, 1) := by decide +kernel
theorem dX4_note_51 : decode cX4_note 51 = .ok (.bipush 20, 2) := by decide +kernel
theorem dX4_note_53 : decode cX4_note 53 = .ok (.imul, 1) := by decide +kernel
theorem dX4_note_54 : decode cX4_note 54 = .ok (.iload_n 3, 1) := by decide +kernel
theorem dX4_note_55 : decode cX4_note 55 = .ok (.iadd, 1) := by decide +kernel
theorem dX4_note_56 : decode cX4_note 56 = .ok (.aload_n 0, 1) := by decide +kernel
theorem dX4_note_57 : decode cX4_note 57 = .ok (.getfield 22, 3) := by decide +kernel
theorem dX4_note_60 : decode cX4_note 60 = .ok (.iastore, 1) := by decide +kernel
theorem dX4_note_61 : decode cX4_note 61 = .ok (.iinc 3 1, 3) := by decide +kernel
theorem dX4_note_64 : decode cX4_note 64 = .ok (.goto (-32), 3) := by decide +kernel
theorem dX4_note_67 : decode cX4_note 67 = .ok (.iinc 1 1, 3) := by decide +kernel
theorem dX4_note_70 : decode cX4_note 70 = .ok (.goto (-68), 3) := by decide +kernel
theorem dX4_note_73 : decode cX4_note 73 = .ok (.return_, 1) := by decide +kernel
theorem dX4_roundOf_0 : decode cX4_roundOf 0 = .ok (.aload_n 0, 1) := by decide +kernel
theorem dX4_roundOf_1 : decode cX4_roundOf 1 = .ok (.getfield 18, 3) := by decide +kernel
theorem dX4_roundOf_4 : decode cX4_roundOf 4 = .ok (.iload_n 1, 1) := by decide +kernel
theorem dX4_roundOf_5 : decode cX4_roundOf 5 = .ok (.bipush 20, 2) := by decide +kernel
theorem dX4_roundOf_7 : decode cX4_roundOf 7 = .ok (.imul, 1) := by decide +kernel
theorem dX4_roundOf_8 : decode cX4_roundOf 8 = .ok (.iload_n 2, 1) := by decide +kernel
theorem dX4_roundOf_9 : decode cX4_roundOf 9 = .ok (.iadd, 1) := by decide +kernel
theorem dX4_roundOf_10 : decode cX4_roundOf 10 = .ok (.iaload, 1) := by decide +kernel
theorem dX4_roundOf_11 : decode cX4_roundOf 11 = .ok (.ireturn, 1) := by decide +kernel
set_option maxRecDepth 20000 in
theorem ggX4_broughtBy_X4_roundOf : GoodIn wsX4_broughtBy wsX4_roundOf := goodIn_r _ [5, 6, 7, 8, 9] (by decide +kernel) (by decide +kernel)
set_option maxRecDepth 20000 in
theorem gX4_broughtBy_X4_roundOf : GoodIn wsX4_broughtBy (wsV RX4 56 RX4 yX4_roundOf wsX4_roundOf) := goodIn_app (goodIn_of _ (by decide +kernel)) ggX4_broughtBy_X4_roundOf
theorem dX4_broughtBy_0 : decode cX4_broughtBy 0 = .ok (.iconst 0, 1) := by decide +kernel
theorem dX4_broughtBy_1 : decode cX4_broughtBy 1 = .ok (.istore_n 3, 1) := by decide +kernel
theorem dX4_broughtBy_2 : decode cX4_broughtBy 2 = .ok (.iconst 0, 1) := by decide +kernel
theorem dX4_broughtBy_3 : decode cX4_broughtBy 3 = .ok (.istore 4, 2) := by decide +kernel
theorem dX4_broughtBy_5 : decode cX4_broughtBy 5 = .ok (.iload 4, 2) := by decide +kernel
theorem dX4_broughtBy_7 : decode cX4_broughtBy 7 = .ok (.bipush 20, 2) := by decide +kernel
theorem dX4_broughtBy_9 : decode cX4_broughtBy 9 = .ok (.if_icmp .ge 27, 3) := by decide +kernel
theorem dX4_broughtBy_12 : decode cX4_broughtBy 12 = .ok (.aload_n 0, 1) := by decide +kernel
theorem dX4_broughtBy_13 : decode cX4_broughtBy 13 = .ok (.iload_n 1, 1) := by decide +kernel
theorem dX4_broughtBy_14 : decode cX4_broughtBy 14 = .ok (.iload 4, 2) := by decide +kernel
theorem dX4_broughtBy_16 : decode cX4_broughtBy 16 = .ok (.invokevirtual 56, 3) := by decide +kernel
theorem dX4_broughtBy_19 : decode cX4_broughtBy 19 = .ok (.iload_n 2, 1) := by decide +kernel
theorem dX4_broughtBy_20 : decode cX4_broughtBy 20 = .ok (.if_icmp .ne 10, 3) := by decide +kernel
theorem dX4_broughtBy_23 : decode cX4_broughtBy 23 = .ok (.iload_n 3, 1) := by decide +kernel
theorem dX4_broughtBy_24 : decode cX4_broughtBy 24 = .ok (.iconst 1, 1) := by decide +kernel
theorem dX4_broughtBy_25 : decode cX4_broughtBy 25 = .ok (.iload 4, 2) := by decide +kernel
theorem dX4_broughtBy_27 : decode cX4_broughtBy 27 = .ok (.ishl, 1) := by decide +kernel
theorem dX4_broughtBy_28 : decode cX4_broughtBy 28 = .ok (.ior, 1) := by decide +kernel
theorem dX4_broughtBy_29 : decode cX4_broughtBy 29 = .ok (.istore_n 3, 1) := by decide +kernel
theorem dX4_broughtBy_30 : decode cX4_broughtBy 30 = .ok (.iinc 4 1, 3) := by decide +kernel
theorem dX4_broughtBy_33 : decode cX4_broughtBy 33 = .ok (.goto (-28), 3) := by decide +kernel
theorem dX4_broughtBy_36 : decode cX4_broughtBy 36 = .ok (.iload_n 3, 1) := by decide +kernel
theorem dX4_broughtBy_37 : decode cX4_broughtBy 37 = .ok (.ireturn, 1) := by decide +kernel
set_option maxRecDepth 20000 in
theorem ggX4_howMany_J6_bitCount_0f7a4 : GoodIn wsX4_howMany wsJ6_bitCount_0f7a4 := goodIn_r _ [6, 7, 8, 9] (by decide +kernel) (by decide +kernel)
set_option maxRecDepth 20000 in
theorem gX4_howMany_J6_bitCount_0f7a4 : GoodIn wsX4_howMany (va_wsS RX4 60 yJ6_bitCount_0f7a4 wsJ6_bitCount_0f7a4) := goodIn_app (goodIn_of _ (by decide +kernel)) ggX4_howMany_J6_bitCount_0f7a4
theorem dX4_howMany_0 : decode cX4_howMany 0 = .ok (.iconst 0, 1) := by decide +kernel
theorem dX4_howMany_1 : decode cX4_howMany 1 = .ok (.istore_n 1, 1) := by decide +kernel
theorem dX4_howMany_2 : decode cX4_howMany 2 = .ok (.iconst 0, 1) := by decide +kernel
theorem dX4_howMany_3 : decode cX4_howMany 3 = .ok (.istore_n 2, 1) := by decide +kernel
theorem dX4_howMany_4 : decode cX4_howMany 4 = .ok (.iload_n 2, 1) := by decide +kernel
theorem dX4_howMany_5 : decode cX4_howMany 5 = .ok (.iconst 4, 1) := by decide +kernel
theorem dX4_howMany_6 : decode cX4_howMany 6 = .ok (.if_icmp .ge 24, 3) := by decide +kernel
theorem dX4_howMany_9 : decode cX4_howMany 9 = .ok (.iload_n 1, 1) := by decide +kernel
theorem dX4_howMany_10 : decode cX4_howMany 10 = .ok (.aload_n 0, 1) := by decide +kernel
theorem dX4_howMany_11 : decode cX4_howMany 11 = .ok (.getfield 12, 3) := by decide +kernel
theorem dX4_howMany_14 : decode cX4_howMany 14 = .ok (.getfield 49, 3) := by decide +kernel
theorem dX4_howMany_17 : decode cX4_howMany 17 = .ok (.iload_n 2, 1) := by decide +kernel
theorem dX4_howMany_18 : decode cX4_howMany 18 = .ok (.iaload, 1) := by decide +kernel
theorem dX4_howMany_19 : decode cX4_howMany 19 = .ok (.invokestatic 60, 3) := by decide +kernel
theorem dX4_howMany_22 : decode cX4_howMany 22 = .ok (.iadd, 1) := by decide +kernel
theorem dX4_howMany_23 : decode cX4_howMany 23 = .ok (.istore_n 1, 1) := by decide +kernel
theorem dX4_howMany_24 : decode cX4_howMany 24 = .ok (.iinc 2 1, 3) := by decide +kernel
theorem dX4_howMany_27 : decode cX4_howMany 27 = .ok (.goto (-23), 3) := by decide +kernel
theorem dX4_howMany_30 : decode cX4_howMany 30 = .ok (.iload_n 1, 1) := by decide +kernel
theorem dX4_howMany_31 : decode cX4_howMany 31 = .ok (.ireturn, 1) := by decide +kernel
theorem dX5_init_0 : decode cX5_init 0 = .ok (.aload_n 0, 1) := by decide +kernel
theorem dX5_init_1 : decode cX5_init 1 = .ok (.invokespecial 3, 3) := by decide +kernel
theorem dX5_init_4 : decode cX5_init 4 = .ok (.aload_n 0, 1) := by decide +kernel
theorem dX5_init_5 : decode cX5_init 5 = .ok (.iconst 4, 1) := by decide +kernel
theorem dX5_init_6 : decode cX5_init 6 = .ok (.bipush 24, 2) := by decide +kernel
theorem dX5_init_8 : decode cX5_init 8 = .ok (.multianewarray 9 2, 4) := by decide +kernel
theorem dX5_init_12 : decode cX5_init 12 = .ok (.putfield 11, 3) := by decide +kernel
theorem dX5_init_15 : decode cX5_init 15 = .ok (.aload_n 0, 1) := by decide +kernel
theorem dX5_init_16 : decode cX5_init 16 = .ok (.iconst 4, 1) := by decide +kernel
theorem dX5_init_17 : decode cX5_init 17 = .ok (.newarray .int, 2) := by decide +kernel
theorem dX5_init_19 : decode cX5_init 19 = .ok (.dup, 1) := by decide +kernel
theorem dX5_init_20 : decode cX5_init 20 = .ok (.iconst 0, 1) := by decide +kernel
theorem dX5_init_21 : decode cX5_init 21 = .ok (.iconst (-1), 1) := by decide +kernel
theorem dX5_init_22 : decode cX5_init 22 = .ok (.iastore, 1) := by decide +kernel
theorem dX5_init_23 : decode cX5_init 23 = .ok (.dup, 1) := by decide +kernel
theorem dX5_init_24 : decode cX5_init 24 = .ok (.iconst 1, 1) := by decide +kernel
theorem dX5_init_25 : decode cX5_init 25 = .ok (.iconst (-1), 1) := by decide +kernel
theorem dX5_init_26 : decode cX5_init 26 = .ok (.iastore, 1) := by decide +kernel
theorem dX5_init_27 : decode cX5_init 27 = .ok (.dup, 1) := by decide +kernel
theorem dX5_init_28 : decode cX5_init 28 = .ok (.iconst 2, 1) := by decide +kernel
theorem dX5_init_29 : decode cX5_init 29 = .ok (.iconst (-1), 1) := by decide +kernel
theorem dX5_init_30 : decode cX5_init 30 = .ok (.iastore, 1) := by decide +kernel
theorem dX5_init_31 : decode cX5_init 31 = .ok (.dup, 1) := by decide +kernel
theorem dX5_init_32 : decode cX5_init 32 = .ok (.iconst 3, 1) := by decide +kernel
theorem dX5_init_33 : decode cX5_init 33 = .ok (.iconst (-1), 1) := by decide +kernel
theorem dX5_init_34 : decode cX5_init 34 = .ok (.iastore, 1) := by decide +kernel
theorem dX5_init_35 : decode cX5_init 35 = .ok (.putfield 16, 3) := by decide +kernel
theorem dX5_init_38 : decode cX5_init 38 = .ok (.return_, 1) := by decide +kernel
theorem dX6_init_0 : decode cX6_init 0 = .ok (.aload_n 0, 1) := by decide +kernel
theorem dX6_init_1 : decode cX6_init 1 = .ok (.invokespecial 3, 3) := by decide +kernel
theorem dX6_init_4 : decode cX6_init 4 = .ok (.aload_n 0, 1) := by decide +kernel
theorem dX6_init_5 : decode cX6_init 5 = .ok (.iconst 4, 1) := by decide +kernel
theorem dX6_init_6 : decode cX6_init 6 = .ok (.newarray .int, 2) := by decide +kernel
theorem dX6_init_8 : decode cX6_init 8 = .ok (.putfield 9, 3) := by decide +kernel
theorem dX6_init_11 : decode cX6_init 11 = .ok (.aload_n 0, 1) := by decide +kernel
theorem dX6_init_12 : decode cX6_init 12 = .ok (.iconst 4, 1) := by decide +kernel
theorem dX6_init_13 : decode cX6_init 13 = .ok (.newarray .int, 2) := by decide +kernel
theorem dX6_init_15 : decode cX6_init 15 = .ok (.putfield 15, 3) := by decide +kernel
theorem dX6_init_18 : decode cX6_init 18 = .ok (.aload_n 0, 1) := by decide +kernel
theorem dX6_init_19 : decode cX6_init 19 = .ok (.bipush 20, 2) := by decide +kernel
theorem dX6_init_21 : decode cX6_init 21 = .ok (.newarray .int, 2) := by decide +kernel
theorem dX6_init_23 : decode cX6_init 23 = .ok (.putfield 18, 3) := by decide +kernel
theorem dX6_init_26 : decode cX6_init 26 = .ok (.aload_n 0, 1) := by decide +kernel
theorem dX6_init_27 : decode cX6_init 27 = .ok (.bipush 20, 2) := by decide +kernel
theorem dX6_init_29 : decode cX6_init 29 = .ok (.newarray .int, 2) := by decide +kernel
theorem dX6_init_31 : decode cX6_init 31 = .ok (.putfield 21, 3) := by decide +kernel
theorem dX6_init_34 : decode cX6_init 34 = .ok (.aload_n 0, 1) := by decide +kernel
theorem dX6_init_35 : decode cX6_init 35 = .ok (.bipush 20, 2) := by decide +kernel
theorem dX6_init_37 : decode cX6_init 37 = .ok (.newarray .int, 2) := by decide +kernel
theorem dX6_init_39 : decode cX6_init 39 = .ok (.putfield 24, 3) := by decide +kernel
theorem dX6_init_42 : decode cX6_init 42 = .ok (.aload_n 0, 1) := by decide +kernel
theorem dX6_init_43 : decode cX6_init 43 = .ok (.bipush 16, 2) := by decide +kernel
theorem dX6_init_45 : decode cX6_init 45 = .ok (.newarray .int, 2) := by decide +kernel
theorem dX6_init_47 : decode cX6_init 47 = .ok (.putfield 27, 3) := by decide +kernel
theorem dX6_init_50 : decode cX6_init 50 = .ok (.aload_n 0, 1) := by decide +kernel
theorem dX6_init_51 : decode cX6_init 51 = .ok (.bipush 16, 2) := by decide +kernel
theorem dX6_init_53 : decode cX6_init 53 = .ok (.newarray .int, 2) := by decide +kernel
theorem dX6_init_55 : decode cX6_init 55 = .ok (.putfield 30, 3) := by decide +kernel
theorem dX6_init_58 : decode cX6_init 58 = .ok (.aload_n 0, 1) := by decide +kernel
theorem dX6_init_59 : decode cX6_init 59 = .ok (.iconst 0, 1) := by decide +kernel
theorem dX6_init_60 : decode cX6_init 60 = .ok (.putfield 33, 3) := by decide +kernel
theorem dX6_init_63 : decode cX6_init 63 = .ok (.aload_n 0, 1) := by decide +kernel
theorem dX6_init_64 : decode cX6_init 64 = .ok (.iconst 0, 1) := by decide +kernel
theorem dX6_init_65 : decode cX6_init 65 = .ok (.putfield 37, 3) := by decide +kernel
theorem dX6_init_68 : decode cX6_init 68 = .ok (.aload_n 0, 1) := by decide +kernel
theorem dX6_init_69 : decode cX6_init 69 = .ok (.iconst 0, 1) := by decide +kernel
theorem dX6_init_70 : decode cX6_init 70 = .ok (.putfield 40, 3) := by decide +kernel
theorem dX6_init_73 : decode cX6_init 73 = .ok (.aload_n 0, 1) := by decide +kernel
theorem dX6_init_74 : decode cX6_init 74 = .ok (.iconst 0, 1) := by decide +kernel
theorem dX6_init_75 : decode cX6_init 75 = .ok (.putfield 43, 3) := by decide +kernel
theorem dX6_init_78 : decode cX6_init 78 = .ok (.aload_n 0, 1) := by decide +kernel
theorem dX6_init_79 : decode cX6_init 79 = .ok (.iconst 0, 1) := by decide +kernel
theorem dX6_init_80 : decode cX6_init 80 = .ok (.putfield 46, 3) := by decide +kernel
theorem dX6_init_83 : decode cX6_init 83 = .ok (.return_, 1) := by decide +kernel
set_option maxRecDepth 20000 in
theorem ggX6_enter_J7_fill_53178 : GoodIn wsX6_enter wsJ7_fill_53178 := goodIn_r _ [15] (by decide +kernel) (by decide +kernel)
set_option maxRecDepth 20000 in
theorem gX6_enter_J7_fill_53178 : GoodIn wsX6_enter (va_wsS RX6 49 yJ7_fill_53178 wsJ7_fill_53178) := goodIn_app (goodIn_of _ (by decide +kernel)) ggX6_enter_J7_fill_53178
set_option maxRecDepth 20000 in
theorem ggX6_enter_X0_rulesBelow : GoodIn wsX6_enter wsX0_rulesBelow := goodIn_r _ [20, 21, 22, 23, 24, 25, 26, 19, 27, 28, 29, 30, 48, 49, 50, 51, 52, 53, 54, 55, 56] (by decide +kernel) (by decide +kernel)
set_option maxRecDepth 20000 in
theorem gX6_enter_X0_rulesBelow : GoodIn wsX6_enter (wsV RX6 61 RX0 yX0_rulesBelow wsX0_rulesBelow) := goodIn_app (goodIn_of _ (by decide +kernel)) ggX6_enter_X0_rulesBelow
set_option maxRecDepth 20000 in
theorem ggX6_enter_X8_has : GoodIn wsX6_enter wsX8_has := goodIn_r _ [30] (by decide +kernel) (by decide +kernel)
set_option maxRecDepth 20000 in
theorem gX6_enter_X8_has_n68 : GoodIn wsX6_enter (wsX8_has) := ggX6_enter_X8_has
set_option maxRecDepth 20000 in
theorem ggX6_enter_X6_enterRule : GoodIn wsX6_enter wsX6_enterRule := goodIn_r _ [35, 4, 3, 2, 36, 37, 38, 39, 40, 41, 42, 43, 44, 45, 46, 47] (by decide +kernel) (by decide +kernel)
set_option maxRecDepth 20000 in
theorem gX6_enter_X6_enterRule : GoodIn wsX6_enter (wsV RX6 78 RX6 yX6_enterRule wsX6_enterRule) := goodIn_app (goodIn_of _ (by decide +kernel)) ggX6_enter_X6_enterRule
theorem dX6_enter_0 : decode cX6_enter 0 = .ok (.aload_n 0, 1) := by decide +kernel
theorem dX6_enter_1 : decode cX6_enter 1 = .ok (.getfield 9, 3) := by decide +kernel
theorem dX6_enter_4 : decode cX6_enter 4 = .ok (.iconst 0, 1) := by decide +kernel
theorem dX6_enter_5 : decode cX6_enter 5 = .ok (.invokestatic 49, 3) := by decide +kernel
theorem dX6_enter_8 : decode cX6_enter 8 = .ok (.aload_n 0, 1) := by decide +kernel
theorem dX6_enter_9 : decode cX6_enter 9 = .ok (.getfield 18, 3) := by decide +kernel
theorem dX6_enter_12 : decode cX6_enter 12 = .ok (.iconst 0, 1) := by decide +kernel
theorem dX6_enter_13 : decode cX6_enter 13 = .ok (.invokestatic 49, 3) := by decide +kernel
theorem dX6_enter_16 : decode cX6_enter 16 = .ok (.aload_n 0, 1) := by decide +kernel
theorem dX6_enter_17 : decode cX6_enter 17 = .ok (.getfield 21, 3) := by decide +kernel
theorem dX6_enter_20 : decode cX6_enter 20 = .ok (.iconst 0, 1) := by decide +kernel
theorem dX6_enter_21 : decode cX6_enter 21 = .ok (.invokestatic 49, 3) := by decide +kernel
theorem dX6_enter_24 : decode cX6_enter 24 = .ok (.aload_n 0, 1) := by decide +kernel
theorem dX6_enter_25 : decode cX6_enter 25 = .ok (.getfield 24, 3) := by decide +kernel
theorem dX6_enter_28 : decode cX6_enter 28 = .ok (.iconst 0, 1) := by decide +kernel
theorem dX6_enter_29 : decode cX6_enter 29 = .ok (.invokestatic 49, 3) := by decide +kernel
theorem dX6_enter_32 : decode cX6_enter 32 = .ok (.aload_n 0, 1) := by decide +kernel
theorem dX6_enter_33 : decode cX6_enter 33 = .ok (.getfield 27, 3) := by decide +kernel
theorem dX6_enter_36 : decode cX6_enter 36 = .ok (.iconst 0, 1) := by decide +kernel
theorem dX6_enter_37 : decode cX6_enter 37 = .ok (.invokestatic 49, 3) := by decide +kernel
theorem dX6_enter_40 : decode cX6_enter 40 = .ok (.aload_n 0, 1) := by decide +kernel
theorem dX6_enter_41 : decode cX6_enter 41 = .ok (.aload_n 1, 1) := by decide +kernel
theorem dX6_enter_42 : decode cX6_enter 42 = .ok (.getfield 55, 3) := by decide +kernel
theorem dX6_enter_45 : decode cX6_enter 45 = .ok (.putfield 33, 3) := by decide +kernel
theorem dX6_enter_48 : decode cX6_enter 48 = .ok (.iconst 0, 1) := by decide +kernel
theorem dX6_enter_49 : decode cX6_enter 49 = .ok (.istore_n 2, 1) := by decide +kernel
theorem dX6_enter_50 : decode cX6_enter 50 = .ok (.iload_n 2, 1) := by decide +kernel
theorem dX6_enter_51 : decode cX6_enter 51 = .ok (.aload_n 1, 1) := by decide +kernel
theorem dX6_enter_52 : decode cX6_enter 52 = .ok (.getfield 58, 3) := by decide +kernel
theorem dX6_enter_55 : decode cX6_enter 55 = .ok (.if_icmp .ge 50, 3) := by decide +kernel
theorem dX6_enter_58 : decode cX6_enter 58 = .ok (.aload_n 0, 1) := by decide +kernel
theorem dX6_enter_59 : decode cX6_enter 59 = .ok (.getfield 27, 3) := by decide +kernel
theorem dX6_enter_62 : decode cX6_enter 62 = .ok (.iload_n 2, 1) := by decide +kernel
theorem dX6_enter_63 : decode cX6_enter 63 = .ok (.aload_n 1, 1) := by decide +kernel
theorem dX6_enter_64 : decode cX6_enter 64 = .ok (.iload_n 2, 1) := by decide +kernel
theorem dX6_enter_65 : decode cX6_enter 65 = .ok (.invokevirtual 61, 3) := by decide +kernel
theorem dX6_enter_68 : decode cX6_enter 68 = .ok (.iastore, 1) := by decide +kernel
theorem dX6_enter_69 : decode cX6_enter 69 = .ok (.aload_n 1, 1) := by decide +kernel
theorem dX6_enter_70 : decode cX6_enter 70 = .ok (.getfield 65, 3) := by decide +kernel
theorem dX6_enter_73 : decode cX6_enter 73 = .ok (.iload_n 2, 1) := by decide +kernel
theorem dX6_enter_74 : decode cX6_enter 74 = .ok (.invokestatic 68, 3) := by decide +kernel
theorem dX6_enter_77 : decode cX6_enter 77 = .ok (.ifCond .ne 22, 3) := by decide +kernel
theorem dX6_enter_80 : decode cX6_enter 80 = .ok (.aload_n 0, 1) := by decide +kernel
theorem dX6_enter_81 : decode cX6_enter 81 = .ok (.iconst 1, 1) := by decide +kernel
theorem dX6_enter_82 : decode cX6_enter 82 = .ok (.iload_n 2, 1) := by decide +kernel
theorem dX6_enter_83 : decode cX6_enter 83 = .ok (.ishl, 1) := by decide +kernel
theorem dX6_enter_84 : decode cX6_enter 84 = .ok (.aload_n 1, 1) := by decide +kernel
theorem dX6_enter_85 : decode cX6_enter 85 = .ok (.getfield 72, 3) := by decide +kernel
theorem dX6_enter_88 : decode cX6_enter 88 = .ok (.iload_n 2, 1) := by decide +kernel
theorem dX6_enter_89 : decode cX6_enter 89 = .ok (.iaload, 1) := by decide +kernel
theorem dX6_enter_90 : decode cX6_enter 90 = .ok (.aload_n 1, 1) := by decide +kernel
theorem dX6_enter_91 : decode cX6_enter 91 = .ok (.getfield 75, 3) := by decide +kernel
theorem dX6_enter_94 : decode cX6_enter 94 = .ok (.iload_n 2, 1) := by decide +kernel
theorem dX6_enter_95 : decode cX6_enter 95 = .ok (.iaload, 1) := by decide +kernel
theorem dX6_enter_96 : decode cX6_enter 96 = .ok (.invokevirtual 78, 3) := by decide +kernel
theorem dX6_enter_99 : decode cX6_enter 99 = .ok (.iinc 2 1, 3) := by decide +kernel
theorem dX6_enter_102 : decode cX6_enter 102 = .ok (.goto (-52), 3) := by decide +kernel
theorem dX6_enter_105 : decode cX6_enter 105 = .ok (.return_, 1) := by decide +kernel
theorem dX6_enterRule_0 : decode cX6_enterRule 0 = .ok (.aload_n 0, 1) := by decide +kernel
theorem dX6_enterRule_1 : decode cX6_enterRule 1 = .ok (.getfield 24, 3) := by decide +kernel
theorem dX6_enterRule_4 : decode cX6_enterRule 4 = .ok (.iload_n 3, 1) := by decide +kernel
theorem dX6_enterRule_5 : decode cX6_enterRule 5 = .ok (.dup2, 1) := by decide +kernel
theorem dX6_enterRule_6 : decode cX6_enterRule 6 = .ok (.iaload, 1) := by decide +kernel
theorem dX6_enterRule_7 : decode cX6_enterRule 7 = .ok (.iload_n 1, 1) := by decide +kernel
theorem dX6_enterRule_8 : decode cX6_enterRule 8 = .ok (.ior, 1) := by decide +kernel
theorem dX6_enterRule_9 : decode cX6_enterRule 9 = .ok (.iastore, 1) := by decide +kernel
theorem dX6_enterRule_10 : decode cX6_enterRule 10 = .ok (.iload_n 2, 1) := by decide +kernel
theorem dX6_enterRule_11 : decode cX6_enterRule 11 = .ok (.iconst 2, 1) := by decide +kernel
theorem dX6_enterRule_12 : decode cX6_enterRule 12 = .ok (.if_icmp .eq 13, 3) := by decide +kernel
theorem dX6_enterRule_15 : decode cX6_enterRule 15 = .ok (.aload_n 0, 1) := by decide +kernel
theorem dX6_enterRule_16 : decode cX6_enterRule 16 = .ok (.getfield 21, 3) := by decide +kernel
theorem dX6_enterRule_19 : decode cX6_enterRule 19 = .ok (.iload_n 3, 1) := by decide +kernel
theorem dX6_enterRule_20 : decode cX6_enterRule 20 = .ok (.dup2, 1) := by decide +kernel
theorem dX6_enterRule_21 : decode cX6_enterRule 21 = .ok (.iaload, 1) := by decide +kernel
theorem dX6_enterRule_22 : decode cX6_enterRule 22 = .ok (.iload_n 1, 1) := by decide +kernel
theorem dX6_enterRule_23 : decode cX6_enterRule 23 = .ok (.ior, 1) := by decide +kernel
theorem dX6_enterRule_24 : decode cX6_enterRule 24 = .ok (.iastore, 1) := by decide +kernel
theorem dX6_enterRule_25 : decode cX6_enterRule 25 = .ok (.iload_n 2, 1) := by decide +kernel
theorem dX6_enterRule_26 : decode cX6_enterRule 26 = .ok (.ifCond .ne 13, 3) := by decide +kernel
theorem dX6_enterRule_29 : decode cX6_enterRule 29 = .ok (.aload_n 0, 1) := by decide +kernel
theorem dX6_enterRule_30 : decode cX6_enterRule 30 = .ok (.getfield 18, 3) := by decide +kernel
theorem dX6_enterRule_33 : decode cX6_enterRule 33 = .ok (.iload_n 3, 1) := by decide +kernel
theorem dX6_enterRule_34 : decode cX6_enterRule 34 = .ok (.dup2, 1) := by decide +kernel
theorem dX6_enterRule_35 : decode cX6_enterRule 35 = .ok (.iaload, 1) := by decide +kernel
theorem dX6_enterRule_36 : decode cX6_enterRule 36 = .ok (.iload_n 1, 1) := by decide +kernel
theorem dX6_enterRule_37 : decode cX6_enterRule 37 = .ok (.ior, 1) := by decide +kernel
theorem dX6_enterRule_38 : decode cX6_enterRule 38 = .ok (.iastore, 1) := by decide +kernel
theorem dX6_enterRule_39 : decode cX6_enterRule 39 = .ok (.return_, 1) := by decide +kernel
set_option maxRecDepth 20000 in
theorem ggX6_weigh_X6_weighRule : GoodIn wsX6_weigh wsX6_weighRule := goodIn_r _ [12, 13, 1, 2, 3, 4, 14, 15, 16, 17, 18, 19, 20, 21, 22, 23, 24, 25] (by decide +kernel) (by decide +kernel)
set_option maxRecDepth 20000 in
theorem gX6_weigh_X6_weighRule : GoodIn wsX6_weigh (wsV RX6 88 RX6 yX6_weighRule wsX6_weighRule) := goodIn_app (goodIn_of _ (by decide +kernel)) ggX6_weigh_X6_weighRule
theorem dX6_weigh_0 : decode cX6_weigh 0 = .ok (.aload_n 0, 1) := by decide +kernel
theorem dX6_weigh_1 : decode cX6_weigh 1 = .ok (.iconst 0, 1) := by decide +kernel
theorem dX6_weigh_2 : decode cX6_weigh 2 = .ok (.putfield 37, 3) := by decide +kernel
theorem dX6_weigh_5 : decode cX6_weigh 5 = .ok (.aload_n 0, 1) := by decide +kernel
theorem dX6_weigh_6 : decode cX6_weigh 6 = .ok (.iconst 0, 1) := by decide +kernel
theorem dX6_weigh_7 : decode cX6_weigh 7 = .ok (.putfield 40, 3) := by decide +kernel
theorem dX6_weigh_10 : decode cX6_weigh 10 = .ok (.aload_n 0, 1) := by decide +kernel
theorem dX6_weigh_11 : decode cX6_weigh 11 = .ok (.iconst 0, 1) := by decide +kernel
theorem dX6_weigh_12 : decode cX6_weigh 12 = .ok (.putfield 43, 3) := by decide +kernel
theorem dX6_weigh_15 : decode cX6_weigh 15 = .ok (.aload_n 0, 1) := by decide +kernel
theorem dX6_weigh_16 : decode cX6_weigh 16 = .ok (.iconst 0, 1) := by decide +kernel
theorem dX6_weigh_17 : decode cX6_weigh 17 = .ok (.putfield 46, 3) := by decide +kernel
theorem dX6_weigh_20 : decode cX6_weigh 20 = .ok (.iconst 0, 1) := by decide +kernel
theorem dX6_weigh_21 : decode cX6_weigh 21 = .ok (.istore_n 2, 1) := by decide +kernel
theorem dX6_weigh_22 : decode cX6_weigh 22 = .ok (.iload_n 2, 1) := by decide +kernel
theorem dX6_weigh_23 : decode cX6_weigh 23 = .ok (.aload_n 1, 1) := by decide +kernel
theorem dX6_weigh_24 : decode cX6_weigh 24 = .ok (.getfield 58, 3) := by decide +kernel
theorem dX6_weigh_27 : decode cX6_weigh 27 = .ok (.if_icmp .ge 28, 3) := by decide +kernel
theorem dX6_weigh_30 : decode cX6_weigh 30 = .ok (.aload_n 0, 1) := by decide +kernel
theorem dX6_weigh_31 : decode cX6_weigh 31 = .ok (.iconst 1, 1) := by decide +kernel
theorem dX6_weigh_32 : decode cX6_weigh 32 = .ok (.iload_n 2, 1) := by decide +kernel
theorem dX6_weigh_33 : decode cX6_weigh 33 = .ok (.ishl, 1) := by decide +kernel
theorem dX6_weigh_34 : decode cX6_weigh 34 = .ok (.aload_n 1, 1) := by decide +kernel
theorem dX6_weigh_35 : decode cX6_weigh 35 = .ok (.getfield 82, 3) := by decide +kernel
theorem dX6_weigh_38 : decode cX6_weigh 38 = .ok (.iload_n 2, 1) := by decide +kernel
theorem dX6_weigh_39 : decode cX6_weigh 39 = .ok (.iaload, 1) := by decide +kernel
theorem dX6_weigh_40 : decode cX6_weigh 40 = .ok (.aload_n 1, 1) := by decide +kernel
theorem dX6_weigh_41 : decode cX6_weigh 41 = .ok (.getfield 85, 3) := by decide +kernel
theorem dX6_weigh_44 : decode cX6_weigh 44 = .ok (.iload_n 2, 1) := by decide +kernel
theorem dX6_weigh_45 : decode cX6_weigh 45 = .ok (.iaload, 1) := by decide +kernel
theorem dX6_weigh_46 : decode cX6_weigh 46 = .ok (.invokevirtual 88, 3) := by decide +kernel
theorem dX6_weigh_49 : decode cX6_weigh 49 = .ok (.iinc 2 1, 3) := by decide +kernel
theorem dX6_weigh_52 : decode cX6_weigh 52 = .ok (.goto (-30), 3) := by decide +kernel
theorem dX6_weigh_55 : decode cX6_weigh 55 = .ok (.return_, 1) := by decide +kernel
theorem dX6_weighRule_0 : decode cX6_weighRule 0 = .ok (.iload_n 2, 1) := by decide +kernel
theorem dX6_weighRule_1 : decode cX6_weighRule 1 = .ok (.aload_n 0, 1) := by decide +kernel
theorem dX6_weighRule_2 : decode cX6_weighRule 2 = .ok (.getfield 9, 3) := by decide +kernel
theorem dX6_weighRule_5 : decode cX6_weighRule 5 = .ok (.iconst 2, 1) := by decide +kernel
theorem dX6_weighRule_6 : decode cX6_weighRule 6 = .ok (.iaload, 1) := by decide +kernel
theorem dX6_weighRule_7 : decode cX6_weighRule 7 = .ok (.iconst (-1), 1) := by decide +kernel
theorem dX6_weighRule_8 : decode cX6_weighRule 8 = .ok (.ixor, 1) := by decide +kernel
theorem dX6_weighRule_9 : decode cX6_weighRule 9 = .ok (.iand, 1) := by decide +kernel
theorem dX6_weighRule_10 : decode cX6_weighRule 10 = .ok (.ifCond .ne 26, 3) := by decide +kernel
theorem dX6_weighRule_13 : decode cX6_weighRule 13 = .ok (.iload_n 3, 1) := by decide +kernel
theorem dX6_weighRule_14 : decode cX6_weighRule 14 = .ok (.aload_n 0, 1) := by decide +kernel
theorem dX6_weighRule_15 : decode cX6_weighRule 15 = .ok (.getfield 9, 3) := by decide +kernel
theorem dX6_weighRule_18 : decode cX6_weighRule 18 = .ok (.iconst 3, 1) := by decide +kernel
theorem dX6_weighRule_19 : decode cX6_weighRule 19 = .ok (.iaload, 1) := by decide +kernel
theorem dX6_weighRule_20 : decode cX6_weighRule 20 = .ok (.iconst (-1), 1) := by decide +kernel
theorem dX6_weighRule_21 : decode cX6_weighRule 21 = .ok (.ixor, 1) := by decide +kernel
theorem dX6_weighRule_22 : decode cX6_weighRule 22 = .ok (.iand, 1) := by decide +kernel
theorem dX6_weighRule_23 : decode cX6_weighRule 23 = .ok (.ifCond .ne 13, 3) := by decide +kernel
theorem dX6_weighRule_26 : decode cX6_weighRule 26 = .ok (.aload_n 0, 1) := by decide +kernel
theorem dX6_weighRule_27 : decode cX6_weighRule 27 = .ok (.dup, 1) := by decide +kernel
theorem dX6_weighRule_28 : decode cX6_weighRule 28 = .ok (.getfield 37, 3) := by decide +kernel
theorem dX6_weighRule_31 : decode cX6_weighRule 31 = .ok (.iload_n 1, 1) := by decide +kernel
theorem dX6_weighRule_32 : decode cX6_weighRule 32 = .ok (.ior, 1) := by decide +kernel
theorem dX6_weighRule_33 : decode cX6_weighRule 33 = .ok (.putfield 37, 3) := by decide +kernel
theorem dX6_weighRule_36 : decode cX6_weighRule 36 = .ok (.iload_n 2, 1) := by decide +kernel
theorem dX6_weighRule_37 : decode cX6_weighRule 37 = .ok (.aload_n 0, 1) := by decide +kernel
theorem dX6_weighRule_38 : decode cX6_weighRule 38 = .ok (.getfield 9, 3) := by decide +kernel
theorem dX6_weighRule_41 : decode cX6_weighRule 41 = .ok (.iconst 3, 1) := by decide +kernel
theorem dX6_weighRule_42 : decode cX6_weighRule 42 = .ok (.iaload, 1) := by decide +kernel
theorem dX6_weighRule_43 : decode cX6_weighRule 43 = .ok (.iand, 1) := by decide +kernel
theorem dX6_weighRule_44 : decode cX6_weighRule 44 = .ok (.ifCond .ne 14, 3) := by decide +kernel
theorem dX6_weighRule_47 : decode cX6_weighRule 47 = .ok (.iload_n 3, 1) := by decide +kernel
theorem dX6_weighRule_48 : decode cX6_weighRule 48 = .ok (.aload_n 0, 1) := by decide +kernel
theorem dX6_weighRule_49 : decode cX6_weighRule 49 = .ok (.getfield 9, 3) := by decide +kernel
theorem dX6_weighRule_52 : decode cX6_weighRule 52 = .ok (.iconst 2, 1) := by decide +kernel
theorem dX6_weighRule_53 : decode cX6_weighRule 53 = .ok (.iaload, 1) := by decide +kernel
theorem dX6_weighRule_54 : decode cX6_weighRule 54 = .ok (.iand, 1) := by decide +kernel
theorem dX6_weighRule_55 : decode cX6_weighRule 55 = .ok (.ifCond .eq 13, 3) := by decide +kernel
theorem dX6_weighRule_58 : decode cX6_weighRule 58 = .ok (.aload_n 0, 1) := by decide +kernel
theorem dX6_weighRule_59 : decode cX6_weighRule 59 = .ok (.dup, 1) := by decide +kernel
theorem dX6_weighRule_60 : decode cX6_weighRule 60 = .ok (.getfield 40, 3) := by decide +kernel
theorem dX6_weighRule_63 : decode cX6_weighRule 63 = .ok (.iload_n 1, 1) := by decide +kernel
theorem dX6_weighRule_64 : decode cX6_weighRule 64 = .ok (.ior, 1) := by decide +kernel
theorem dX6_weighRule_65 : decode cX6_weighRule 65 = .ok (.putfield 40, 3) := by decide +kernel
theorem dX6_weighRule_68 : decode cX6_weighRule 68 = .ok (.iload_n 2, 1) := by decide +kernel
theorem dX6_weighRule_69 : decode cX6_weighRule 69 = .ok (.aload_n 0, 1) := by decide +kernel
theorem dX6_weighRule_70 : decode cX6_weighRule 70 = .ok (.getfield 9, 3) := by decide +kernel
theorem dX6_weighRule_73 : decode cX6_weighRule 73 = .ok (.iconst 0, 1) := by decide +kernel
theorem dX6_weighRule_74 : decode cX6_weighRule 74 = .ok (.iaload, 1) := by decide +kernel
theorem dX6_weighRule_75 : decode cX6_weighRule 75 = .ok (.iconst (-1), 1) := by decide +kernel
theorem dX6_weighRule_76 : decode cX6_weighRule 76 = .ok (.ixor, 1) := by decide +kernel
theorem dX6_weighRule_77 : decode cX6_weighRule 77 = .ok (.iand, 1) := by decide +kernel
theorem dX6_weighRule_78 : decode cX6_weighRule 78 = .ok (.ifCond .ne 13, 3) := by decide +kernel
theorem dX6_weighRule_81 : decode cX6_weighRule 81 = .ok (.aload_n 0, 1) := by decide +kernel
theorem dX6_weighRule_82 : decode cX6_weighRule 82 = .ok (.dup, 1) := by decide +kernel
theorem dX6_weighRule_83 : decode cX6_weighRule 83 = .ok (.getfield 43, 3) := by decide +kernel
theorem dX6_weighRule_86 : decode cX6_weighRule 86 = .ok (.iload_n 1, 1) := by decide +kernel
theorem dX6_weighRule_87 : decode cX6_weighRule 87 = .ok (.ior, 1) := by decide +kernel
theorem dX6_weighRule_88 : decode cX6_weighRule 88 = .ok (.putfield 43, 3) := by decide +kernel
theorem dX6_weighRule_91 : decode cX6_weighRule 91 = .ok (.iload_n 2, 1) := by decide +kernel
theorem dX6_weighRule_92 : decode cX6_weighRule 92 = .ok (.aload_n 0, 1) := by decide +kernel
theorem dX6_weighRule_93 : decode cX6_weighRule 93 = .ok (.getfield 9, 3) := by decide +kernel
theorem dX6_weighRule_96 : decode cX6_weighRule 96 = .ok (.iconst 1, 1) := by decide +kernel
theorem dX6_weighRule_97 : decode cX6_weighRule 97 = .ok (.iaload, 1) := by decide +kernel
theorem dX6_weighRule_98 : decode cX6_weighRule 98 = .ok (.iand, 1) := by decide +kernel
theorem dX6_weighRule_99 : decode cX6_weighRule 99 = .ok (.ifCond .eq 13, 3) := by decide +kernel
theorem dX6_weighRule_102 : decode cX6_weighRule 102 = .ok (.aload_n 0, 1) := by decide +kernel
theorem dX6_weighRule_103 : decode cX6_weighRule 103 = .ok (.dup, 1) := by decide +kernel
theorem dX6_weighRule_104 : decode cX6_weighRule 104 = .ok (.getfield 46, 3) := by decide +kernel
theorem dX6_weighRule_107 : decode cX6_weighRule 107 = .ok (.iload_n 1, 1) := by decide +kernel
theorem dX6_weighRule_108 : decode cX6_weighRule 108 = .ok (.ior, 1) := by decide +kernel
theorem dX6_weighRule_109 : decode cX6_weighRule 109 = .ok (.putfield 46, 3) := by decide +kernel
theorem dX6_weighRule_112 : decode cX6_weighRule 112 = .ok (.return_, 1) := by decide +kernel
set_option maxRecDepth 20000 in
theorem ggX6_brings_X6_sureOnes : GoodIn wsX6_brings wsX6_sureOnes := goodIn_r _ [7, 8, 9, 10, 54, 55, 56, 57, 58, 59, 60, 61, 62, 63, 64, 65] (by decide +kernel) (by decide +kernel)
set_option maxRecDepth 20000 in
theorem gX6_brings_X6_sureOnes : GoodIn wsX6_brings (wsV RX6 91 RX6 yX6_sureOnes wsX6_sureOnes) := goodIn_app (goodIn_of _ (by decide +kernel)) ggX6_brings_X6_sureOnes
set_option maxRecDepth 20000 in
theorem ggX6_brings_X6_neverOnes : GoodIn wsX6_brings wsX6_neverOnes := goodIn_r _ [14, 8, 9, 15, 16, 17, 18, 54, 55, 56, 57, 58, 59, 60, 61, 62, 63, 64, 65] (by decide +kernel) (by decide +kernel)
set_option maxRecDepth 20000 in
theorem gX6_brings_X6_neverOnes : GoodIn wsX6_brings (wsV RX6 95 RX6 yX6_neverOnes wsX6_neverOnes) := goodIn_app (goodIn_of _ (by decide +kernel)) ggX6_brings_X6_neverOnes
set_option maxRecDepth 20000 in
theorem ggX6_brings_X6_likelyOnes : GoodIn wsX6_brings wsX6_likelyOnes := goodIn_r _ [22, 2, 23, 24, 25, 6, 26, 27, 28, 29, 17, 30, 16, 18, 31, 32, 33, 34, 35, 36, 37, 38, 39, 40, 41, 54, 55, 56, 57, 58, 59, 60, 61, 62, 63, 64, 65] (by decide +kernel) (by decide +kernel)
set_option maxRecDepth 20000 in
theorem gX6_brings_X6_likelyOnes : GoodIn wsX6_brings (wsV RX6 98 RX6 yX6_likelyOnes wsX6_likelyOnes) := goodIn_app (goodIn_of _ (by decide +kernel)) ggX6_brings_X6_likelyOnes
set_option maxRecDepth 20000 in
theorem ggX6_brings_X6_unlikelyOnes : GoodIn wsX6_brings wsX6_unlikelyOnes := goodIn_r _ [45, 2, 46, 47, 48, 6, 49, 27, 36, 29, 17, 30, 16, 18, 50, 51, 52, 53, 35, 28, 37, 38, 39, 40, 41, 54, 55, 56, 57, 58, 59, 60, 61, 62, 63, 64, 65] (by decide +kernel) (by decide +kernel)
set_option maxRecDepth 20000 in
theorem gX6_brings_X6_unlikelyOnes : GoodIn wsX6_brings (wsV RX6 101 RX6 yX6_unlikelyOnes wsX6_unlikelyOnes) := goodIn_app (goodIn_of _ (by decide +kernel)) ggX6_brings_X6_unlikelyOnes
theorem dX6_brings_0 : decode cX6_brings 0 = .ok (.aload_n 0, 1) := by decide +kernel
theorem dX6_brings_1 : decode cX6_brings 1 = .ok (.getfield 15, 3) := by decide +kernel
theorem dX6_brings_4 : decode cX6_brings 4 = .ok (.iconst 0, 1) := by decide +kernel
theorem dX6_brings_5 : decode cX6_brings 5 = .ok (.aload_n 0, 1) := by decide +kernel
theorem dX6_brings_6 : decode cX6_brings 6 = .ok (.invokevirtual 91, 3) := by decide +kernel
theorem dX6_brings_9 : decode cX6_brings 9 = .ok (.aload_n 0, 1) := by decide +kernel
theorem dX6_brings_10 : decode cX6_brings 10 = .ok (.getfield 9, 3) := by decide +kernel
theorem dX6_brings_13 : decode cX6_brings 13 = .ok (.iconst 0, 1) := by decide +kernel
theorem dX6_brings_14 : decode cX6_brings 14 = .ok (.iaload, 1) := by decide +kernel
theorem dX6_brings_15 : decode cX6_brings 15 = .ok (.iconst (-1), 1) := by decide +kernel
theorem dX6_brings_16 : decode cX6_brings 16 = .ok (.ixor, 1) := by decide +kernel
theorem dX6_brings_17 : decode cX6_brings 17 = .ok (.iand, 1) := by decide +kernel
theorem dX6_brings_18 : decode cX6_brings 18 = .ok (.iastore, 1) := by decide +kernel
theorem dX6_brings_19 : decode cX6_brings 19 = .ok (.aload_n 0, 1) := by decide +kernel
theorem dX6_brings_20 : decode cX6_brings 20 = .ok (.getfield 15, 3) := by decide +kernel
theorem dX6_brings_23 : decode cX6_brings 23 = .ok (.iconst 1, 1) := by decide +kernel
theorem dX6_brings_24 : decode cX6_brings 24 = .ok (.aload_n 0, 1) := by decide +kernel
theorem dX6_brings_25 : decode cX6_brings 25 = .ok (.invokevirtual 95, 3) := by decide +kernel
theorem dX6_brings_28 : decode cX6_brings 28 = .ok (.aload_n 0, 1) := by decide +kernel
theorem dX6_brings_29 : decode cX6_brings 29 = .ok (.getfield 9, 3) := by decide +kernel
theorem dX6_brings_32 : decode cX6_brings 32 = .ok (.iconst 1, 1) := by decide +kernel
theorem dX6_brings_33 : decode cX6_brings 33 = .ok (.iaload, 1) := by decide +kernel
theorem dX6_brings_34 : decode cX6_brings 34 = .ok (.iconst (-1), 1) := by decide +kernel
theorem dX6_brings_35 : decode cX6_brings 35 = .ok (.ixor, 1) := by decide +kernel
theorem dX6_brings_36 : decode cX6_brings 36 = .ok (.iand, 1) := by decide +kernel
theorem dX6_brings_37 : decode cX6_brings 37 = .ok (.iastore, 1) := by decide +kernel
theorem dX6_brings_38 : decode cX6_brings 38 = .ok (.aload_n 0, 1) := by decide +kernel
theorem dX6_brings_39 : decode cX6_brings 39 = .ok (.getfield 15, 3) := by decide +kernel
theorem dX6_brings_42 : decode cX6_brings 42 = .ok (.iconst 2, 1) := by decide +kernel
theorem dX6_brings_43 : decode cX6_brings 43 = .ok (.aload_n 0, 1) := by decide +kernel
theorem dX6_brings_44 : decode cX6_brings 44 = .ok (.invokevirtual 98, 3) := by decide +kernel
theorem dX6_brings_47 : decode cX6_brings 47 = .ok (.aload_n 0, 1) := by decide +kernel
theorem dX6_brings_48 : decode cX6_brings 48 = .ok (.getfield 9, 3) := by decide +kernel
theorem dX6_brings_51 : decode cX6_brings 51 = .ok (.iconst 2, 1) := by decide +kernel
theorem dX6_brings_52 : decode cX6_brings 52 = .ok (.iaload, 1) := by decide +kernel
theorem dX6_brings_53 : decode cX6_brings 53 = .ok (.iconst (-1), 1) := by decide +kernel
theorem dX6_brings_54 : decode cX6_brings 54 = .ok (.ixor, 1) := by decide +kernel
theorem dX6_brings_55 : decode cX6_brings 55 = .ok (.iand, 1) := by decide +kernel
theorem dX6_brings_56 : decode cX6_brings 56 = .ok (.iastore, 1) := by decide +kernel
theorem dX6_brings_57 : decode cX6_brings 57 = .ok (.aload_n 0, 1) := by decide +kernel
theorem dX6_brings_58 : decode cX6_brings 58 = .ok (.getfield 15, 3) := by decide +kernel
theorem dX6_brings_61 : decode cX6_brings 61 = .ok (.iconst 3, 1) := by decide +kernel
theorem dX6_brings_62 : decode cX6_brings 62 = .ok (.aload_n 0, 1) := by decide +kernel
theorem dX6_brings_63 : decode cX6_brings 63 = .ok (.invokevirtual 101, 3) := by decide +kernel
theorem dX6_brings_66 : decode cX6_brings 66 = .ok (.aload_n 0, 1) := by decide +kernel
theorem dX6_brings_67 : decode cX6_brings 67 = .ok (.getfield 9, 3) := by decide +kernel
theorem dX6_brings_70 : decode cX6_brings 70 = .ok (.iconst 3, 1) := by decide +kernel
theorem dX6_brings_71 : decode cX6_brings 71 = .ok (.iaload, 1) := by decide +kernel
theorem dX6_brings_72 : decode cX6_brings 72 = .ok (.iconst (-1), 1) := by decide +kernel
theorem dX6_brings_73 : decode cX6_brings 73 = .ok (.ixor, 1) := by decide +kernel
theorem dX6_brings_74 : decode cX6_brings 74 = .ok (.iand, 1) := by decide +kernel
theorem dX6_brings_75 : decode cX6_brings 75 = .ok (.iastore, 1) := by decide +kernel
theorem dX6_brings_76 : decode cX6_brings 76 = .ok (.aload_n 0, 1) := by decide +kernel
theorem dX6_brings_77 : decode cX6_brings 77 = .ok (.getfield 15, 3) := by decide +kernel
theorem dX6_brings_80 : decode cX6_brings 80 = .ok (.iconst 0, 1) := by decide +kernel
theorem dX6_brings_81 : decode cX6_brings 81 = .ok (.iaload, 1) := by decide +kernel
theorem dX6_brings_82 : decode cX6_brings 82 = .ok (.aload_n 0, 1) := by decide +kernel
theorem dX6_brings_83 : decode cX6_brings 83 = .ok (.getfield 15, 3) := by decide +kernel
theorem dX6_brings_86 : decode cX6_brings 86 = .ok (.iconst 1, 1) := by decide +kernel
theorem dX6_brings_87 : decode cX6_brings 87 = .ok (.iaload, 1) := by decide +kernel
theorem dX6_brings_88 : decode cX6_brings 88 = .ok (.ior, 1) := by decide +kernel
theorem dX6_brings_89 : decode cX6_brings 89 = .ok (.aload_n 0, 1) := by decide +kernel
theorem dX6_brings_90 : decode cX6_brings 90 = .ok (.getfield 15, 3) := by decide +kernel
theorem dX6_brings_93 : decode cX6_brings 93 = .ok (.iconst 2, 1) := by decide +kernel
theorem dX6_brings_94 : decode cX6_brings 94 = .ok (.iaload, 1) := by decide +kernel
theorem dX6_brings_95 : decode cX6_brings 95 = .ok (.ior, 1) := by decide +kernel
theorem dX6_brings_96 : decode cX6_brings 96 = .ok (.aload_n 0, 1) := by decide +kernel
theorem dX6_brings_97 : decode cX6_brings 97 = .ok (.getfield 15, 3) := by decide +kernel
theorem dX6_brings_100 : decode cX6_brings 100 = .ok (.iconst 3, 1) := by decide +kernel
theorem dX6_brings_101 : decode cX6_brings 101 = .ok (.iaload, 1) := by decide +kernel
theorem dX6_brings_102 : decode cX6_brings 102 = .ok (.ior, 1) := by decide +kernel
theorem dX6_brings_103 : decode cX6_brings 103 = .ok (.ifCond .eq 7, 3) := by decide +kernel
theorem dX6_brings_106 : decode cX6_brings 106 = .ok (.iconst 1, 1) := by decide +kernel
theorem dX6_brings_107 : decode cX6_brings 107 = .ok (.goto 4, 3) := by decide +kernel
theorem dX6_brings_110 : decode cX6_brings 110 = .ok (.iconst 0, 1) := by decide +kernel
theorem dX6_brings_111 : decode cX6_brings 111 = .ok (.ireturn, 1) := by decide +kernel
theorem dX6_sureOnes_0 : decode cX6_sureOnes 0 = .ok (.aload_n 0, 1) := by decide +kernel
theorem dX6_sureOnes_1 : decode cX6_sureOnes 1 = .ok (.getfield 33, 3) := by decide +kernel
theorem dX6_sureOnes_4 : decode cX6_sureOnes 4 = .ok (.istore_n 1, 1) := by decide +kernel
theorem dX6_sureOnes_5 : decode cX6_sureOnes 5 = .ok (.iconst 0, 1) := by decide +kernel
theorem dX6_sureOnes_6 : decode cX6_sureOnes 6 = .ok (.istore_n 2, 1) := by decide +kernel
theorem dX6_sureOnes_7 : decode cX6_sureOnes 7 = .ok (.iload_n 2, 1) := by decide +kernel
theorem dX6_sureOnes_8 : decode cX6_sureOnes 8 = .ok (.bipush 20, 2) := by decide +kernel
theorem dX6_sureOnes_10 : decode cX6_sureOnes 10 = .ok (.if_icmp .ge 29, 3) := by decide +kernel
theorem dX6_sureOnes_13 : decode cX6_sureOnes 13 = .ok (.aload_n 0, 1) := by decide +kernel
theorem dX6_sureOnes_14 : decode cX6_sureOnes 14 = .ok (.getfield 18, 3) := by decide +kernel
theorem dX6_sureOnes_17 : decode cX6_sureOnes 17 = .ok (.iload_n 2, 1) := by decide +kernel
theorem dX6_sureOnes_18 : decode cX6_sureOnes 18 = .ok (.iaload, 1) := by decide +kernel
theorem dX6_sureOnes_19 : decode cX6_sureOnes 19 = .ok (.aload_n 0, 1) := by decide +kernel
theorem dX6_sureOnes_20 : decode cX6_sureOnes 20 = .ok (.getfield 43, 3) := by decide +kernel
theorem dX6_sureOnes_23 : decode cX6_sureOnes 23 = .ok (.iand, 1) := by decide +kernel
theorem dX6_sureOnes_24 : decode cX6_sureOnes 24 = .ok (.ifCond .eq 9, 3) := by decide +kernel
theorem dX6_sureOnes_27 : decode cX6_sureOnes 27 = .ok (.iload_n 1, 1) := by decide +kernel
theorem dX6_sureOnes_28 : decode cX6_sureOnes 28 = .ok (.iconst 1, 1) := by decide +kernel
theorem dX6_sureOnes_29 : decode cX6_sureOnes 29 = .ok (.iload_n 2, 1) := by decide +kernel
theorem dX6_sureOnes_30 : decode cX6_sureOnes 30 = .ok (.ishl, 1) := by decide +kernel
theorem dX6_sureOnes_31 : decode cX6_sureOnes 31 = .ok (.ior, 1) := by decide +kernel
theorem dX6_sureOnes_32 : decode cX6_sureOnes 32 = .ok (.istore_n 1, 1) := by decide +kernel
theorem dX6_sureOnes_33 : decode cX6_sureOnes 33 = .ok (.iinc 2 1, 3) := by decide +kernel
theorem dX6_sureOnes_36 : decode cX6_sureOnes 36 = .ok (.goto (-29), 3) := by decide +kernel
theorem dX6_sureOnes_39 : decode cX6_sureOnes 39 = .ok (.iload_n 1, 1) := by decide +kernel
theorem dX6_sureOnes_40 : decode cX6_sureOnes 40 = .ok (.ireturn, 1) := by decide +kernel
set_option maxRecDepth 20000 in
theorem ggX6_neverOnes_X8_has : GoodIn wsX6_neverOnes wsX8_has := goodIn_r _ [6] (by decide +kernel) (by decide +kernel)
set_option maxRecDepth 20000 in
theorem gX6_neverOnes_X8_has_n68 : GoodIn wsX6_neverOnes (wsX8_has) := ggX6_neverOnes_X8_has
theorem dX6_neverOnes_0 : decode cX6_neverOnes 0 = .ok (.iconst 0, 1) := by decide +kernel
theorem dX6_neverOnes_1 : decode cX6_neverOnes 1 = .ok (.istore_n 1, 1) := by decide +kernel
theorem dX6_neverOnes_2 : decode cX6_neverOnes 2 = .ok (.iconst 0, 1) := by decide +kernel
theorem dX6_neverOnes_3 : decode cX6_neverOnes 3 = .ok (.istore_n 2, 1) := by decide +kernel
theorem dX6_neverOnes_4 : decode cX6_neverOnes 4 = .ok (.iload_n 2, 1) := by decide +kernel
theorem dX6_neverOnes_5 : decode cX6_neverOnes 5 = .ok (.bipush 20, 2) := by decide +kernel
theorem dX6_neverOnes_7 : decode cX6_neverOnes 7 = .ok (.if_icmp .ge 42, 3) := by decide +kernel
theorem dX6_neverOnes_10 : decode cX6_neverOnes 10 = .ok (.aload_n 0, 1) := by decide +kernel
theorem dX6_neverOnes_11 : decode cX6_neverOnes 11 = .ok (.getfield 33, 3) := by decide +kernel
theorem dX6_neverOnes_14 : decode cX6_neverOnes 14 = .ok (.iload_n 2, 1) := by decide +kernel
theorem dX6_neverOnes_15 : decode cX6_neverOnes 15 = .ok (.invokestatic 68, 3) := by decide +kernel
theorem dX6_neverOnes_18 : decode cX6_neverOnes 18 = .ok (.ifCond .ne 25, 3) := by decide +kernel
theorem dX6_neverOnes_21 : decode cX6_neverOnes 21 = .ok (.aload_n 0, 1) := by decide +kernel
theorem dX6_neverOnes_22 : decode cX6_neverOnes 22 = .ok (.getfield 18, 3) := by decide +kernel
theorem dX6_neverOnes_25 : decode cX6_neverOnes 25 = .ok (.iload_n 2, 1) := by decide +kernel
theorem dX6_neverOnes_26 : decode cX6_neverOnes 26 = .ok (.iaload, 1) := by decide +kernel
theorem dX6_neverOnes_27 : decode cX6_neverOnes 27 = .ok (.aload_n 0, 1) := by decide +kernel
theorem dX6_neverOnes_28 : decode cX6_neverOnes 28 = .ok (.getfield 46, 3) := by decide +kernel
theorem dX6_neverOnes_31 : decode cX6_neverOnes 31 = .ok (.iconst (-1), 1) := by decide +kernel
theorem dX6_neverOnes_32 : decode cX6_neverOnes 32 = .ok (.ixor, 1) := by decide +kernel
theorem dX6_neverOnes_33 : decode cX6_neverOnes 33 = .ok (.iand, 1) := by decide +kernel
theorem dX6_neverOnes_34 : decode cX6_neverOnes 34 = .ok (.ifCond .ne 9, 3) := by decide +kernel
theorem dX6_neverOnes_37 : decode cX6_neverOnes 37 = .ok (.iload_n 1, 1) := by decide +kernel
theorem dX6_neverOnes_38 : decode cX6_neverOnes 38 = .ok (.iconst 1, 1) := by decide +kernel
theorem dX6_neverOnes_39 : decode cX6_neverOnes 39 = .ok (.iload_n 2, 1) := by decide +kernel
theorem dX6_neverOnes_40 : decode cX6_neverOnes 40 = .ok (.ishl, 1) := by decide +kernel
theorem dX6_neverOnes_41 : decode cX6_neverOnes 41 = .ok (.ior, 1) := by decide +kernel
theorem dX6_neverOnes_42 : decode cX6_neverOnes 42 = .ok (.istore_n 1, 1) := by decide +kernel
theorem dX6_neverOnes_43 : decode cX6_neverOnes 43 = .ok (.iinc 2 1, 3) := by decide +kernel
theorem dX6_neverOnes_46 : decode cX6_neverOnes 46 = .ok (.goto (-42), 3) := by decide +kernel
theorem dX6_neverOnes_49 : decode cX6_neverOnes 49 = .ok (.iload_n 1, 1) := by decide +kernel
theorem dX6_neverOnes_50 : decode cX6_neverOnes 50 = .ok (.ireturn, 1) := by decide +kernel
set_option maxRecDepth 20000 in
theorem ggX6_likelyOnes_X6_team : GoodIn wsX6_likelyOnes wsX6_team := goodIn_r _ [6, 7, 8, 25, 26, 27, 28, 29, 30, 31, 32, 33, 34, 35, 36] (by decide +kernel) (by decide +kernel)
set_option maxRecDepth 20000 in
theorem gX6_likelyOnes_X6_team : GoodIn wsX6_likelyOnes (wsV RX6 104 RX6 yX6_team wsX6_team) := goodIn_app (goodIn_of _ (by decide +kernel)) ggX6_likelyOnes_X6_team
set_option maxRecDepth 20000 in
theorem ggX6_likelyOnes_X8_otherOf : GoodIn wsX6_likelyOnes wsX8_otherOf := goodIn_r _ [11] (by decide +kernel) (by decide +kernel)
set_option maxRecDepth 20000 in
theorem gX6_likelyOnes_X8_otherOf_n107 : GoodIn wsX6_likelyOnes (wsX8_otherOf) := ggX6_likelyOnes_X8_otherOf
set_option maxRecDepth 20000 in
theorem ggX6_likelyOnes_X8_has : GoodIn wsX6_likelyOnes wsX8_has := goodIn_r _ [13] (by decide +kernel) (by decide +kernel)
set_option maxRecDepth 20000 in
theorem gX6_likelyOnes_X8_has_n68 : GoodIn wsX6_likelyOnes (wsX8_has) := ggX6_likelyOnes_X8_has
set_option maxRecDepth 20000 in
theorem ggX6_likelyOnes_X6_threats : GoodIn wsX6_likelyOnes wsX6_threats := goodIn_r _ [17, 18, 19, 9, 10, 11, 2, 3, 4, 5, 6, 7, 8, 20, 21, 22, 23, 24, 25, 26, 27, 28, 29, 30, 31, 32, 33, 34, 35, 36] (by decide +kernel) (by decide +kernel)
set_option maxRecDepth 20000 in
theorem gX6_likelyOnes_X6_threats : GoodIn wsX6_likelyOnes (wsV RX6 110 RX6 yX6_threats wsX6_threats) := goodIn_app (goodIn_of _ (by decide +kernel)) ggX6_likelyOnes_X6_threats
theorem dX6_likelyOnes_0 : decode cX6_likelyOnes 0 = .ok (.aload_n 0, 1) := by decide +kernel
theorem dX6_likelyOnes_1 : decode cX6_likelyOnes 1 = .ok (.getfield 9, 3) := by decide +kernel
theorem dX6_likelyOnes_4 : decode cX6_likelyOnes 4 = .ok (.iconst 0, 1) := by decide +kernel
theorem dX6_likelyOnes_5 : decode cX6_likelyOnes 5 = .ok (.iaload, 1) := by decide +kernel
theorem dX6_likelyOnes_6 : decode cX6_likelyOnes 6 = .ok (.istore_n 1, 1) := by decide +kernel
theorem dX6_likelyOnes_7 : decode cX6_likelyOnes 7 = .ok (.iconst 0, 1) := by decide +kernel
theorem dX6_likelyOnes_8 : decode cX6_likelyOnes 8 = .ok (.istore_n 2, 1) := by decide +kernel
theorem dX6_likelyOnes_9 : decode cX6_likelyOnes 9 = .ok (.iload_n 2, 1) := by decide +kernel
theorem dX6_likelyOnes_10 : decode cX6_likelyOnes 10 = .ok (.bipush 20, 2) := by decide +kernel
theorem dX6_likelyOnes_12 : decode cX6_likelyOnes 12 = .ok (.if_icmp .ge 47, 3) := by decide +kernel
theorem dX6_likelyOnes_15 : decode cX6_likelyOnes 15 = .ok (.aload_n 0, 1) := by decide +kernel
theorem dX6_likelyOnes_16 : decode cX6_likelyOnes 16 = .ok (.iload_n 2, 1) := by decide +kernel
theorem dX6_likelyOnes_17 : decode cX6_likelyOnes 17 = .ok (.invokevirtual 104, 3) := by decide +kernel
theorem dX6_likelyOnes_20 : decode cX6_likelyOnes 20 = .ok (.ifCond .eq 33, 3) := by decide +kernel
theorem dX6_likelyOnes_23 : decode cX6_likelyOnes 23 = .ok (.aload_n 0, 1) := by decide +kernel
theorem dX6_likelyOnes_24 : decode cX6_likelyOnes 24 = .ok (.getfield 9, 3) := by decide +kernel
theorem dX6_likelyOnes_27 : decode cX6_likelyOnes 27 = .ok (.iconst 1, 1) := by decide +kernel
theorem dX6_likelyOnes_28 : decode cX6_likelyOnes 28 = .ok (.iaload, 1) := by decide +kernel
theorem dX6_likelyOnes_29 : decode cX6_likelyOnes 29 = .ok (.iload_n 2, 1) := by decide +kernel
theorem dX6_likelyOnes_30 : decode cX6_likelyOnes 30 = .ok (.invokestatic 107, 3) := by decide +kernel
theorem dX6_likelyOnes_33 : decode cX6_likelyOnes 33 = .ok (.invokestatic 68, 3) := by decide +kernel
theorem dX6_likelyOnes_36 : decode cX6_likelyOnes 36 = .ok (.ifCond .eq 17, 3) := by decide +kernel
theorem dX6_likelyOnes_39 : decode cX6_likelyOnes 39 = .ok (.aload_n 0, 1) := by decide +kernel
theorem dX6_likelyOnes_40 : decode cX6_likelyOnes 40 = .ok (.iload_n 2, 1) := by decide +kernel
theorem dX6_likelyOnes_41 : decode cX6_likelyOnes 41 = .ok (.invokevirtual 110, 3) := by decide +kernel
theorem dX6_likelyOnes_44 : decode cX6_likelyOnes 44 = .ok (.ifCond .ne 9, 3) := by decide +kernel
theorem dX6_likelyOnes_47 : decode cX6_likelyOnes 47 = .ok (.iload_n 1, 1) := by decide +kernel
theorem dX6_likelyOnes_48 : decode cX6_likelyOnes 48 = .ok (.iconst 1, 1) := by decide +kernel
theorem dX6_likelyOnes_49 : decode cX6_likelyOnes 49 = .ok (.iload_n 2, 1) := by decide +kernel
theorem dX6_likelyOnes_50 : decode cX6_likelyOnes 50 = .ok (.ishl, 1) := by decide +kernel
