theorem dX8_off_43 : decode cX8_off 43 = .ok (.iload_n 1, 1) := by decide +kernel
theorem dX8_off_44 : decode cX8_off 44 = .ok (.iload_n 2, 1) := by decide +kernel
theorem dX8_off_45 : decode cX8_off 45 = .ok (.invokestatic 100, 3) := by decide +kernel
theorem dX8_off_48 : decode cX8_off 48 = .ok (.putfield 120, 3) := by decide +kernel
theorem dX8_off_51 : decode cX8_off 51 = .ok (.aload_n 0, 1) := by decide +kernel
theorem dX8_off_52 : decode cX8_off 52 = .ok (.invokevirtual 104, 3) := by decide +kernel
theorem dX8_off_55 : decode cX8_off 55 = .ok (.iload_n 3, 1) := by decide +kernel
theorem dX8_off_56 : decode cX8_off 56 = .ok (.ireturn, 1) := by decide +kernel
set_option maxRecDepth 20000 in
theorem ggX8_strength_X0_hasRule : GoodIn wsX8_strength wsX0_hasRule := goodIn_r _ [7, 8, 59, 60, 61, 62, 63, 64, 65, 66, 67] (by decide +kernel) (by decide +kernel)
set_option maxRecDepth 20000 in
theorem gX8_strength_X0_hasRule : GoodIn wsX8_strength (wsV RX8 117 RX0 yX0_hasRule wsX0_hasRule) := goodIn_app (goodIn_of _ (by decide +kernel)) ggX8_strength_X0_hasRule
set_option maxRecDepth 20000 in
theorem ggX8_strength_X8_isStrength : GoodIn wsX8_strength wsX8_isStrength := goodIn_r _ [12] (by decide +kernel) (by decide +kernel)
set_option maxRecDepth 20000 in
theorem gX8_strength_X8_isStrength : GoodIn wsX8_strength (va_wsS RX8 107 yX8_isStrength wsX8_isStrength) := goodIn_app (goodIn_of _ (by decide +kernel)) ggX8_strength_X8_isStrength
set_option maxRecDepth 20000 in
theorem ggX8_strength_X8_changed : GoodIn wsX8_strength wsX8_changed := goodIn_r _ [16, 17, 1, 18, 19, 20, 21, 22, 23, 24, 25, 26, 27, 28, 29, 30, 31, 32, 33, 6, 34, 35, 36, 37, 38, 39, 40, 41, 42, 43, 44, 45, 8, 46, 47, 48, 49, 50, 51, 52, 53, 54, 55, 56, 57, 58, 68, 69, 70, 59, 60, 61, 62, 63, 64, 65, 66, 67] (by decide +kernel) (by decide +kernel)
set_option maxRecDepth 20000 in
theorem gX8_strength_X8_changed : GoodIn wsX8_strength (wsV RX8 104 RX8 yX8_changed wsX8_changed) := goodIn_app (goodIn_of _ (by decide +kernel)) ggX8_strength_X8_changed
theorem dX8_strength_0 : decode cX8_strength 0 = .ok (.aload_n 0, 1) := by decide +kernel
theorem dX8_strength_1 : decode cX8_strength 1 = .ok (.getfield 14, 3) := by decide +kernel
theorem dX8_strength_4 : decode cX8_strength 4 = .ok (.iload_n 1, 1) := by decide +kernel
theorem dX8_strength_5 : decode cX8_strength 5 = .ok (.invokevirtual 117, 3) := by decide +kernel
theorem dX8_strength_8 : decode cX8_strength 8 = .ok (.ifCond .eq 10, 3) := by decide +kernel
theorem dX8_strength_11 : decode cX8_strength 11 = .ok (.iload_n 2, 1) := by decide +kernel
theorem dX8_strength_12 : decode cX8_strength 12 = .ok (.invokestatic 107, 3) := by decide +kernel
theorem dX8_strength_15 : decode cX8_strength 15 = .ok (.ifCond .ne 5, 3) := by decide +kernel
theorem dX8_strength_18 : decode cX8_strength 18 = .ok (.iconst (-1), 1) := by decide +kernel
theorem dX8_strength_19 : decode cX8_strength 19 = .ok (.ireturn, 1) := by decide +kernel
theorem dX8_strength_20 : decode cX8_strength 20 = .ok (.aload_n 0, 1) := by decide +kernel
theorem dX8_strength_21 : decode cX8_strength 21 = .ok (.getfield 14, 3) := by decide +kernel
theorem dX8_strength_24 : decode cX8_strength 24 = .ok (.getfield 123, 3) := by decide +kernel
theorem dX8_strength_27 : decode cX8_strength 27 = .ok (.iload_n 1, 1) := by decide +kernel
theorem dX8_strength_28 : decode cX8_strength 28 = .ok (.iaload, 1) := by decide +kernel
theorem dX8_strength_29 : decode cX8_strength 29 = .ok (.istore_n 3, 1) := by decide +kernel
theorem dX8_strength_30 : decode cX8_strength 30 = .ok (.aload_n 0, 1) := by decide +kernel
theorem dX8_strength_31 : decode cX8_strength 31 = .ok (.getfield 14, 3) := by decide +kernel
theorem dX8_strength_34 : decode cX8_strength 34 = .ok (.getfield 123, 3) := by decide +kernel
theorem dX8_strength_37 : decode cX8_strength 37 = .ok (.iload_n 1, 1) := by decide +kernel
theorem dX8_strength_38 : decode cX8_strength 38 = .ok (.iload_n 2, 1) := by decide +kernel
theorem dX8_strength_39 : decode cX8_strength 39 = .ok (.iastore, 1) := by decide +kernel
theorem dX8_strength_40 : decode cX8_strength 40 = .ok (.aload_n 0, 1) := by decide +kernel
theorem dX8_strength_41 : decode cX8_strength 41 = .ok (.invokevirtual 104, 3) := by decide +kernel
theorem dX8_strength_44 : decode cX8_strength 44 = .ok (.iload_n 3, 1) := by decide +kernel
theorem dX8_strength_45 : decode cX8_strength 45 = .ok (.ireturn, 1) := by decide +kernel
set_option maxRecDepth 20000 in
theorem ggX8_over_X0_hasRule : GoodIn wsX8_over wsX0_hasRule := goodIn_r _ [7, 8, 68, 69, 70, 71, 72, 73, 74, 75, 76] (by decide +kernel) (by decide +kernel)
set_option maxRecDepth 20000 in
theorem gX8_over_X0_hasRule : GoodIn wsX8_over (wsV RX8 117 RX0 yX0_hasRule wsX0_hasRule) := goodIn_app (goodIn_of _ (by decide +kernel)) ggX8_over_X0_hasRule
set_option maxRecDepth 20000 in
theorem ggX8_over_X8_isYesOrNo : GoodIn wsX8_over wsX8_isYesOrNo := goodIn_r _ [12] (by decide +kernel) (by decide +kernel)
set_option maxRecDepth 20000 in
theorem gX8_over_X8_isYesOrNo : GoodIn wsX8_over (va_wsS RX8 90 yX8_isYesOrNo wsX8_isYesOrNo) := goodIn_app (goodIn_of _ (by decide +kernel)) ggX8_over_X8_isYesOrNo
set_option maxRecDepth 20000 in
theorem ggX8_over_X8_has : GoodIn wsX8_over wsX8_has := goodIn_r _ [15] (by decide +kernel) (by decide +kernel)
set_option maxRecDepth 20000 in
theorem gX8_over_X8_has : GoodIn wsX8_over (va_wsS RX8 130 yX8_has wsX8_has) := goodIn_app (goodIn_of _ (by decide +kernel)) ggX8_over_X8_has
set_option maxRecDepth 20000 in
theorem ggX8_over_X8_bit : GoodIn wsX8_over wsX8_bit := goodIn_r _ [18] (by decide +kernel) (by decide +kernel)
set_option maxRecDepth 20000 in
theorem gX8_over_X8_bit : GoodIn wsX8_over (va_wsS RX8 96 yX8_bit wsX8_bit) := goodIn_app (goodIn_of _ (by decide +kernel)) ggX8_over_X8_bit
set_option maxRecDepth 20000 in
theorem ggX8_over_X8_withBit : GoodIn wsX8_over wsX8_withBit := goodIn_r _ [21] (by decide +kernel) (by decide +kernel)
set_option maxRecDepth 20000 in
theorem gX8_over_X8_withBit : GoodIn wsX8_over (va_wsS RX8 100 yX8_withBit wsX8_withBit) := goodIn_app (goodIn_of _ (by decide +kernel)) ggX8_over_X8_withBit
set_option maxRecDepth 20000 in
theorem ggX8_over_X8_changed : GoodIn wsX8_over wsX8_changed := goodIn_r _ [25, 26, 1, 27, 28, 29, 30, 31, 32, 33, 34, 35, 36, 37, 38, 39, 40, 41, 42, 6, 43, 44, 45, 46, 47, 48, 49, 50, 51, 52, 53, 54, 8, 55, 56, 57, 58, 59, 60, 61, 62, 63, 64, 65, 66, 67, 77, 78, 79, 68, 69, 70, 71, 72, 73, 74, 75, 76] (by decide +kernel) (by decide +kernel)
set_option maxRecDepth 20000 in
theorem gX8_over_X8_changed : GoodIn wsX8_over (wsV RX8 104 RX8 yX8_changed wsX8_changed) := goodIn_app (goodIn_of _ (by decide +kernel)) ggX8_over_X8_changed
theorem dX8_over_0 : decode cX8_over 0 = .ok (.aload_n 0, 1) := by decide +kernel
theorem dX8_over_1 : decode cX8_over 1 = .ok (.getfield 14, 3) := by decide +kernel
theorem dX8_over_4 : decode cX8_over 4 = .ok (.iload_n 1, 1) := by decide +kernel
theorem dX8_over_5 : decode cX8_over 5 = .ok (.invokevirtual 117, 3) := by decide +kernel
theorem dX8_over_8 : decode cX8_over 8 = .ok (.ifCond .eq 26, 3) := by decide +kernel
theorem dX8_over_11 : decode cX8_over 11 = .ok (.aload_n 0, 1) := by decide +kernel
theorem dX8_over_12 : decode cX8_over 12 = .ok (.getfield 14, 3) := by decide +kernel
theorem dX8_over_15 : decode cX8_over 15 = .ok (.iload_n 2, 1) := by decide +kernel
theorem dX8_over_16 : decode cX8_over 16 = .ok (.invokevirtual 117, 3) := by decide +kernel
theorem dX8_over_19 : decode cX8_over 19 = .ok (.ifCond .eq 15, 3) := by decide +kernel
theorem dX8_over_22 : decode cX8_over 22 = .ok (.iload_n 1, 1) := by decide +kernel
theorem dX8_over_23 : decode cX8_over 23 = .ok (.iload_n 2, 1) := by decide +kernel
theorem dX8_over_24 : decode cX8_over 24 = .ok (.if_icmp .eq 10, 3) := by decide +kernel
theorem dX8_over_27 : decode cX8_over 27 = .ok (.iload_n 3, 1) := by decide +kernel
theorem dX8_over_28 : decode cX8_over 28 = .ok (.invokestatic 90, 3) := by decide +kernel
theorem dX8_over_31 : decode cX8_over 31 = .ok (.ifCond .ne 5, 3) := by decide +kernel
theorem dX8_over_34 : decode cX8_over 34 = .ok (.iconst (-1), 1) := by decide +kernel
theorem dX8_over_35 : decode cX8_over 35 = .ok (.ireturn, 1) := by decide +kernel
theorem dX8_over_36 : decode cX8_over 36 = .ok (.iload_n 3, 1) := by decide +kernel
theorem dX8_over_37 : decode cX8_over 37 = .ok (.iconst 1, 1) := by decide +kernel
theorem dX8_over_38 : decode cX8_over 38 = .ok (.if_icmp .ne 22, 3) := by decide +kernel
theorem dX8_over_41 : decode cX8_over 41 = .ok (.aload_n 0, 1) := by decide +kernel
theorem dX8_over_42 : decode cX8_over 42 = .ok (.getfield 14, 3) := by decide +kernel
theorem dX8_over_45 : decode cX8_over 45 = .ok (.getfield 127, 3) := by decide +kernel
theorem dX8_over_48 : decode cX8_over 48 = .ok (.iload_n 2, 1) := by decide +kernel
theorem dX8_over_49 : decode cX8_over 49 = .ok (.iaload, 1) := by decide +kernel
theorem dX8_over_50 : decode cX8_over 50 = .ok (.iload_n 1, 1) := by decide +kernel
theorem dX8_over_51 : decode cX8_over 51 = .ok (.invokestatic 130, 3) := by decide +kernel
theorem dX8_over_54 : decode cX8_over 54 = .ok (.ifCond .eq 6, 3) := by decide +kernel
theorem dX8_over_57 : decode cX8_over 57 = .ok (.bipush (-5), 2) := by decide +kernel
theorem dX8_over_59 : decode cX8_over 59 = .ok (.ireturn, 1) := by decide +kernel
theorem dX8_over_60 : decode cX8_over 60 = .ok (.aload_n 0, 1) := by decide +kernel
theorem dX8_over_61 : decode cX8_over 61 = .ok (.getfield 14, 3) := by decide +kernel
theorem dX8_over_64 : decode cX8_over 64 = .ok (.getfield 127, 3) := by decide +kernel
theorem dX8_over_67 : decode cX8_over 67 = .ok (.iload_n 1, 1) := by decide +kernel
theorem dX8_over_68 : decode cX8_over 68 = .ok (.iaload, 1) := by decide +kernel
theorem dX8_over_69 : decode cX8_over 69 = .ok (.iload_n 2, 1) := by decide +kernel
theorem dX8_over_70 : decode cX8_over 70 = .ok (.invokestatic 96, 3) := by decide +kernel
theorem dX8_over_73 : decode cX8_over 73 = .ok (.istore 4, 2) := by decide +kernel
theorem dX8_over_75 : decode cX8_over 75 = .ok (.aload_n 0, 1) := by decide +kernel
theorem dX8_over_76 : decode cX8_over 76 = .ok (.getfield 14, 3) := by decide +kernel
theorem dX8_over_79 : decode cX8_over 79 = .ok (.getfield 127, 3) := by decide +kernel
theorem dX8_over_82 : decode cX8_over 82 = .ok (.iload_n 1, 1) := by decide +kernel
theorem dX8_over_83 : decode cX8_over 83 = .ok (.aload_n 0, 1) := by decide +kernel
theorem dX8_over_84 : decode cX8_over 84 = .ok (.getfield 14, 3) := by decide +kernel
theorem dX8_over_87 : decode cX8_over 87 = .ok (.getfield 127, 3) := by decide +kernel
theorem dX8_over_90 : decode cX8_over 90 = .ok (.iload_n 1, 1) := by decide +kernel
theorem dX8_over_91 : decode cX8_over 91 = .ok (.iaload, 1) := by decide +kernel
theorem dX8_over_92 : decode cX8_over 92 = .ok (.iload_n 2, 1) := by decide +kernel
theorem dX8_over_93 : decode cX8_over 93 = .ok (.iload_n 3, 1) := by decide +kernel
theorem dX8_over_94 : decode cX8_over 94 = .ok (.invokestatic 100, 3) := by decide +kernel
theorem dX8_over_97 : decode cX8_over 97 = .ok (.iastore, 1) := by decide +kernel
theorem dX8_over_98 : decode cX8_over 98 = .ok (.aload_n 0, 1) := by decide +kernel
theorem dX8_over_99 : decode cX8_over 99 = .ok (.invokevirtual 104, 3) := by decide +kernel
theorem dX8_over_102 : decode cX8_over 102 = .ok (.iload 4, 2) := by decide +kernel
theorem dX8_over_104 : decode cX8_over 104 = .ok (.ireturn, 1) := by decide +kernel
set_option maxRecDepth 20000 in
theorem ggX8_feed_X7_add : GoodIn wsX8_feed wsX7_add := goodIn_r _ [7, 8, 9, 22, 23, 24, 25, 26, 27, 28, 29, 30, 31] (by decide +kernel) (by decide +kernel)
set_option maxRecDepth 20000 in
theorem gX8_feed_X7_add : GoodIn wsX8_feed (wsV RX8 134 RX7 yX7_add wsX7_add) := goodIn_app (goodIn_of _ (by decide +kernel)) ggX8_feed_X7_add
theorem dX8_feed_0 : decode cX8_feed 0 = .ok (.iload_n 1, 1) := by decide +kernel
theorem dX8_feed_1 : decode cX8_feed 1 = .ok (.iconst 1, 1) := by decide +kernel
theorem dX8_feed_2 : decode cX8_feed 2 = .ok (.if_icmp .lt 9, 3) := by decide +kernel
theorem dX8_feed_5 : decode cX8_feed 5 = .ok (.iload_n 1, 1) := by decide +kernel
theorem dX8_feed_6 : decode cX8_feed 6 = .ok (.bipush 127, 2) := by decide +kernel
theorem dX8_feed_8 : decode cX8_feed 8 = .ok (.if_icmp .le 5, 3) := by decide +kernel
theorem dX8_feed_11 : decode cX8_feed 11 = .ok (.iconst (-1), 1) := by decide +kernel
theorem dX8_feed_12 : decode cX8_feed 12 = .ok (.ireturn, 1) := by decide +kernel
theorem dX8_feed_13 : decode cX8_feed 13 = .ok (.aload_n 0, 1) := by decide +kernel
theorem dX8_feed_14 : decode cX8_feed 14 = .ok (.getfield 51, 3) := by decide +kernel
theorem dX8_feed_17 : decode cX8_feed 17 = .ok (.iload_n 1, 1) := by decide +kernel
theorem dX8_feed_18 : decode cX8_feed 18 = .ok (.invokevirtual 134, 3) := by decide +kernel
theorem dX8_feed_21 : decode cX8_feed 21 = .ok (.ifCond .ne 6, 3) := by decide +kernel
theorem dX8_feed_24 : decode cX8_feed 24 = .ok (.bipush (-3), 2) := by decide +kernel
theorem dX8_feed_26 : decode cX8_feed 26 = .ok (.ireturn, 1) := by decide +kernel
theorem dX8_feed_27 : decode cX8_feed 27 = .ok (.aload_n 0, 1) := by decide +kernel
theorem dX8_feed_28 : decode cX8_feed 28 = .ok (.getfield 51, 3) := by decide +kernel
theorem dX8_feed_31 : decode cX8_feed 31 = .ok (.getfield 136, 3) := by decide +kernel
theorem dX8_feed_34 : decode cX8_feed 34 = .ok (.ireturn, 1) := by decide +kernel
set_option maxRecDepth 20000 in
theorem ggX8_reads_X7_split : GoodIn wsX8_reads wsX7_split := goodIn_r _ [12, 13, 14, 15, 16, 17, 18, 19, 11, 20, 21, 22, 23, 24, 25, 26, 27, 28, 29, 30, 31, 32, 33, 34, 35, 36, 37, 38, 39, 40, 41, 42, 43, 44, 45, 46, 47, 48, 49, 50, 51, 52, 53, 54, 55, 56, 57, 58, 59, 60, 61, 62, 63, 64, 65, 66, 67, 68, 69, 70, 71, 72, 73, 74, 75, 76, 158, 159, 160, 161, 162, 163, 164, 165, 166, 167] (by decide +kernel) (by decide +kernel)
set_option maxRecDepth 20000 in
theorem gX8_reads_X7_split : GoodIn wsX8_reads (wsV RX8 139 RX7 yX7_split wsX7_split) := goodIn_app (goodIn_of _ (by decide +kernel)) ggX8_reads_X7_split
set_option maxRecDepth 20000 in
theorem ggX8_reads_X0_copyFrom : GoodIn wsX8_reads wsX0_copyFrom := goodIn_r _ [81, 82, 83, 84, 85, 86, 87, 88, 89, 90, 91, 92, 93, 94, 168, 169, 170, 171, 172, 173, 174, 175, 176] (by decide +kernel) (by decide +kernel)
set_option maxRecDepth 20000 in
theorem gX8_reads_X0_copyFrom : GoodIn wsX8_reads (wsV RX8 146 RX0 yX0_copyFrom wsX0_copyFrom) := goodIn_app (goodIn_of _ (by decide +kernel)) ggX8_reads_X0_copyFrom
set_option maxRecDepth 20000 in
theorem ggX8_reads_X7_tell : GoodIn wsX8_reads wsX7_tell := goodIn_r _ [98, 30, 31, 50, 99, 100, 101, 11, 102, 103, 104, 41, 105, 106, 107, 108, 109, 110, 111, 112, 113, 80, 114, 93, 115, 116, 117, 118, 91, 119, 120, 121, 122, 63, 64, 123, 124, 125, 126, 82, 87, 88, 89, 90, 158, 159, 160, 161, 162, 163, 164, 165, 166, 167, 168, 169, 170, 171, 172, 173, 174, 175, 176] (by decide +kernel) (by decide +kernel)
set_option maxRecDepth 20000 in
theorem gX8_reads_X7_tell : GoodIn wsX8_reads (wsV RX8 153 RX7 yX7_tell wsX7_tell) := goodIn_app (goodIn_of _ (by decide +kernel)) ggX8_reads_X7_tell
set_option maxRecDepth 20000 in
theorem ggX8_reads_X8_changed : GoodIn wsX8_reads wsX8_changed := goodIn_r _ [130, 131, 5, 132, 133, 134, 135, 136, 137, 138, 139, 140, 141, 142, 143, 144, 145, 78, 79, 80, 81, 82, 83, 84, 85, 86, 87, 88, 89, 90, 91, 92, 93, 94, 146, 147, 148, 149, 150, 151, 152, 153, 154, 155, 156, 157, 177, 178, 179, 168, 169, 170, 171, 172, 173, 174, 175, 176] (by decide +kernel) (by decide +kernel)
set_option maxRecDepth 20000 in
theorem gX8_reads_X8_changed : GoodIn wsX8_reads (wsV RX8 104 RX8 yX8_changed wsX8_changed) := goodIn_app (goodIn_of _ (by decide +kernel)) ggX8_reads_X8_changed
theorem dX8_reads_0 : decode cX8_reads 0 = .ok (.aload_n 0, 1) := by decide +kernel
theorem dX8_reads_1 : decode cX8_reads 1 = .ok (.getfield 51, 3) := by decide +kernel
theorem dX8_reads_4 : decode cX8_reads 4 = .ok (.invokevirtual 139, 3) := by decide +kernel
theorem dX8_reads_7 : decode cX8_reads 7 = .ok (.istore_n 1, 1) := by decide +kernel
theorem dX8_reads_8 : decode cX8_reads 8 = .ok (.aload_n 0, 1) := by decide +kernel
theorem dX8_reads_9 : decode cX8_reads 9 = .ok (.getfield 51, 3) := by decide +kernel
theorem dX8_reads_12 : decode cX8_reads 12 = .ok (.iconst 0, 1) := by decide +kernel
theorem dX8_reads_13 : decode cX8_reads 13 = .ok (.putfield 136, 3) := by decide +kernel
theorem dX8_reads_16 : decode cX8_reads 16 = .ok (.iload_n 1, 1) := by decide +kernel
theorem dX8_reads_17 : decode cX8_reads 17 = .ok (.ifCond .ne 15, 3) := by decide +kernel
theorem dX8_reads_20 : decode cX8_reads 20 = .ok (.sipush (-1000), 3) := by decide +kernel
theorem dX8_reads_23 : decode cX8_reads 23 = .ok (.aload_n 0, 1) := by decide +kernel
theorem dX8_reads_24 : decode cX8_reads 24 = .ok (.getfield 51, 3) := by decide +kernel
theorem dX8_reads_27 : decode cX8_reads 27 = .ok (.getfield 143, 3) := by decide +kernel
theorem dX8_reads_30 : decode cX8_reads 30 = .ok (.isub, 1) := by decide +kernel
theorem dX8_reads_31 : decode cX8_reads 31 = .ok (.ireturn, 1) := by decide +kernel
theorem dX8_reads_32 : decode cX8_reads 32 = .ok (.aload_n 0, 1) := by decide +kernel
theorem dX8_reads_33 : decode cX8_reads 33 = .ok (.getfield 25, 3) := by decide +kernel
theorem dX8_reads_36 : decode cX8_reads 36 = .ok (.aload_n 0, 1) := by decide +kernel
theorem dX8_reads_37 : decode cX8_reads 37 = .ok (.getfield 14, 3) := by decide +kernel
theorem dX8_reads_40 : decode cX8_reads 40 = .ok (.invokevirtual 146, 3) := by decide +kernel
theorem dX8_reads_43 : decode cX8_reads 43 = .ok (.iconst 0, 1) := by decide +kernel
theorem dX8_reads_44 : decode cX8_reads 44 = .ok (.istore_n 2, 1) := by decide +kernel
theorem dX8_reads_45 : decode cX8_reads 45 = .ok (.iload_n 2, 1) := by decide +kernel
theorem dX8_reads_46 : decode cX8_reads 46 = .ok (.aload_n 0, 1) := by decide +kernel
theorem dX8_reads_47 : decode cX8_reads 47 = .ok (.getfield 51, 3) := by decide +kernel
theorem dX8_reads_50 : decode cX8_reads 50 = .ok (.getfield 150, 3) := by decide +kernel
theorem dX8_reads_53 : decode cX8_reads 53 = .ok (.if_icmp .ge 38, 3) := by decide +kernel
theorem dX8_reads_56 : decode cX8_reads 56 = .ok (.aload_n 0, 1) := by decide +kernel
theorem dX8_reads_57 : decode cX8_reads 57 = .ok (.getfield 51, 3) := by decide +kernel
theorem dX8_reads_60 : decode cX8_reads 60 = .ok (.iload_n 2, 1) := by decide +kernel
theorem dX8_reads_61 : decode cX8_reads 61 = .ok (.aload_n 0, 1) := by decide +kernel
theorem dX8_reads_62 : decode cX8_reads 62 = .ok (.getfield 25, 3) := by decide +kernel
theorem dX8_reads_65 : decode cX8_reads 65 = .ok (.invokevirtual 153, 3) := by decide +kernel
theorem dX8_reads_68 : decode cX8_reads 68 = .ok (.ifCond .ne 17, 3) := by decide +kernel
theorem dX8_reads_71 : decode cX8_reads 71 = .ok (.sipush (-2000), 3) := by decide +kernel
theorem dX8_reads_74 : decode cX8_reads 74 = .ok (.aload_n 0, 1) := by decide +kernel
theorem dX8_reads_75 : decode cX8_reads 75 = .ok (.getfield 51, 3) := by decide +kernel
theorem dX8_reads_78 : decode cX8_reads 78 = .ok (.getfield 157, 3) := by decide +kernel
theorem dX8_reads_81 : decode cX8_reads 81 = .ok (.iload_n 2, 1) := by decide +kernel
theorem dX8_reads_82 : decode cX8_reads 82 = .ok (.iaload, 1) := by decide +kernel
theorem dX8_reads_83 : decode cX8_reads 83 = .ok (.isub, 1) := by decide +kernel
theorem dX8_reads_84 : decode cX8_reads 84 = .ok (.ireturn, 1) := by decide +kernel
theorem dX8_reads_85 : decode cX8_reads 85 = .ok (.iinc 2 1, 3) := by decide +kernel
theorem dX8_reads_88 : decode cX8_reads 88 = .ok (.goto (-43), 3) := by decide +kernel
theorem dX8_reads_91 : decode cX8_reads 91 = .ok (.iconst 0, 1) := by decide +kernel
theorem dX8_reads_92 : decode cX8_reads 92 = .ok (.istore_n 2, 1) := by decide +kernel
theorem dX8_reads_93 : decode cX8_reads 93 = .ok (.iload_n 2, 1) := by decide +kernel
theorem dX8_reads_94 : decode cX8_reads 94 = .ok (.aload_n 0, 1) := by decide +kernel
theorem dX8_reads_95 : decode cX8_reads 95 = .ok (.getfield 51, 3) := by decide +kernel
theorem dX8_reads_98 : decode cX8_reads 98 = .ok (.getfield 150, 3) := by decide +kernel
theorem dX8_reads_101 : decode cX8_reads 101 = .ok (.if_icmp .ge 26, 3) := by decide +kernel
theorem dX8_reads_104 : decode cX8_reads 104 = .ok (.aload_n 0, 1) := by decide +kernel
theorem dX8_reads_105 : decode cX8_reads 105 = .ok (.getfield 51, 3) := by decide +kernel
theorem dX8_reads_108 : decode cX8_reads 108 = .ok (.iload_n 2, 1) := by decide +kernel
theorem dX8_reads_109 : decode cX8_reads 109 = .ok (.aload_n 0, 1) := by decide +kernel
theorem dX8_reads_110 : decode cX8_reads 110 = .ok (.getfield 14, 3) := by decide +kernel
theorem dX8_reads_113 : decode cX8_reads 113 = .ok (.invokevirtual 153, 3) := by decide +kernel
theorem dX8_reads_116 : decode cX8_reads 116 = .ok (.pop, 1) := by decide +kernel
theorem dX8_reads_117 : decode cX8_reads 117 = .ok (.aload_n 0, 1) := by decide +kernel
theorem dX8_reads_118 : decode cX8_reads 118 = .ok (.invokevirtual 104, 3) := by decide +kernel
theorem dX8_reads_121 : decode cX8_reads 121 = .ok (.iinc 2 1, 3) := by decide +kernel
theorem dX8_reads_124 : decode cX8_reads 124 = .ok (.goto (-31), 3) := by decide +kernel
theorem dX8_reads_127 : decode cX8_reads 127 = .ok (.aload_n 0, 1) := by decide +kernel
theorem dX8_reads_128 : decode cX8_reads 128 = .ok (.getfield 51, 3) := by decide +kernel
theorem dX8_reads_131 : decode cX8_reads 131 = .ok (.getfield 150, 3) := by decide +kernel
theorem dX8_reads_134 : decode cX8_reads 134 = .ok (.ireturn, 1) := by decide +kernel
set_option maxRecDepth 20000 in
theorem ggX8_ruleOf_X0_hasRule : GoodIn wsX8_ruleOf wsX0_hasRule := goodIn_r _ [13, 14, 43, 44, 45, 46, 47, 48, 49, 50, 51] (by decide +kernel) (by decide +kernel)
set_option maxRecDepth 20000 in
theorem gX8_ruleOf_X0_hasRule : GoodIn wsX8_ruleOf (wsV RX8 117 RX0 yX0_hasRule wsX0_hasRule) := goodIn_app (goodIn_of _ (by decide +kernel)) ggX8_ruleOf_X0_hasRule
set_option maxRecDepth 20000 in
theorem ggX8_ruleOf_X8_bit : GoodIn wsX8_ruleOf wsX8_bit := goodIn_r _ [18] (by decide +kernel) (by decide +kernel)
set_option maxRecDepth 20000 in
theorem gX8_ruleOf_X8_bit : GoodIn wsX8_ruleOf (va_wsS RX8 96 yX8_bit wsX8_bit) := goodIn_app (goodIn_of _ (by decide +kernel)) ggX8_ruleOf_X8_bit
set_option maxRecDepth 20000 in
theorem ggX8_ruleOf_X0_rulesBelow : GoodIn wsX8_ruleOf wsX0_rulesBelow := goodIn_r _ [22, 23, 14, 24, 25, 26, 27, 12, 28, 29, 17, 30, 43, 44, 45, 46, 47, 48, 49, 50, 51] (by decide +kernel) (by decide +kernel)
set_option maxRecDepth 20000 in
theorem gX8_ruleOf_X0_rulesBelow : GoodIn wsX8_ruleOf (wsV RX8 172 RX0 yX0_rulesBelow wsX0_rulesBelow) := goodIn_app (goodIn_of _ (by decide +kernel)) ggX8_ruleOf_X0_rulesBelow
theorem dX8_ruleOf_0 : decode cX8_ruleOf 0 = .ok (.aload_n 0, 1) := by decide +kernel
theorem dX8_ruleOf_1 : decode cX8_ruleOf 1 = .ok (.getfield 14, 3) := by decide +kernel
theorem dX8_ruleOf_4 : decode cX8_ruleOf 4 = .ok (.iload_n 1, 1) := by decide +kernel
theorem dX8_ruleOf_5 : decode cX8_ruleOf 5 = .ok (.invokevirtual 117, 3) := by decide +kernel
theorem dX8_ruleOf_8 : decode cX8_ruleOf 8 = .ok (.ifCond .ne 5, 3) := by decide +kernel
theorem dX8_ruleOf_11 : decode cX8_ruleOf 11 = .ok (.iconst (-1), 1) := by decide +kernel
theorem dX8_ruleOf_12 : decode cX8_ruleOf 12 = .ok (.ireturn, 1) := by decide +kernel
theorem dX8_ruleOf_13 : decode cX8_ruleOf 13 = .ok (.iload_n 2, 1) := by decide +kernel
theorem dX8_ruleOf_14 : decode cX8_ruleOf 14 = .ok (.tableswitch 127 0 7 #[46, 56, 66, 76, 86, 96, 108, 118], 46) := by decide +kernel
theorem dX8_ruleOf_60 : decode cX8_ruleOf 60 = .ok (.aload_n 0, 1) := by decide +kernel
theorem dX8_ruleOf_61 : decode cX8_ruleOf 61 = .ok (.getfield 14, 3) := by decide +kernel
theorem dX8_ruleOf_64 : decode cX8_ruleOf 64 = .ok (.getfield 160, 3) := by decide +kernel
theorem dX8_ruleOf_67 : decode cX8_ruleOf 67 = .ok (.iload_n 1, 1) := by decide +kernel
theorem dX8_ruleOf_68 : decode cX8_ruleOf 68 = .ok (.iaload, 1) := by decide +kernel
theorem dX8_ruleOf_69 : decode cX8_ruleOf 69 = .ok (.ireturn, 1) := by decide +kernel
theorem dX8_ruleOf_70 : decode cX8_ruleOf 70 = .ok (.aload_n 0, 1) := by decide +kernel
theorem dX8_ruleOf_71 : decode cX8_ruleOf 71 = .ok (.getfield 14, 3) := by decide +kernel
theorem dX8_ruleOf_74 : decode cX8_ruleOf 74 = .ok (.getfield 163, 3) := by decide +kernel
theorem dX8_ruleOf_77 : decode cX8_ruleOf 77 = .ok (.iload_n 1, 1) := by decide +kernel
theorem dX8_ruleOf_78 : decode cX8_ruleOf 78 = .ok (.iaload, 1) := by decide +kernel
theorem dX8_ruleOf_79 : decode cX8_ruleOf 79 = .ok (.ireturn, 1) := by decide +kernel
theorem dX8_ruleOf_80 : decode cX8_ruleOf 80 = .ok (.aload_n 0, 1) := by decide +kernel
theorem dX8_ruleOf_81 : decode cX8_ruleOf 81 = .ok (.getfield 14, 3) := by decide +kernel
theorem dX8_ruleOf_84 : decode cX8_ruleOf 84 = .ok (.getfield 166, 3) := by decide +kernel
theorem dX8_ruleOf_87 : decode cX8_ruleOf 87 = .ok (.iload_n 1, 1) := by decide +kernel
theorem dX8_ruleOf_88 : decode cX8_ruleOf 88 = .ok (.iaload, 1) := by decide +kernel
theorem dX8_ruleOf_89 : decode cX8_ruleOf 89 = .ok (.ireturn, 1) := by decide +kernel
theorem dX8_ruleOf_90 : decode cX8_ruleOf 90 = .ok (.aload_n 0, 1) := by decide +kernel
theorem dX8_ruleOf_91 : decode cX8_ruleOf 91 = .ok (.getfield 14, 3) := by decide +kernel
theorem dX8_ruleOf_94 : decode cX8_ruleOf 94 = .ok (.getfield 169, 3) := by decide +kernel
theorem dX8_ruleOf_97 : decode cX8_ruleOf 97 = .ok (.iload_n 1, 1) := by decide +kernel
theorem dX8_ruleOf_98 : decode cX8_ruleOf 98 = .ok (.iaload, 1) := by decide +kernel
theorem dX8_ruleOf_99 : decode cX8_ruleOf 99 = .ok (.ireturn, 1) := by decide +kernel
theorem dX8_ruleOf_100 : decode cX8_ruleOf 100 = .ok (.aload_n 0, 1) := by decide +kernel
theorem dX8_ruleOf_101 : decode cX8_ruleOf 101 = .ok (.getfield 14, 3) := by decide +kernel
theorem dX8_ruleOf_104 : decode cX8_ruleOf 104 = .ok (.getfield 123, 3) := by decide +kernel
theorem dX8_ruleOf_107 : decode cX8_ruleOf 107 = .ok (.iload_n 1, 1) := by decide +kernel
theorem dX8_ruleOf_108 : decode cX8_ruleOf 108 = .ok (.iaload, 1) := by decide +kernel
theorem dX8_ruleOf_109 : decode cX8_ruleOf 109 = .ok (.ireturn, 1) := by decide +kernel
theorem dX8_ruleOf_110 : decode cX8_ruleOf 110 = .ok (.aload_n 0, 1) := by decide +kernel
theorem dX8_ruleOf_111 : decode cX8_ruleOf 111 = .ok (.getfield 14, 3) := by decide +kernel
theorem dX8_ruleOf_114 : decode cX8_ruleOf 114 = .ok (.getfield 120, 3) := by decide +kernel
theorem dX8_ruleOf_117 : decode cX8_ruleOf 117 = .ok (.iload_n 1, 1) := by decide +kernel
theorem dX8_ruleOf_118 : decode cX8_ruleOf 118 = .ok (.invokestatic 96, 3) := by decide +kernel
theorem dX8_ruleOf_121 : decode cX8_ruleOf 121 = .ok (.ireturn, 1) := by decide +kernel
theorem dX8_ruleOf_122 : decode cX8_ruleOf 122 = .ok (.aload_n 0, 1) := by decide +kernel
theorem dX8_ruleOf_123 : decode cX8_ruleOf 123 = .ok (.getfield 14, 3) := by decide +kernel
theorem dX8_ruleOf_126 : decode cX8_ruleOf 126 = .ok (.getfield 127, 3) := by decide +kernel
theorem dX8_ruleOf_129 : decode cX8_ruleOf 129 = .ok (.iload_n 1, 1) := by decide +kernel
theorem dX8_ruleOf_130 : decode cX8_ruleOf 130 = .ok (.iaload, 1) := by decide +kernel
theorem dX8_ruleOf_131 : decode cX8_ruleOf 131 = .ok (.ireturn, 1) := by decide +kernel
theorem dX8_ruleOf_132 : decode cX8_ruleOf 132 = .ok (.aload_n 0, 1) := by decide +kernel
theorem dX8_ruleOf_133 : decode cX8_ruleOf 133 = .ok (.getfield 14, 3) := by decide +kernel
theorem dX8_ruleOf_136 : decode cX8_ruleOf 136 = .ok (.iload_n 1, 1) := by decide +kernel
theorem dX8_ruleOf_137 : decode cX8_ruleOf 137 = .ok (.invokevirtual 172, 3) := by decide +kernel
theorem dX8_ruleOf_140 : decode cX8_ruleOf 140 = .ok (.ireturn, 1) := by decide +kernel
theorem dX8_ruleOf_141 : decode cX8_ruleOf 141 = .ok (.iconst (-1), 1) := by decide +kernel
theorem dX8_ruleOf_142 : decode cX8_ruleOf 142 = .ok (.ireturn, 1) := by decide +kernel
set_option maxRecDepth 20000 in
theorem ggX8_rulesFor_X8_isLiteral : GoodIn wsX8_rulesFor wsX8_isLiteral := goodIn_r _ [6] (by decide +kernel) (by decide +kernel)
set_option maxRecDepth 20000 in
theorem gX8_rulesFor_X8_isLiteral : GoodIn wsX8_rulesFor (va_wsS RX8 86 yX8_isLiteral wsX8_isLiteral) := goodIn_app (goodIn_of _ (by decide +kernel)) ggX8_rulesFor_X8_isLiteral
set_option maxRecDepth 20000 in
theorem ggX8_rulesFor_X8_settled : GoodIn wsX8_rulesFor wsX8_settled := goodIn_r _ [10, 11, 12, 13, 14, 15, 16, 17, 18, 19, 20, 21, 22, 23, 24, 25, 26, 27, 28, 29, 30, 31, 32, 33, 34, 35, 36, 37, 38, 39, 40, 41, 42, 43, 44, 45, 46, 47, 48, 49, 50, 51, 52, 53, 54, 55, 5, 56, 57, 58, 59, 60, 61, 62, 63, 64, 65, 66, 67, 68, 69, 70, 71, 72, 73, 74, 75, 76, 77, 78, 79, 80, 81, 82, 83, 84, 85, 86, 87, 88, 89, 90, 91, 92, 93, 94, 95, 96, 97, 98, 99, 100, 101, 102, 103, 104, 105, 106, 107, 108, 109, 110, 111, 112, 113, 114, 115, 116, 117, 118, 119, 120, 121, 122, 123, 139, 140, 141, 142, 143, 144, 145, 146, 147, 148, 149, 150, 124, 125, 126, 127, 128, 129, 130, 131, 132, 133, 134, 135, 136, 137, 138, 151, 152, 153, 154, 155, 156, 157, 158, 159] (by decide +kernel) (by decide +kernel)
set_option maxRecDepth 20000 in
theorem gX8_rulesFor_X8_settled : GoodIn wsX8_rulesFor (wsV RX8 176 RX8 yX8_settled wsX8_settled) := goodIn_app (goodIn_of _ (by decide +kernel)) ggX8_rulesFor_X8_settled
theorem dX8_rulesFor_0 : decode cX8_rulesFor 0 = .ok (.iload_n 1, 1) := by decide +kernel
theorem dX8_rulesFor_1 : decode cX8_rulesFor 1 = .ok (.invokestatic 86, 3) := by decide +kernel
theorem dX8_rulesFor_4 : decode cX8_rulesFor 4 = .ok (.ifCond .ne 5, 3) := by decide +kernel
theorem dX8_rulesFor_7 : decode cX8_rulesFor 7 = .ok (.iconst (-1), 1) := by decide +kernel
theorem dX8_rulesFor_8 : decode cX8_rulesFor 8 = .ok (.ireturn, 1) := by decide +kernel
theorem dX8_rulesFor_9 : decode cX8_rulesFor 9 = .ok (.aload_n 0, 1) := by decide +kernel
theorem dX8_rulesFor_10 : decode cX8_rulesFor 10 = .ok (.invokevirtual 176, 3) := by decide +kernel
theorem dX8_rulesFor_13 : decode cX8_rulesFor 13 = .ok (.getfield 180, 3) := by decide +kernel
theorem dX8_rulesFor_16 : decode cX8_rulesFor 16 = .ok (.getfield 184, 3) := by decide +kernel
theorem dX8_rulesFor_19 : decode cX8_rulesFor 19 = .ok (.iload_n 1, 1) := by decide +kernel
theorem dX8_rulesFor_20 : decode cX8_rulesFor 20 = .ok (.iaload, 1) := by decide +kernel
theorem dX8_rulesFor_21 : decode cX8_rulesFor 21 = .ok (.ireturn, 1) := by decide +kernel
set_option maxRecDepth 20000 in
theorem ggX8_count_X8_settled : GoodIn wsX8_count wsX8_settled := goodIn_r _ [17, 18, 19, 1, 20, 21, 22, 23, 24, 25, 26, 27, 28, 29, 30, 31, 32, 33, 34, 35, 36, 37, 38, 39, 40, 41, 42, 43, 44, 45, 46, 47, 48, 49, 50, 51, 52, 53, 54, 55, 56, 57, 58, 59, 60, 61, 16, 62, 63, 64, 65, 66, 67, 68, 69, 70, 71, 72, 73, 74, 75, 76, 77, 78, 79, 80, 81, 82, 83, 84, 85, 86, 87, 88, 89, 90, 91, 92, 93, 94, 95, 96, 97, 98, 99, 100, 101, 102, 103, 104, 105, 106, 107, 108, 109, 110, 111, 112, 113, 114, 115, 116, 117, 118, 119, 120, 121, 122, 123, 124, 125, 126, 127, 128, 129, 164, 165, 166, 167, 168, 169, 170, 171, 172, 173, 174, 175, 185, 186, 187, 203, 204, 205, 206, 207, 208, 209, 210, 211, 212, 213, 214, 176, 177, 178, 179, 180, 181, 182, 183, 184] (by decide +kernel) (by decide +kernel)
set_option maxRecDepth 20000 in
theorem gX8_count_X8_settled : GoodIn wsX8_count (wsV RX8 176 RX8 yX8_settled wsX8_settled) := goodIn_app (goodIn_of _ (by decide +kernel)) ggX8_count_X8_settled
set_option maxRecDepth 20000 in
theorem ggX8_count_X6_circles : GoodIn wsX8_count wsX6_circles := goodIn_r _ [133, 41, 134, 135, 136, 137, 138, 61, 16, 62, 203, 204, 205, 206, 207, 208, 209, 210, 211, 212, 213, 214] (by decide +kernel) (by decide +kernel)
set_option maxRecDepth 20000 in
theorem gX8_count_X6_circles : GoodIn wsX8_count (wsV RX8 189 RX6 yX6_circles wsX6_circles) := goodIn_app (goodIn_of _ (by decide +kernel)) ggX8_count_X6_circles
set_option maxRecDepth 20000 in
theorem ggX8_count_X6_missing : GoodIn wsX8_count wsX6_missing := goodIn_r _ [142, 143, 37, 203, 204, 205, 206, 207, 208, 209, 210, 211, 212, 213, 214] (by decide +kernel) (by decide +kernel)
set_option maxRecDepth 20000 in
theorem gX8_count_X6_missing : GoodIn wsX8_count (wsV RX8 193 RX6 yX6_missing wsX6_missing) := goodIn_app (goodIn_of _ (by decide +kernel)) ggX8_count_X6_missing
set_option maxRecDepth 20000 in
theorem ggX8_count_X6_likelyBothWays : GoodIn wsX8_count wsX6_likelyBothWays := goodIn_r _ [147, 37, 203, 204, 205, 206, 207, 208, 209, 210, 211, 212, 213, 214] (by decide +kernel) (by decide +kernel)
set_option maxRecDepth 20000 in
theorem gX8_count_X6_likelyBothWays : GoodIn wsX8_count (wsV RX8 196 RX6 yX6_likelyBothWays wsX6_likelyBothWays) := goodIn_app (goodIn_of _ (by decide +kernel)) ggX8_count_X6_likelyBothWays
set_option maxRecDepth 20000 in
theorem ggX8_count_X0_pairs : GoodIn wsX8_count wsX0_pairs := goodIn_r _ [151, 55, 54, 152, 153, 154, 155, 156, 157, 158, 176, 177, 178, 179, 180, 181, 182, 183, 184] (by decide +kernel) (by decide +kernel)
set_option maxRecDepth 20000 in
theorem gX8_count_X0_pairs : GoodIn wsX8_count (wsV RX8 199 RX0 yX0_pairs wsX0_pairs) := goodIn_app (goodIn_of _ (by decide +kernel)) ggX8_count_X0_pairs
set_option maxRecDepth 20000 in
theorem ggX8_count_X4_howMany : GoodIn wsX8_count wsX4_howMany := goodIn_r _ [162, 27, 129, 163, 153, 154, 155, 156, 157, 158, 185, 186, 187, 203, 204, 205, 206, 207, 208, 209, 210, 211, 212, 213, 214] (by decide +kernel) (by decide +kernel)
set_option maxRecDepth 20000 in
theorem gX8_count_X4_howMany : GoodIn wsX8_count (wsV RX8 202 RX4 yX4_howMany wsX4_howMany) := goodIn_app (goodIn_of _ (by decide +kernel)) ggX8_count_X4_howMany
theorem dX8_count_0 : decode cX8_count 0 = .ok (.iload_n 1, 1) := by decide +kernel
theorem dX8_count_1 : decode cX8_count 1 = .ok (.tableswitch 168 0 11 #[63, 71, 82, 93, 104, 112, 120, 128, 136, 144, 152, 160], 63) := by decide +kernel
theorem dX8_count_64 : decode cX8_count 64 = .ok (.aload_n 0, 1) := by decide +kernel
theorem dX8_count_65 : decode cX8_count 65 = .ok (.getfield 14, 3) := by decide +kernel
theorem dX8_count_68 : decode cX8_count 68 = .ok (.getfield 93, 3) := by decide +kernel
theorem dX8_count_71 : decode cX8_count 71 = .ok (.ireturn, 1) := by decide +kernel
theorem dX8_count_72 : decode cX8_count 72 = .ok (.aload_n 0, 1) := by decide +kernel
theorem dX8_count_73 : decode cX8_count 73 = .ok (.invokevirtual 176, 3) := by decide +kernel
theorem dX8_count_76 : decode cX8_count 76 = .ok (.getfield 180, 3) := by decide +kernel
theorem dX8_count_79 : decode cX8_count 79 = .ok (.invokevirtual 189, 3) := by decide +kernel
theorem dX8_count_82 : decode cX8_count 82 = .ok (.ireturn, 1) := by decide +kernel
theorem dX8_count_83 : decode cX8_count 83 = .ok (.aload_n 0, 1) := by decide +kernel
theorem dX8_count_84 : decode cX8_count 84 = .ok (.invokevirtual 176, 3) := by decide +kernel
theorem dX8_count_87 : decode cX8_count 87 = .ok (.getfield 180, 3) := by decide +kernel
theorem dX8_count_90 : decode cX8_count 90 = .ok (.invokevirtual 193, 3) := by decide +kernel
theorem dX8_count_93 : decode cX8_count 93 = .ok (.ireturn, 1) := by decide +kernel
theorem dX8_count_94 : decode cX8_count 94 = .ok (.aload_n 0, 1) := by decide +kernel
theorem dX8_count_95 : decode cX8_count 95 = .ok (.invokevirtual 176, 3) := by decide +kernel
theorem dX8_count_98 : decode cX8_count 98 = .ok (.getfield 180, 3) := by decide +kernel
theorem dX8_count_101 : decode cX8_count 101 = .ok (.invokevirtual 196, 3) := by decide +kernel
theorem dX8_count_104 : decode cX8_count 104 = .ok (.ireturn, 1) := by decide +kernel
theorem dX8_count_105 : decode cX8_count 105 = .ok (.aload_n 0, 1) := by decide +kernel
theorem dX8_count_106 : decode cX8_count 106 = .ok (.getfield 14, 3) := by decide +kernel
theorem dX8_count_109 : decode cX8_count 109 = .ok (.getfield 76, 3) := by decide +kernel
theorem dX8_count_112 : decode cX8_count 112 = .ok (.ireturn, 1) := by decide +kernel
theorem dX8_count_113 : decode cX8_count 113 = .ok (.aload_n 0, 1) := by decide +kernel
theorem dX8_count_114 : decode cX8_count 114 = .ok (.getfield 14, 3) := by decide +kernel
theorem dX8_count_117 : decode cX8_count 117 = .ok (.invokevirtual 199, 3) := by decide +kernel
theorem dX8_count_120 : decode cX8_count 120 = .ok (.ireturn, 1) := by decide +kernel
theorem dX8_count_121 : decode cX8_count 121 = .ok (.aload_n 0, 1) := by decide +kernel
theorem dX8_count_122 : decode cX8_count 122 = .ok (.invokevirtual 176, 3) := by decide +kernel
theorem dX8_count_125 : decode cX8_count 125 = .ok (.invokevirtual 202, 3) := by decide +kernel
theorem dX8_count_128 : decode cX8_count 128 = .ok (.ireturn, 1) := by decide +kernel
theorem dX8_count_129 : decode cX8_count 129 = .ok (.aload_n 0, 1) := by decide +kernel
theorem dX8_count_130 : decode cX8_count 130 = .ok (.invokevirtual 176, 3) := by decide +kernel
theorem dX8_count_133 : decode cX8_count 133 = .ok (.getfield 205, 3) := by decide +kernel
theorem dX8_count_136 : decode cX8_count 136 = .ok (.ireturn, 1) := by decide +kernel
theorem dX8_count_137 : decode cX8_count 137 = .ok (.aload_n 0, 1) := by decide +kernel
theorem dX8_count_138 : decode cX8_count 138 = .ok (.getfield 41, 3) := by decide +kernel
theorem dX8_count_141 : decode cX8_count 141 = .ok (.getfield 208, 3) := by decide +kernel
theorem dX8_count_144 : decode cX8_count 144 = .ok (.ireturn, 1) := by decide +kernel
theorem dX8_count_145 : decode cX8_count 145 = .ok (.aload_n 0, 1) := by decide +kernel
theorem dX8_count_146 : decode cX8_count 146 = .ok (.getfield 41, 3) := by decide +kernel
theorem dX8_count_149 : decode cX8_count 149 = .ok (.getfield 211, 3) := by decide +kernel
theorem dX8_count_152 : decode cX8_count 152 = .ok (.ireturn, 1) := by decide +kernel
theorem dX8_count_153 : decode cX8_count 153 = .ok (.aload_n 0, 1) := by decide +kernel
theorem dX8_count_154 : decode cX8_count 154 = .ok (.getfield 51, 3) := by decide +kernel
theorem dX8_count_157 : decode cX8_count 157 = .ok (.getfield 136, 3) := by decide +kernel
theorem dX8_count_160 : decode cX8_count 160 = .ok (.ireturn, 1) := by decide +kernel
theorem dX8_count_161 : decode cX8_count 161 = .ok (.aload_n 0, 1) := by decide +kernel
theorem dX8_count_162 : decode cX8_count 162 = .ok (.getfield 58, 3) := by decide +kernel
theorem dX8_count_165 : decode cX8_count 165 = .ok (.getfield 214, 3) := by decide +kernel
theorem dX8_count_168 : decode cX8_count 168 = .ok (.ireturn, 1) := by decide +kernel
theorem dX8_count_169 : decode cX8_count 169 = .ok (.iconst (-1), 1) := by decide +kernel
theorem dX8_count_170 : decode cX8_count 170 = .ok (.ireturn, 1) := by decide +kernel
set_option maxRecDepth 20000 in
theorem ggX8_tag_X8_isLiteral : GoodIn wsX8_tag wsX8_isLiteral := goodIn_r _ [4] (by decide +kernel) (by decide +kernel)
set_option maxRecDepth 20000 in
theorem gX8_tag_X8_isLiteral : GoodIn wsX8_tag (va_wsS RX8 86 yX8_isLiteral wsX8_isLiteral) := goodIn_app (goodIn_of _ (by decide +kernel)) ggX8_tag_X8_isLiteral
set_option maxRecDepth 20000 in
theorem ggX8_tag_X8_isTag : GoodIn wsX8_tag wsX8_isTag := goodIn_r _ [7] (by decide +kernel) (by decide +kernel)
set_option maxRecDepth 20000 in
theorem gX8_tag_X8_isTag : GoodIn wsX8_tag (va_wsS RX8 215 yX8_isTag wsX8_isTag) := goodIn_app (goodIn_of _ (by decide +kernel)) ggX8_tag_X8_isTag
set_option maxRecDepth 20000 in
theorem ggX8_tag_X8_settled : GoodIn wsX8_tag wsX8_settled := goodIn_r _ [11, 12, 13, 14, 15, 16, 17, 18, 19, 20, 21, 22, 23, 24, 25, 26, 27, 28, 29, 30, 31, 32, 33, 34, 35, 36, 37, 38, 39, 40, 41, 42, 43, 44, 45, 46, 47, 48, 49, 50, 51, 52, 53, 54, 55, 56, 3, 57, 58, 59, 60, 61, 62, 63, 64, 65, 66, 67, 68, 69, 70, 71, 72, 73, 74, 75, 76, 77, 78, 79, 80, 81, 82, 83, 84, 85, 86, 87, 88, 89, 90, 91, 92, 93, 94, 95, 96, 97, 98, 99, 100, 101, 102, 103, 104, 105, 106, 107, 108, 109, 110, 111, 112, 113, 114, 115, 116, 117, 118, 119, 120, 121, 122, 123, 124, 129, 130, 131, 132, 133, 134, 135, 136, 137, 138, 139, 140, 141, 142, 143, 144, 145, 146, 147, 148, 149, 150, 151, 152, 153, 154, 155, 156, 157, 158, 159, 160, 161, 162, 163, 164] (by decide +kernel) (by decide +kernel)
set_option maxRecDepth 20000 in
theorem gX8_tag_X8_settled : GoodIn wsX8_tag (wsV RX8 176 RX8 yX8_settled wsX8_settled) := goodIn_app (goodIn_of _ (by decide +kernel)) ggX8_tag_X8_settled
set_option maxRecDepth 20000 in
theorem ggX8_tag_X4_roundOf : GoodIn wsX8_tag wsX4_roundOf := goodIn_r _ [128, 20, 141, 142, 143] (by decide +kernel) (by decide +kernel)
set_option maxRecDepth 20000 in
theorem gX8_tag_X4_roundOf : GoodIn wsX8_tag (wsV RX8 218 RX4 yX4_roundOf wsX4_roundOf) := goodIn_app (goodIn_of _ (by decide +kernel)) ggX8_tag_X4_roundOf
theorem dX8_tag_0 : decode cX8_tag 0 = .ok (.iload_n 1, 1) := by decide +kernel
theorem dX8_tag_1 : decode cX8_tag 1 = .ok (.invokestatic 86, 3) := by decide +kernel
theorem dX8_tag_4 : decode cX8_tag 4 = .ok (.ifCond .eq 10, 3) := by decide +kernel
theorem dX8_tag_7 : decode cX8_tag 7 = .ok (.iload_n 2, 1) := by decide +kernel
theorem dX8_tag_8 : decode cX8_tag 8 = .ok (.invokestatic 215, 3) := by decide +kernel
theorem dX8_tag_11 : decode cX8_tag 11 = .ok (.ifCond .ne 5, 3) := by decide +kernel
theorem dX8_tag_14 : decode cX8_tag 14 = .ok (.iconst (-1), 1) := by decide +kernel
theorem dX8_tag_15 : decode cX8_tag 15 = .ok (.ireturn, 1) := by decide +kernel
theorem dX8_tag_16 : decode cX8_tag 16 = .ok (.aload_n 0, 1) := by decide +kernel
theorem dX8_tag_17 : decode cX8_tag 17 = .ok (.invokevirtual 176, 3) := by decide +kernel
theorem dX8_tag_20 : decode cX8_tag 20 = .ok (.iload_n 2, 1) := by decide +kernel
theorem dX8_tag_21 : decode cX8_tag 21 = .ok (.iload_n 1, 1) := by decide +kernel
theorem dX8_tag_22 : decode cX8_tag 22 = .ok (.invokevirtual 218, 3) := by decide +kernel
theorem dX8_tag_25 : decode cX8_tag 25 = .ok (.ireturn, 1) := by decide +kernel
set_option maxRecDepth 20000 in
theorem ggX8_tagged_X8_isTag : GoodIn wsX8_tagged wsX8_isTag := goodIn_r _ [6] (by decide +kernel) (by decide +kernel)
set_option maxRecDepth 20000 in
theorem gX8_tagged_X8_isTag : GoodIn wsX8_tagged (va_wsS RX8 215 yX8_isTag wsX8_isTag) := goodIn_app (goodIn_of _ (by decide +kernel)) ggX8_tagged_X8_isTag
set_option maxRecDepth 20000 in
theorem ggX8_tagged_X8_settled : GoodIn wsX8_tagged wsX8_settled := goodIn_r _ [10, 11, 12, 13, 14, 15, 16, 17, 18, 19, 20, 21, 22, 23, 24, 25, 26, 27, 28, 29, 30, 31, 32, 33, 34, 35, 36, 37, 38, 39, 40, 41, 42, 43, 44, 45, 46, 47, 48, 49, 50, 51, 52, 53, 54, 55, 5, 56, 57, 58, 59, 60, 61, 62, 63, 64, 65, 66, 67, 68, 69, 70, 71, 72, 73, 74, 75, 76, 77, 78, 79, 80, 81, 82, 83, 84, 85, 86, 87, 88, 89, 90, 91, 92, 93, 94, 95, 96, 97, 98, 99, 100, 101, 102, 103, 104, 105, 106, 107, 108, 109, 110, 111, 112, 113, 114, 115, 116, 117, 118, 119, 120, 121, 122, 123, 147, 148, 149, 150, 151, 152, 153, 154, 155, 156, 157, 158, 132, 133, 134, 135, 136, 137, 138, 139, 140, 141, 142, 143, 144, 145, 146, 159, 160, 161, 162, 163, 164, 165, 166, 167] (by decide +kernel) (by decide +kernel)
set_option maxRecDepth 20000 in
theorem gX8_tagged_X8_settled : GoodIn wsX8_tagged (wsV RX8 176 RX8 yX8_settled wsX8_settled) := goodIn_app (goodIn_of _ (by decide +kernel)) ggX8_tagged_X8_settled
set_option maxRecDepth 20000 in
theorem ggX8_tagged_X4_broughtBy : GoodIn wsX8_tagged wsX4_broughtBy := goodIn_r _ [127, 128, 129, 130, 17, 131, 19, 132, 133, 134] (by decide +kernel) (by decide +kernel)
set_option maxRecDepth 20000 in
theorem gX8_tagged_X4_broughtBy : GoodIn wsX8_tagged (wsV RX8 224 RX4 yX4_broughtBy wsX4_broughtBy) := goodIn_app (goodIn_of _ (by decide +kernel)) ggX8_tagged_X4_broughtBy
theorem dX8_tagged_0 : decode cX8_tagged 0 = .ok (.iload_n 1, 1) := by decide +kernel
theorem dX8_tagged_1 : decode cX8_tagged 1 = .ok (.invokestatic 215, 3) := by decide +kernel
theorem dX8_tagged_4 : decode cX8_tagged 4 = .ok (.ifCond .eq 7, 3) := by decide +kernel
theorem dX8_tagged_7 : decode cX8_tagged 7 = .ok (.iload_n 2, 1) := by decide +kernel
theorem dX8_tagged_8 : decode cX8_tagged 8 = .ok (.ifCond .ge 5, 3) := by decide +kernel
theorem dX8_tagged_11 : decode cX8_tagged 11 = .ok (.iconst (-1), 1) := by decide +kernel
theorem dX8_tagged_12 : decode cX8_tagged 12 = .ok (.ireturn, 1) := by decide +kernel
theorem dX8_tagged_13 : decode cX8_tagged 13 = .ok (.iload_n 2, 1) := by decide +kernel
theorem dX8_tagged_14 : decode cX8_tagged 14 = .ok (.ifCond .ne 16, 3) := by decide +kernel
theorem dX8_tagged_17 : decode cX8_tagged 17 = .ok (.aload_n 0, 1) := by decide +kernel
theorem dX8_tagged_18 : decode cX8_tagged 18 = .ok (.invokevirtual 176, 3) := by decide +kernel
theorem dX8_tagged_21 : decode cX8_tagged 21 = .ok (.getfield 180, 3) := by decide +kernel
theorem dX8_tagged_24 : decode cX8_tagged 24 = .ok (.getfield 221, 3) := by decide +kernel
theorem dX8_tagged_27 : decode cX8_tagged 27 = .ok (.iload_n 1, 1) := by decide +kernel
theorem dX8_tagged_28 : decode cX8_tagged 28 = .ok (.iaload, 1) := by decide +kernel
theorem dX8_tagged_29 : decode cX8_tagged 29 = .ok (.ireturn, 1) := by decide +kernel
theorem dX8_tagged_30 : decode cX8_tagged 30 = .ok (.aload_n 0, 1) := by decide +kernel
theorem dX8_tagged_31 : decode cX8_tagged 31 = .ok (.invokevirtual 176, 3) := by decide +kernel
theorem dX8_tagged_34 : decode cX8_tagged 34 = .ok (.iload_n 1, 1) := by decide +kernel
theorem dX8_tagged_35 : decode cX8_tagged 35 = .ok (.iload_n 2, 1) := by decide +kernel
theorem dX8_tagged_36 : decode cX8_tagged 36 = .ok (.invokevirtual 224, 3) := by decide +kernel
theorem dX8_tagged_39 : decode cX8_tagged 39 = .ok (.ireturn, 1) := by decide +kernel
set_option maxRecDepth 20000 in
theorem ggX8_state_X0_hasRule : GoodIn wsX8_state wsX0_hasRule := goodIn_r _ [9, 10, 156, 157, 158, 159, 160, 161, 162, 163, 164] (by decide +kernel) (by decide +kernel)
set_option maxRecDepth 20000 in
theorem gX8_state_X0_hasRule : GoodIn wsX8_state (wsV RX8 117 RX0 yX0_hasRule wsX0_hasRule) := goodIn_app (goodIn_of _ (by decide +kernel)) ggX8_state_X0_hasRule
set_option maxRecDepth 20000 in
theorem ggX8_state_X8_settled : GoodIn wsX8_state wsX8_settled := goodIn_r _ [15, 16, 17, 1, 18, 19, 20, 21, 22, 23, 24, 25, 26, 27, 28, 29, 30, 31, 32, 33, 34, 35, 36, 37, 38, 39, 40, 41, 42, 43, 44, 45, 46, 47, 48, 49, 8, 50, 51, 10, 52, 53, 54, 55, 56, 57, 14, 58, 59, 60, 61, 62, 63, 64, 65, 66, 67, 68, 69, 70, 71, 72, 73, 74, 75, 76, 77, 78, 79, 80, 81, 82, 83, 84, 85, 86, 87, 88, 89, 90, 91, 92, 93, 94, 95, 96, 97, 98, 99, 100, 101, 102, 103, 104, 105, 106, 107, 108, 109, 110, 111, 112, 113, 114, 115, 116, 117, 118, 119, 120, 121, 122, 123, 124, 125, 129, 130, 131, 132, 133, 134, 135, 136, 137, 138, 139, 140, 141, 142, 143, 144, 145, 146, 147, 148, 149, 150, 151, 152, 153, 154, 155, 156, 157, 158, 159, 160, 161, 162, 163, 164] (by decide +kernel) (by decide +kernel)
set_option maxRecDepth 20000 in
theorem gX8_state_X8_settled : GoodIn wsX8_state (wsV RX8 176 RX8 yX8_settled wsX8_settled) := goodIn_app (goodIn_of _ (by decide +kernel)) ggX8_state_X8_settled
set_option maxRecDepth 20000 in
theorem ggX8_state_X8_bit : GoodIn wsX8_state wsX8_bit := goodIn_r _ [128] (by decide +kernel) (by decide +kernel)
set_option maxRecDepth 20000 in
theorem gX8_state_X8_bit : GoodIn wsX8_state (va_wsS RX8 96 yX8_bit wsX8_bit) := goodIn_app (goodIn_of _ (by decide +kernel)) ggX8_state_X8_bit
theorem dX8_state_0 : decode cX8_state 0 = .ok (.aload_n 0, 1) := by decide +kernel
theorem dX8_state_1 : decode cX8_state 1 = .ok (.getfield 14, 3) := by decide +kernel
theorem dX8_state_4 : decode cX8_state 4 = .ok (.iload_n 1, 1) := by decide +kernel
theorem dX8_state_5 : decode cX8_state 5 = .ok (.invokevirtual 117, 3) := by decide +kernel
theorem dX8_state_8 : decode cX8_state 8 = .ok (.ifCond .ne 5, 3) := by decide +kernel
theorem dX8_state_11 : decode cX8_state 11 = .ok (.iconst (-1), 1) := by decide +kernel
theorem dX8_state_12 : decode cX8_state 12 = .ok (.ireturn, 1) := by decide +kernel
theorem dX8_state_13 : decode cX8_state 13 = .ok (.aload_n 0, 1) := by decide +kernel
theorem dX8_state_14 : decode cX8_state 14 = .ok (.invokevirtual 176, 3) := by decide +kernel
theorem dX8_state_17 : decode cX8_state 17 = .ok (.getfield 180, 3) := by decide +kernel
theorem dX8_state_20 : decode cX8_state 20 = .ok (.astore_n 2, 1) := by decide +kernel
theorem dX8_state_21 : decode cX8_state 21 = .ok (.aload_n 2, 1) := by decide +kernel
theorem dX8_state_22 : decode cX8_state 22 = .ok (.getfield 227, 3) := by decide +kernel
theorem dX8_state_25 : decode cX8_state 25 = .ok (.iload_n 1, 1) := by decide +kernel
theorem dX8_state_26 : decode cX8_state 26 = .ok (.invokestatic 96, 3) := by decide +kernel
theorem dX8_state_29 : decode cX8_state 29 = .ok (.iconst 2, 1) := by decide +kernel
theorem dX8_state_30 : decode cX8_state 30 = .ok (.aload_n 2, 1) := by decide +kernel
theorem dX8_state_31 : decode cX8_state 31 = .ok (.getfield 230, 3) := by decide +kernel
theorem dX8_state_34 : decode cX8_state 34 = .ok (.iload_n 1, 1) := by decide +kernel
theorem dX8_state_35 : decode cX8_state 35 = .ok (.invokestatic 96, 3) := by decide +kernel
theorem dX8_state_38 : decode cX8_state 38 = .ok (.imul, 1) := by decide +kernel
theorem dX8_state_39 : decode cX8_state 39 = .ok (.iadd, 1) := by decide +kernel
theorem dX8_state_40 : decode cX8_state 40 = .ok (.ireturn, 1) := by decide +kernel
set_option maxRecDepth 20000 in
theorem ggX8_sides_X8_isLiteral : GoodIn wsX8_sides wsX8_isLiteral := goodIn_r _ [5] (by decide +kernel) (by decide +kernel)
set_option maxRecDepth 20000 in
theorem gX8_sides_X8_isLiteral : GoodIn wsX8_sides (va_wsS RX8 86 yX8_isLiteral wsX8_isLiteral) := goodIn_app (goodIn_of _ (by decide +kernel)) ggX8_sides_X8_isLiteral
set_option maxRecDepth 20000 in
theorem ggX8_sides_X8_isYesOrNo : GoodIn wsX8_sides wsX8_isYesOrNo := goodIn_r _ [8] (by decide +kernel) (by decide +kernel)
set_option maxRecDepth 20000 in
theorem gX8_sides_X8_isYesOrNo : GoodIn wsX8_sides (va_wsS RX8 90 yX8_isYesOrNo wsX8_isYesOrNo) := goodIn_app (goodIn_of _ (by decide +kernel)) ggX8_sides_X8_isYesOrNo
set_option maxRecDepth 20000 in
theorem ggX8_sides_X8_settled : GoodIn wsX8_sides wsX8_settled := goodIn_r _ [12, 13, 14, 15, 16, 17, 18, 19, 20, 21, 22, 23, 24, 25, 26, 27, 28, 29, 30, 31, 32, 33, 34, 35, 36, 37, 38, 39, 40, 41, 42, 43, 44, 45, 46, 47, 48, 49, 50, 51, 52, 53, 54, 55, 56, 57, 4, 58, 59, 60, 61, 62, 63, 64, 65, 66, 67, 68, 69, 70, 71, 72, 73, 74, 75, 76, 77, 78, 79, 80, 81, 82, 83, 84, 85, 86, 87, 88, 89, 90, 91, 92, 93, 94, 95, 96, 97, 98, 99, 100, 101, 102, 103, 104, 105, 106, 107, 108, 109, 110, 111, 112, 113, 114, 115, 116, 117, 118, 119, 120, 121, 122, 123, 124, 125, 131, 132, 133, 134, 135, 136, 137, 138, 139, 140, 141, 142, 128, 129, 130, 143, 144, 145, 146, 147, 148, 149, 150, 151, 152, 153, 154, 155, 156, 157, 158, 159, 160, 161, 162, 163] (by decide +kernel) (by decide +kernel)
set_option maxRecDepth 20000 in
theorem gX8_sides_X8_settled : GoodIn wsX8_sides (wsV RX8 176 RX8 yX8_settled wsX8_settled) := goodIn_app (goodIn_of _ (by decide +kernel)) ggX8_sides_X8_settled
set_option maxRecDepth 20000 in
theorem ggX8_sides_X6_threats : GoodIn wsX8_sides wsX6_threats := goodIn_r _ [103, 36, 68, 98, 4, 99, 94, 95, 96, 31, 97, 35, 67, 104, 105, 106, 107, 37, 143, 144, 145, 146, 147, 148, 149, 150, 151, 152, 153, 154] (by decide +kernel) (by decide +kernel)
set_option maxRecDepth 20000 in
theorem gX8_sides_X6_threats : GoodIn wsX8_sides (wsV RX8 233 RX6 yX6_threats wsX6_threats) := goodIn_app (goodIn_of _ (by decide +kernel)) ggX8_sides_X6_threats
set_option maxRecDepth 20000 in
theorem ggX8_sides_X6_team : GoodIn wsX8_sides wsX6_team := goodIn_r _ [97, 35, 67, 143, 144, 145, 146, 147, 148, 149, 150, 151, 152, 153, 154] (by decide +kernel) (by decide +kernel)
set_option maxRecDepth 20000 in
theorem gX8_sides_X6_team : GoodIn wsX8_sides (wsV RX8 236 RX6 yX6_team wsX6_team) := goodIn_app (goodIn_of _ (by decide +kernel)) ggX8_sides_X6_team
theorem dX8_sides_0 : decode cX8_sides 0 = .ok (.iload_n 1, 1) := by decide +kernel
theorem dX8_sides_1 : decode cX8_sides 1 = .ok (.invokestatic 86, 3) := by decide +kernel
theorem dX8_sides_4 : decode cX8_sides 4 = .ok (.ifCond .eq 10, 3) := by decide +kernel
theorem dX8_sides_7 : decode cX8_sides 7 = .ok (.iload_n 2, 1) := by decide +kernel
theorem dX8_sides_8 : decode cX8_sides 8 = .ok (.invokestatic 90, 3) := by decide +kernel
theorem dX8_sides_11 : decode cX8_sides 11 = .ok (.ifCond .ne 5, 3) := by decide +kernel
theorem dX8_sides_14 : decode cX8_sides 14 = .ok (.iconst (-1), 1) := by decide +kernel
theorem dX8_sides_15 : decode cX8_sides 15 = .ok (.ireturn, 1) := by decide +kernel
theorem dX8_sides_16 : decode cX8_sides 16 = .ok (.aload_n 0, 1) := by decide +kernel
theorem dX8_sides_17 : decode cX8_sides 17 = .ok (.invokevirtual 176, 3) := by decide +kernel
theorem dX8_sides_20 : decode cX8_sides 20 = .ok (.getfield 180, 3) := by decide +kernel
theorem dX8_sides_23 : decode cX8_sides 23 = .ok (.astore_n 3, 1) := by decide +kernel
theorem dX8_sides_24 : decode cX8_sides 24 = .ok (.iload_n 2, 1) := by decide +kernel
theorem dX8_sides_25 : decode cX8_sides 25 = .ok (.ifCond .ne 11, 3) := by decide +kernel
theorem dX8_sides_28 : decode cX8_sides 28 = .ok (.aload_n 3, 1) := by decide +kernel
theorem dX8_sides_29 : decode cX8_sides 29 = .ok (.iload_n 1, 1) := by decide +kernel
theorem dX8_sides_30 : decode cX8_sides 30 = .ok (.invokevirtual 233, 3) := by decide +kernel
theorem dX8_sides_33 : decode cX8_sides 33 = .ok (.goto 8, 3) := by decide +kernel
theorem dX8_sides_36 : decode cX8_sides 36 = .ok (.aload_n 3, 1) := by decide +kernel
theorem dX8_sides_37 : decode cX8_sides 37 = .ok (.iload_n 1, 1) := by decide +kernel
theorem dX8_sides_38 : decode cX8_sides 38 = .ok (.invokevirtual 236, 3) := by decide +kernel
theorem dX8_sides_41 : decode cX8_sides 41 = .ok (.ireturn, 1) := by decide +kernel
set_option maxRecDepth 20000 in
theorem ggX8_proof_X8_isLiteral : GoodIn wsX8_proof wsX8_isLiteral := goodIn_r _ [8] (by decide +kernel) (by decide +kernel)
set_option maxRecDepth 20000 in
theorem gX8_proof_X8_isLiteral : GoodIn wsX8_proof (va_wsS RX8 86 yX8_isLiteral wsX8_isLiteral) := goodIn_app (goodIn_of _ (by decide +kernel)) ggX8_proof_X8_isLiteral
set_option maxRecDepth 20000 in
theorem ggX8_proof_X8_isTag : GoodIn wsX8_proof wsX8_isTag := goodIn_r _ [11] (by decide +kernel) (by decide +kernel)
set_option maxRecDepth 20000 in
theorem gX8_proof_X8_isTag : GoodIn wsX8_proof (va_wsS RX8 215 yX8_isTag wsX8_isTag) := goodIn_app (goodIn_of _ (by decide +kernel)) ggX8_proof_X8_isTag
set_option maxRecDepth 20000 in
theorem ggX8_proof_X8_settled : GoodIn wsX8_proof wsX8_settled := goodIn_r _ [15, 16, 3, 2, 17, 18, 19, 20, 21, 22, 23, 24, 25, 26, 27, 28, 29, 30, 31, 32, 33, 34, 35, 36, 37, 38, 39, 40, 41, 42, 43, 44, 45, 46, 47, 48, 49, 50, 51, 52, 53, 54, 55, 56, 57, 58, 7, 59, 60, 61, 62, 63, 64, 65, 66, 67, 68, 69, 70, 71, 72, 73, 74, 75, 76, 77, 78, 79, 80, 81, 82, 83, 84, 85, 86, 87, 88, 89, 90, 91, 92, 93, 94, 95, 96, 97, 98, 99, 100, 101, 102, 103, 104, 105, 106, 107, 108, 109, 110, 111, 112, 113, 114, 115, 116, 117, 118, 119, 120, 121, 122, 123, 124, 125, 126, 223, 224, 225, 226, 227, 228, 229, 230, 231, 232, 233, 234, 239, 240, 241, 242, 243, 244, 245, 246, 247, 248, 249, 250, 251, 252, 253, 254, 255, 256, 257, 258, 259, 260, 261, 262] (by decide +kernel) (by decide +kernel)
set_option maxRecDepth 20000 in
theorem gX8_proof_X8_settled : GoodIn wsX8_proof (wsV RX8 176 RX8 yX8_settled wsX8_settled) := goodIn_app (goodIn_of _ (by decide +kernel)) ggX8_proof_X8_settled
set_option maxRecDepth 20000 in
theorem ggX8_proof_X4_roundOf : GoodIn wsX8_proof wsX4_roundOf := goodIn_r _ [130, 22, 239, 240, 241] (by decide +kernel) (by decide +kernel)
set_option maxRecDepth 20000 in
theorem gX8_proof_X4_roundOf : GoodIn wsX8_proof (wsV RX8 218 RX4 yX4_roundOf wsX4_roundOf) := goodIn_app (goodIn_of _ (by decide +kernel)) ggX8_proof_X4_roundOf
set_option maxRecDepth 20000 in
theorem ggX8_proof_X3_build : GoodIn wsX8_proof wsX3_build := goodIn_r _ [135, 136, 137, 138, 139, 128, 129, 20, 130, 22, 140, 26, 27, 28, 141, 30, 31, 32, 33, 34, 35, 36, 37, 38, 39, 40, 41, 42, 43, 44, 45, 46, 47, 48, 49, 50, 51, 52, 53, 54, 55, 56, 57, 58, 7, 59, 60, 61, 62, 63, 142, 143, 144, 134, 145, 146, 147, 148, 149, 150, 151, 152, 65, 66, 67, 68, 69, 70, 71, 72, 73, 74, 75, 76, 77, 153, 154, 155, 156, 157, 158, 159, 160, 161, 162, 163, 164, 165, 166, 167, 168, 169, 170, 171, 172, 173, 174, 175, 176, 177, 178, 179, 180, 181, 182, 183, 99, 100, 184, 96, 97, 98, 185, 186, 187, 188, 189, 190, 191, 192, 193, 194, 195, 196, 197, 198, 199, 200, 201, 202, 203, 204, 114, 115, 116, 205, 206, 207, 208, 209, 118, 119, 120, 113, 105, 106, 107, 108, 210, 211, 212, 213, 214, 235, 236, 237, 238, 239, 240, 241, 242, 243, 244, 245, 246, 247, 248, 249, 250, 251, 252, 253, 254, 255, 256, 257, 258, 259, 260, 261, 262] (by decide +kernel) (by decide +kernel)
set_option maxRecDepth 20000 in
theorem gX8_proof_X3_build : GoodIn wsX8_proof (wsV RX8 239 RX3 yX3_build wsX3_build) := goodIn_app (goodIn_of _ (by decide +kernel)) ggX8_proof_X3_build
set_option maxRecDepth 20000 in
theorem ggX8_proof_X3_tagAt : GoodIn wsX8_proof wsX3_tagAt := goodIn_r _ [218, 214, 235, 236, 237, 238] (by decide +kernel) (by decide +kernel)
set_option maxRecDepth 20000 in
theorem gX8_proof_X3_tagAt : GoodIn wsX8_proof (wsV RX8 244 RX3 yX3_tagAt wsX3_tagAt) := goodIn_app (goodIn_of _ (by decide +kernel)) ggX8_proof_X3_tagAt
set_option maxRecDepth 20000 in
theorem ggX8_proof_X3_literalAt : GoodIn wsX8_proof wsX3_literalAt := goodIn_r _ [222, 214, 235, 236, 237, 238] (by decide +kernel) (by decide +kernel)
set_option maxRecDepth 20000 in
theorem gX8_proof_X3_literalAt : GoodIn wsX8_proof (wsV RX8 247 RX3 yX3_literalAt wsX3_literalAt) := goodIn_app (goodIn_of _ (by decide +kernel)) ggX8_proof_X3_literalAt
theorem dX8_proof_0 : decode cX8_proof 0 = .ok (.iload_n 1, 1) := by decide +kernel
theorem dX8_proof_1 : decode cX8_proof 1 = .ok (.invokestatic 86, 3) := by decide +kernel
theorem dX8_proof_4 : decode cX8_proof 4 = .ok (.ifCond .eq 15, 3) := by decide +kernel
theorem dX8_proof_7 : decode cX8_proof 7 = .ok (.iload_n 2, 1) := by decide +kernel
theorem dX8_proof_8 : decode cX8_proof 8 = .ok (.invokestatic 215, 3) := by decide +kernel
theorem dX8_proof_11 : decode cX8_proof 11 = .ok (.ifCond .eq 8, 3) := by decide +kernel
theorem dX8_proof_14 : decode cX8_proof 14 = .ok (.iload_n 3, 1) := by decide +kernel
theorem dX8_proof_15 : decode cX8_proof 15 = .ok (.iconst (-1), 1) := by decide +kernel
theorem dX8_proof_16 : decode cX8_proof 16 = .ok (.if_icmp .ge 5, 3) := by decide +kernel
theorem dX8_proof_19 : decode cX8_proof 19 = .ok (.iconst (-1), 1) := by decide +kernel
theorem dX8_proof_20 : decode cX8_proof 20 = .ok (.ireturn, 1) := by decide +kernel
theorem dX8_proof_21 : decode cX8_proof 21 = .ok (.aload_n 0, 1) := by decide +kernel
theorem dX8_proof_22 : decode cX8_proof 22 = .ok (.invokevirtual 176, 3) := by decide +kernel
theorem dX8_proof_25 : decode cX8_proof 25 = .ok (.iload_n 2, 1) := by decide +kernel
theorem dX8_proof_26 : decode cX8_proof 26 = .ok (.iload_n 1, 1) := by decide +kernel
theorem dX8_proof_27 : decode cX8_proof 27 = .ok (.invokevirtual 218, 3) := by decide +kernel
theorem dX8_proof_30 : decode cX8_proof 30 = .ok (.ifCond .ne 6, 3) := by decide +kernel
theorem dX8_proof_33 : decode cX8_proof 33 = .ok (.bipush (-2), 2) := by decide +kernel
theorem dX8_proof_35 : decode cX8_proof 35 = .ok (.ireturn, 1) := by decide +kernel
theorem dX8_proof_36 : decode cX8_proof 36 = .ok (.aload_n 0, 1) := by decide +kernel
theorem dX8_proof_37 : decode cX8_proof 37 = .ok (.getfield 34, 3) := by decide +kernel
theorem dX8_proof_40 : decode cX8_proof 40 = .ok (.aload_n 0, 1) := by decide +kernel
theorem dX8_proof_41 : decode cX8_proof 41 = .ok (.getfield 14, 3) := by decide +kernel
theorem dX8_proof_44 : decode cX8_proof 44 = .ok (.aload_n 0, 1) := by decide +kernel
theorem dX8_proof_45 : decode cX8_proof 45 = .ok (.getfield 21, 3) := by decide +kernel
theorem dX8_proof_48 : decode cX8_proof 48 = .ok (.iload_n 2, 1) := by decide +kernel
theorem dX8_proof_49 : decode cX8_proof 49 = .ok (.iload_n 1, 1) := by decide +kernel
theorem dX8_proof_50 : decode cX8_proof 50 = .ok (.invokevirtual 239, 3) := by decide +kernel
theorem dX8_proof_53 : decode cX8_proof 53 = .ok (.iload_n 3, 1) := by decide +kernel
theorem dX8_proof_54 : decode cX8_proof 54 = .ok (.aload_n 0, 1) := by decide +kernel
theorem dX8_proof_55 : decode cX8_proof 55 = .ok (.getfield 34, 3) := by decide +kernel
theorem dX8_proof_58 : decode cX8_proof 58 = .ok (.getfield 243, 3) := by decide +kernel
theorem dX8_proof_61 : decode cX8_proof 61 = .ok (.if_icmp .lt 6, 3) := by decide +kernel
theorem dX8_proof_64 : decode cX8_proof 64 = .ok (.bipush (-2), 2) := by decide +kernel
theorem dX8_proof_66 : decode cX8_proof 66 = .ok (.ireturn, 1) := by decide +kernel
theorem dX8_proof_67 : decode cX8_proof 67 = .ok (.iload_n 3, 1) := by decide +kernel
theorem dX8_proof_68 : decode cX8_proof 68 = .ok (.ifCond .ge 13, 3) := by decide +kernel
theorem dX8_proof_71 : decode cX8_proof 71 = .ok (.aload_n 0, 1) := by decide +kernel
theorem dX8_proof_72 : decode cX8_proof 72 = .ok (.getfield 34, 3) := by decide +kernel
theorem dX8_proof_75 : decode cX8_proof 75 = .ok (.getfield 243, 3) := by decide +kernel
theorem dX8_proof_78 : decode cX8_proof 78 = .ok (.goto 23, 3) := by decide +kernel
theorem dX8_proof_81 : decode cX8_proof 81 = .ok (.bipush 100, 2) := by decide +kernel
theorem dX8_proof_83 : decode cX8_proof 83 = .ok (.aload_n 0, 1) := by decide +kernel
theorem dX8_proof_84 : decode cX8_proof 84 = .ok (.getfield 34, 3) := by decide +kernel
theorem dX8_proof_87 : decode cX8_proof 87 = .ok (.iload_n 3, 1) := by decide +kernel
theorem dX8_proof_88 : decode cX8_proof 88 = .ok (.invokevirtual 244, 3) := by decide +kernel
theorem dX8_proof_91 : decode cX8_proof 91 = .ok (.imul, 1) := by decide +kernel
theorem dX8_proof_92 : decode cX8_proof 92 = .ok (.aload_n 0, 1) := by decide +kernel
theorem dX8_proof_93 : decode cX8_proof 93 = .ok (.getfield 34, 3) := by decide +kernel
theorem dX8_proof_96 : decode cX8_proof 96 = .ok (.iload_n 3, 1) := by decide +kernel
theorem dX8_proof_97 : decode cX8_proof 97 = .ok (.invokevirtual 247, 3) := by decide +kernel
theorem dX8_proof_100 : decode cX8_proof 100 = .ok (.iadd, 1) := by decide +kernel
theorem dX8_proof_101 : decode cX8_proof 101 = .ok (.ireturn, 1) := by decide +kernel
set_option maxRecDepth 20000 in
theorem ggX8_prints_X2_printRules : GoodIn wsX8_prints wsX2_printRules := goodIn_r _ [10, 11, 12, 13, 14, 15, 16, 17, 18, 19, 20, 21, 9, 22, 23, 24, 25, 26, 27, 28, 29, 30, 31, 32, 33, 34, 35, 36, 268, 269, 270, 271, 272, 273, 274, 275, 276, 277, 278] (by decide +kernel) (by decide +kernel)
set_option maxRecDepth 20000 in
theorem gX8_prints_X2_printRules : GoodIn wsX8_prints (wsV RX8 250 RX2 yX2_printRules wsX2_printRules) := goodIn_app (goodIn_of _ (by decide +kernel)) ggX8_prints_X2_printRules
set_option maxRecDepth 20000 in
theorem ggX8_prints_X8_isLiteral : GoodIn wsX8_prints wsX8_isLiteral := goodIn_r _ [39] (by decide +kernel) (by decide +kernel)
set_option maxRecDepth 20000 in
theorem gX8_prints_X8_isLiteral : GoodIn wsX8_prints (va_wsS RX8 86 yX8_isLiteral wsX8_isLiteral) := goodIn_app (goodIn_of _ (by decide +kernel)) ggX8_prints_X8_isLiteral
set_option maxRecDepth 20000 in
theorem ggX8_prints_X8_isTag : GoodIn wsX8_prints wsX8_isTag := goodIn_r _ [42] (by decide +kernel) (by decide +kernel)
set_option maxRecDepth 20000 in
theorem gX8_prints_X8_isTag : GoodIn wsX8_prints (va_wsS RX8 215 yX8_isTag wsX8_isTag) := goodIn_app (goodIn_of _ (by decide +kernel)) ggX8_prints_X8_isTag
set_option maxRecDepth 20000 in
theorem ggX8_prints_X8_settled : GoodIn wsX8_prints wsX8_settled := goodIn_r _ [46, 47, 5, 2, 48, 49, 50, 51, 52, 53, 54, 55, 56, 57, 58, 59, 60, 61, 62, 63, 64, 65, 66, 67, 68, 69, 70, 71, 72, 73, 74, 75, 76, 77, 78, 79, 80, 81, 82, 83, 84, 85, 86, 87, 88, 23, 24, 25, 89, 90, 91, 92, 93, 94, 95, 96, 97, 98, 99, 100, 101, 102, 103, 104, 105, 106, 107, 108, 109, 110, 111, 112, 113, 114, 115, 116, 117, 118, 119, 120, 121, 122, 123, 124, 125, 126, 127, 35, 36, 128, 129, 130, 131, 132, 133, 134, 135, 136, 137, 138, 139, 140, 141, 142, 143, 144, 145, 146, 147, 148, 149, 150, 151, 152, 153, 256, 257, 258, 259, 260, 261, 262, 263, 264, 265, 266, 267, 279, 280, 281, 282, 283, 284, 285, 286, 287, 288, 289, 290, 291, 292, 293, 270, 271, 272, 273, 274, 275, 276, 277, 278] (by decide +kernel) (by decide +kernel)
set_option maxRecDepth 20000 in
theorem gX8_prints_X8_settled : GoodIn wsX8_prints (wsV RX8 176 RX8 yX8_settled wsX8_settled) := goodIn_app (goodIn_of _ (by decide +kernel)) ggX8_prints_X8_settled
set_option maxRecDepth 20000 in
theorem ggX8_prints_X4_roundOf : GoodIn wsX8_prints wsX4_roundOf := goodIn_r _ [157, 53, 279, 280, 281] (by decide +kernel) (by decide +kernel)
set_option maxRecDepth 20000 in
theorem gX8_prints_X4_roundOf : GoodIn wsX8_prints (wsV RX8 218 RX4 yX4_roundOf wsX4_roundOf) := goodIn_app (goodIn_of _ (by decide +kernel)) ggX8_prints_X4_roundOf
set_option maxRecDepth 20000 in
theorem ggX8_prints_X3_build : GoodIn wsX8_prints wsX3_build := goodIn_r _ [162, 163, 164, 165, 166, 155, 156, 51, 157, 53, 167, 57, 58, 59, 168, 61, 62, 63, 64, 65, 66, 67, 68, 69, 70, 71, 72, 73, 74, 75, 76, 77, 78, 79, 80, 81, 82, 83, 84, 85, 86, 87, 88, 23, 24, 25, 89, 90, 91, 92, 169, 170, 171, 161, 172, 173, 174, 175, 176, 177, 178, 179, 94, 95, 96, 97, 98, 99, 100, 101, 102, 103, 104, 105, 106, 180, 181, 182, 183, 184, 185, 186, 187, 188, 189, 190, 191, 192, 193, 194, 195, 196, 197, 198, 199, 200, 201, 202, 203, 204, 205, 206, 207, 208, 209, 210, 35, 36, 211, 125, 126, 127, 212, 213, 214, 215, 216, 217, 218, 219, 220, 221, 222, 223, 224, 225, 226, 227, 228, 229, 230, 231, 141, 142, 143, 232, 233, 234, 235, 236, 145, 146, 147, 140, 132, 133, 134, 135, 237, 238, 239, 240, 241, 294, 295, 296, 297, 279, 280, 281, 282, 283, 284, 285, 286, 287, 288, 289, 290, 291, 292, 293, 270, 271, 272, 273, 274, 275, 276, 277, 278] (by decide +kernel) (by decide +kernel)
set_option maxRecDepth 20000 in
theorem gX8_prints_X3_build : GoodIn wsX8_prints (wsV RX8 239 RX3 yX3_build wsX3_build) := goodIn_app (goodIn_of _ (by decide +kernel)) ggX8_prints_X3_build
set_option maxRecDepth 20000 in
theorem ggX8_prints_X2_printProof : GoodIn wsX8_prints wsX2_printProof := goodIn_r _ [245, 11, 246, 247, 248, 249, 250, 161, 251, 241, 26, 27, 28, 9, 29, 30, 252, 253, 254, 255, 31, 32, 33, 34, 35, 24, 36, 268, 269, 294, 295, 296, 297] (by decide +kernel) (by decide +kernel)
set_option maxRecDepth 20000 in
theorem gX8_prints_X2_printProof : GoodIn wsX8_prints (wsV RX8 253 RX2 yX2_printProof wsX2_printProof) := goodIn_app (goodIn_of _ (by decide +kernel)) ggX8_prints_X2_printProof
theorem dX8_prints_0 : decode cX8_prints 0 = .ok (.iload_n 1, 1) := by decide +kernel
theorem dX8_prints_1 : decode cX8_prints 1 = .ok (.iconst (-1), 1) := by decide +kernel
theorem dX8_prints_2 : decode cX8_prints 2 = .ok (.if_icmp .ne 22, 3) := by decide +kernel
theorem dX8_prints_5 : decode cX8_prints 5 = .ok (.aload_n 0, 1) := by decide +kernel
theorem dX8_prints_6 : decode cX8_prints 6 = .ok (.getfield 58, 3) := by decide +kernel
theorem dX8_prints_9 : decode cX8_prints 9 = .ok (.aload_n 0, 1) := by decide +kernel
theorem dX8_prints_10 : decode cX8_prints 10 = .ok (.getfield 14, 3) := by decide +kernel
theorem dX8_prints_13 : decode cX8_prints 13 = .ok (.invokevirtual 250, 3) := by decide +kernel
theorem dX8_prints_16 : decode cX8_prints 16 = .ok (.aload_n 0, 1) := by decide +kernel
theorem dX8_prints_17 : decode cX8_prints 17 = .ok (.getfield 58, 3) := by decide +kernel
theorem dX8_prints_20 : decode cX8_prints 20 = .ok (.getfield 214, 3) := by decide +kernel
theorem dX8_prints_23 : decode cX8_prints 23 = .ok (.ireturn, 1) := by decide +kernel
theorem dX8_prints_24 : decode cX8_prints 24 = .ok (.iload_n 1, 1) := by decide +kernel
theorem dX8_prints_25 : decode cX8_prints 25 = .ok (.invokestatic 86, 3) := by decide +kernel
theorem dX8_prints_28 : decode cX8_prints 28 = .ok (.ifCond .eq 10, 3) := by decide +kernel
theorem dX8_prints_31 : decode cX8_prints 31 = .ok (.iload_n 2, 1) := by decide +kernel
theorem dX8_prints_32 : decode cX8_prints 32 = .ok (.invokestatic 215, 3) := by decide +kernel
theorem dX8_prints_35 : decode cX8_prints 35 = .ok (.ifCond .ne 5, 3) := by decide +kernel
theorem dX8_prints_38 : decode cX8_prints 38 = .ok (.iconst (-1), 1) := by decide +kernel
theorem dX8_prints_39 : decode cX8_prints 39 = .ok (.ireturn, 1) := by decide +kernel
theorem dX8_prints_40 : decode cX8_prints 40 = .ok (.aload_n 0, 1) := by decide +kernel
theorem dX8_prints_41 : decode cX8_prints 41 = .ok (.invokevirtual 176, 3) := by decide +kernel
theorem dX8_prints_44 : decode cX8_prints 44 = .ok (.iload_n 2, 1) := by decide +kernel
theorem dX8_prints_45 : decode cX8_prints 45 = .ok (.iload_n 1, 1) := by decide +kernel
theorem dX8_prints_46 : decode cX8_prints 46 = .ok (.invokevirtual 218, 3) := by decide +kernel
theorem dX8_prints_49 : decode cX8_prints 49 = .ok (.ifCond .ne 6, 3) := by decide +kernel
theorem dX8_prints_52 : decode cX8_prints 52 = .ok (.bipush (-2), 2) := by decide +kernel
theorem dX8_prints_54 : decode cX8_prints 54 = .ok (.ireturn, 1) := by decide +kernel
theorem dX8_prints_55 : decode cX8_prints 55 = .ok (.aload_n 0, 1) := by decide +kernel
theorem dX8_prints_56 : decode cX8_prints 56 = .ok (.getfield 34, 3) := by decide +kernel
theorem dX8_prints_59 : decode cX8_prints 59 = .ok (.aload_n 0, 1) := by decide +kernel
theorem dX8_prints_60 : decode cX8_prints 60 = .ok (.getfield 14, 3) := by decide +kernel
theorem dX8_prints_63 : decode cX8_prints 63 = .ok (.aload_n 0, 1) := by decide +kernel
theorem dX8_prints_64 : decode cX8_prints 64 = .ok (.getfield 21, 3) := by decide +kernel
theorem dX8_prints_67 : decode cX8_prints 67 = .ok (.iload_n 2, 1) := by decide +kernel
theorem dX8_prints_68 : decode cX8_prints 68 = .ok (.iload_n 1, 1) := by decide +kernel
theorem dX8_prints_69 : decode cX8_prints 69 = .ok (.invokevirtual 239, 3) := by decide +kernel
theorem dX8_prints_72 : decode cX8_prints 72 = .ok (.aload_n 0, 1) := by decide +kernel
theorem dX8_prints_73 : decode cX8_prints 73 = .ok (.getfield 58, 3) := by decide +kernel
theorem dX8_prints_76 : decode cX8_prints 76 = .ok (.aload_n 0, 1) := by decide +kernel
theorem dX8_prints_77 : decode cX8_prints 77 = .ok (.getfield 34, 3) := by decide +kernel
theorem dX8_prints_80 : decode cX8_prints 80 = .ok (.invokevirtual 253, 3) := by decide +kernel
theorem dX8_prints_83 : decode cX8_prints 83 = .ok (.aload_n 0, 1) := by decide +kernel
theorem dX8_prints_84 : decode cX8_prints 84 = .ok (.getfield 58, 3) := by decide +kernel
theorem dX8_prints_87 : decode cX8_prints 87 = .ok (.getfield 214, 3) := by decide +kernel
theorem dX8_prints_90 : decode cX8_prints 90 = .ok (.ireturn, 1) := by decide +kernel
theorem dX8_paper_0 : decode cX8_paper 0 = .ok (.iload_n 1, 1) := by decide +kernel
theorem dX8_paper_1 : decode cX8_paper 1 = .ok (.ifCond .ge 5, 3) := by decide +kernel
theorem dX8_paper_4 : decode cX8_paper 4 = .ok (.iconst (-1), 1) := by decide +kernel
theorem dX8_paper_5 : decode cX8_paper 5 = .ok (.ireturn, 1) := by decide +kernel
theorem dX8_paper_6 : decode cX8_paper 6 = .ok (.iload_n 1, 1) := by decide +kernel
theorem dX8_paper_7 : decode cX8_paper 7 = .ok (.aload_n 0, 1) := by decide +kernel
theorem dX8_paper_8 : decode cX8_paper 8 = .ok (.getfield 58, 3) := by decide +kernel
theorem dX8_paper_11 : decode cX8_paper 11 = .ok (.getfield 214, 3) := by decide +kernel
theorem dX8_paper_14 : decode cX8_paper 14 = .ok (.if_icmp .ge 15, 3) := by decide +kernel
theorem dX8_paper_17 : decode cX8_paper 17 = .ok (.aload_n 0, 1) := by decide +kernel
theorem dX8_paper_18 : decode cX8_paper 18 = .ok (.getfield 58, 3) := by decide +kernel
theorem dX8_paper_21 : decode cX8_paper 21 = .ok (.getfield 257, 3) := by decide +kernel
theorem dX8_paper_24 : decode cX8_paper 24 = .ok (.iload_n 1, 1) := by decide +kernel
theorem dX8_paper_25 : decode cX8_paper 25 = .ok (.iaload, 1) := by decide +kernel
theorem dX8_paper_26 : decode cX8_paper 26 = .ok (.goto 5, 3) := by decide +kernel
theorem dX8_paper_29 : decode cX8_paper 29 = .ok (.bipush (-2), 2) := by decide +kernel
theorem dX8_paper_31 : decode cX8_paper 31 = .ok (.ireturn, 1) := by decide +kernel
set_option maxRecDepth 20000 in
theorem ggX8_would_X8_isLiteral : GoodIn wsX8_would wsX8_isLiteral := goodIn_r _ [8] (by decide +kernel) (by decide +kernel)
set_option maxRecDepth 20000 in
theorem gX8_would_X8_isLiteral : GoodIn wsX8_would (va_wsS RX8 86 yX8_isLiteral wsX8_isLiteral) := goodIn_app (goodIn_of _ (by decide +kernel)) ggX8_would_X8_isLiteral
set_option maxRecDepth 20000 in
theorem ggX8_would_X8_isYesOrNo : GoodIn wsX8_would wsX8_isYesOrNo := goodIn_r _ [11] (by decide +kernel) (by decide +kernel)
set_option maxRecDepth 20000 in
theorem gX8_would_X8_isYesOrNo : GoodIn wsX8_would (va_wsS RX8 90 yX8_isYesOrNo wsX8_isYesOrNo) := goodIn_app (goodIn_of _ (by decide +kernel)) ggX8_would_X8_isYesOrNo
set_option maxRecDepth 20000 in
theorem ggX8_would_X0_copyFrom : GoodIn wsX8_would wsX0_copyFrom := goodIn_r _ [16, 17, 18, 19, 20, 21, 22, 23, 24, 25, 26, 27, 28, 29, 159, 160, 161, 162, 163, 164, 165, 166, 167] (by decide +kernel) (by decide +kernel)
set_option maxRecDepth 20000 in
theorem gX8_would_X0_copyFrom : GoodIn wsX8_would (wsV RX8 146 RX0 yX0_copyFrom wsX0_copyFrom) := goodIn_app (goodIn_of _ (by decide +kernel)) ggX8_would_X0_copyFrom
set_option maxRecDepth 20000 in
theorem ggX8_would_X8_withBit : GoodIn wsX8_would wsX8_withBit := goodIn_r _ [32] (by decide +kernel) (by decide +kernel)
set_option maxRecDepth 20000 in
theorem gX8_would_X8_withBit : GoodIn wsX8_would (va_wsS RX8 100 yX8_withBit wsX8_withBit) := goodIn_app (goodIn_of _ (by decide +kernel)) ggX8_would_X8_withBit
set_option maxRecDepth 20000 in
theorem ggX8_would_X4_come : GoodIn wsX8_would wsX4_come := goodIn_r _ [37, 38, 39, 40, 41, 42, 43, 44, 45, 46, 47, 48, 49, 50, 51, 52, 53, 54, 55, 56, 57, 58, 59, 60, 61, 62, 63, 64, 15, 65, 26, 28, 25, 66, 67, 68, 69, 70, 7, 71, 72, 73, 74, 75, 76, 77, 78, 79, 80, 81, 82, 83, 84, 85, 86, 87, 88, 89, 90, 91, 92, 93, 94, 95, 96, 97, 98, 99, 100, 101, 102, 103, 104, 105, 106, 107, 108, 109, 110, 111, 112, 113, 114, 115, 116, 117, 118, 119, 120, 121, 122, 123, 124, 125, 126, 127, 128, 129, 130, 131, 132, 133, 134, 135, 36, 136, 137, 138, 168, 169, 170, 171, 172, 173, 174, 175, 176, 177, 178, 179, 180, 181, 182, 159, 160, 161, 162, 163, 164, 165, 166, 167] (by decide +kernel) (by decide +kernel)
set_option maxRecDepth 20000 in
theorem gX8_would_X4_come : GoodIn wsX8_would (wsV RX8 260 RX4 yX4_come wsX4_come) := goodIn_app (goodIn_of _ (by decide +kernel)) ggX8_would_X4_come
set_option maxRecDepth 20000 in
theorem ggX8_would_X4_tagsOf : GoodIn wsX8_would wsX4_tagsOf := goodIn_r _ [142, 143, 144, 145, 36, 146, 38, 168, 169, 170] (by decide +kernel) (by decide +kernel)
set_option maxRecDepth 20000 in
theorem gX8_would_X4_tagsOf : GoodIn wsX8_would (wsV RX8 263 RX4 yX4_tagsOf wsX4_tagsOf) := goodIn_app (goodIn_of _ (by decide +kernel)) ggX8_would_X4_tagsOf
theorem dX8_would_0 : decode cX8_would 0 = .ok (.iload_n 1, 1) := by decide +kernel
theorem dX8_would_1 : decode cX8_would 1 = .ok (.invokestatic 86, 3) := by decide +kernel
theorem dX8_would_4 : decode cX8_would 4 = .ok (.ifCond .eq 17, 3) := by decide +kernel
theorem dX8_would_7 : decode cX8_would 7 = .ok (.iload_n 2, 1) := by decide +kernel
theorem dX8_would_8 : decode cX8_would 8 = .ok (.invokestatic 86, 3) := by decide +kernel
theorem dX8_would_11 : decode cX8_would 11 = .ok (.ifCond .eq 10, 3) := by decide +kernel
theorem dX8_would_14 : decode cX8_would 14 = .ok (.iload_n 3, 1) := by decide +kernel
theorem dX8_would_15 : decode cX8_would 15 = .ok (.invokestatic 90, 3) := by decide +kernel
theorem dX8_would_18 : decode cX8_would 18 = .ok (.ifCond .ne 5, 3) := by decide +kernel
theorem dX8_would_21 : decode cX8_would 21 = .ok (.iconst (-1), 1) := by decide +kernel
theorem dX8_would_22 : decode cX8_would 22 = .ok (.ireturn, 1) := by decide +kernel
theorem dX8_would_23 : decode cX8_would 23 = .ok (.aload_n 0, 1) := by decide +kernel
theorem dX8_would_24 : decode cX8_would 24 = .ok (.getfield 25, 3) := by decide +kernel
theorem dX8_would_27 : decode cX8_would 27 = .ok (.aload_n 0, 1) := by decide +kernel
theorem dX8_would_28 : decode cX8_would 28 = .ok (.getfield 14, 3) := by decide +kernel
theorem dX8_would_31 : decode cX8_would 31 = .ok (.invokevirtual 146, 3) := by decide +kernel
theorem dX8_would_34 : decode cX8_would 34 = .ok (.aload_n 0, 1) := by decide +kernel
theorem dX8_would_35 : decode cX8_would 35 = .ok (.getfield 25, 3) := by decide +kernel
theorem dX8_would_38 : decode cX8_would 38 = .ok (.aload_n 0, 1) := by decide +kernel
theorem dX8_would_39 : decode cX8_would 39 = .ok (.getfield 14, 3) := by decide +kernel
theorem dX8_would_42 : decode cX8_would 42 = .ok (.getfield 93, 3) := by decide +kernel
theorem dX8_would_45 : decode cX8_would 45 = .ok (.iload_n 2, 1) := by decide +kernel
theorem dX8_would_46 : decode cX8_would 46 = .ok (.iload_n 3, 1) := by decide +kernel
theorem dX8_would_47 : decode cX8_would 47 = .ok (.invokestatic 100, 3) := by decide +kernel
theorem dX8_would_50 : decode cX8_would 50 = .ok (.putfield 93, 3) := by decide +kernel
theorem dX8_would_53 : decode cX8_would 53 = .ok (.aload_n 0, 1) := by decide +kernel
theorem dX8_would_54 : decode cX8_would 54 = .ok (.getfield 28, 3) := by decide +kernel
theorem dX8_would_57 : decode cX8_would 57 = .ok (.aload_n 0, 1) := by decide +kernel
theorem dX8_would_58 : decode cX8_would 58 = .ok (.getfield 25, 3) := by decide +kernel
theorem dX8_would_61 : decode cX8_would 61 = .ok (.invokevirtual 260, 3) := by decide +kernel
theorem dX8_would_64 : decode cX8_would 64 = .ok (.aload_n 0, 1) := by decide +kernel
theorem dX8_would_65 : decode cX8_would 65 = .ok (.getfield 28, 3) := by decide +kernel
theorem dX8_would_68 : decode cX8_would 68 = .ok (.iload_n 1, 1) := by decide +kernel
theorem dX8_would_69 : decode cX8_would 69 = .ok (.invokevirtual 263, 3) := by decide +kernel
theorem dX8_would_72 : decode cX8_would 72 = .ok (.ireturn, 1) := by decide +kernel
set_option maxRecDepth 20000 in
theorem ggX8_key_X8_isLiteral : GoodIn wsX8_key wsX8_isLiteral := goodIn_r _ [7] (by decide +kernel) (by decide +kernel)
set_option maxRecDepth 20000 in
theorem gX8_key_X8_isLiteral : GoodIn wsX8_key (va_wsS RX8 86 yX8_isLiteral wsX8_isLiteral) := goodIn_app (goodIn_of _ (by decide +kernel)) ggX8_key_X8_isLiteral
set_option maxRecDepth 20000 in
theorem ggX8_key_X8_settled : GoodIn wsX8_key wsX8_settled := goodIn_r _ [11, 12, 13, 2, 14, 15, 16, 17, 18, 19, 20, 21, 22, 23, 24, 25, 26, 27, 28, 29, 30, 31, 32, 33, 34, 35, 36, 37, 38, 39, 40, 41, 42, 43, 44, 45, 46, 47, 48, 49, 50, 51, 52, 53, 54, 55, 6, 56, 57, 58, 59, 60, 61, 62, 63, 64, 65, 66, 67, 68, 69, 70, 71, 72, 73, 74, 75, 76, 77, 78, 79, 80, 81, 82, 83, 84, 85, 86, 87, 88, 89, 90, 91, 92, 93, 94, 95, 96, 97, 98, 99, 100, 101, 102, 103, 104, 105, 106, 107, 108, 109, 110, 111, 112, 113, 114, 115, 116, 117, 118, 119, 120, 121, 122, 123, 151, 152, 153, 154, 155, 156, 157, 158, 159, 160, 161, 162, 172, 173, 174, 175, 176, 177, 178, 179, 180, 181, 182, 183, 184, 185, 186, 163, 164, 165, 166, 167, 168, 169, 170, 171] (by decide +kernel) (by decide +kernel)
set_option maxRecDepth 20000 in
theorem gX8_key_X8_settled : GoodIn wsX8_key (wsV RX8 176 RX8 yX8_settled wsX8_settled) := goodIn_app (goodIn_of _ (by decide +kernel)) ggX8_key_X8_settled
set_option maxRecDepth 20000 in
theorem ggX8_key_X4_roundOf : GoodIn wsX8_key wsX4_roundOf := goodIn_r _ [127, 19, 172, 173, 174] (by decide +kernel) (by decide +kernel)
set_option maxRecDepth 20000 in
theorem gX8_key_X4_roundOf : GoodIn wsX8_key (wsV RX8 218 RX4 yX4_roundOf wsX4_roundOf) := goodIn_app (goodIn_of _ (by decide +kernel)) ggX8_key_X4_roundOf
set_option maxRecDepth 20000 in
theorem ggX8_key_X0_copyFrom : GoodIn wsX8_key wsX0_copyFrom := goodIn_r _ [131, 132, 133, 134, 135, 136, 137, 138, 139, 50, 48, 140, 49, 141, 163, 164, 165, 166, 167, 168, 169, 170, 171] (by decide +kernel) (by decide +kernel)
set_option maxRecDepth 20000 in
theorem gX8_key_X0_copyFrom : GoodIn wsX8_key (wsV RX8 146 RX0 yX0_copyFrom wsX0_copyFrom) := goodIn_app (goodIn_of _ (by decide +kernel)) ggX8_key_X0_copyFrom
set_option maxRecDepth 20000 in
theorem ggX8_key_X8_withBit : GoodIn wsX8_key wsX8_withBit := goodIn_r _ [144] (by decide +kernel) (by decide +kernel)
set_option maxRecDepth 20000 in
theorem gX8_key_X8_withBit : GoodIn wsX8_key (va_wsS RX8 100 yX8_withBit wsX8_withBit) := goodIn_app (goodIn_of _ (by decide +kernel)) ggX8_key_X8_withBit
set_option maxRecDepth 20000 in
theorem ggX8_key_X8_has : GoodIn wsX8_key wsX8_has := goodIn_r _ [56] (by decide +kernel) (by decide +kernel)
set_option maxRecDepth 20000 in
theorem gX8_key_X8_has : GoodIn wsX8_key (va_wsS RX8 130 yX8_has wsX8_has) := goodIn_app (goodIn_of _ (by decide +kernel)) ggX8_key_X8_has
set_option maxRecDepth 20000 in
theorem ggX8_key_X8_comesInThought : GoodIn wsX8_key wsX8_comesInThought := goodIn_r _ [149, 150, 1, 14, 15, 16, 17, 18, 19, 20, 21, 22, 23, 24, 25, 26, 27, 28, 29, 30, 31, 32, 33, 34, 35, 36, 37, 38, 39, 40, 41, 42, 43, 44, 45, 46, 47, 48, 49, 50, 51, 52, 53, 54, 55, 6, 56, 57, 58, 59, 60, 61, 62, 63, 64, 65, 66, 67, 68, 69, 70, 71, 72, 73, 74, 75, 76, 77, 78, 79, 80, 81, 82, 83, 84, 85, 86, 87, 88, 89, 90, 91, 92, 93, 94, 95, 96, 97, 98, 99, 100, 101, 102, 103, 104, 105, 106, 107, 108, 109, 110, 111, 112, 113, 114, 115, 116, 117, 118, 119, 120, 121, 122, 123, 124, 125, 126, 127, 151, 152, 153, 154, 155, 156, 157, 158, 159, 160, 161, 162, 172, 173, 174, 175, 176, 177, 178, 179, 180, 181, 182, 183, 184, 185, 186, 163, 164, 165, 166, 167, 168, 169, 170, 171] (by decide +kernel) (by decide +kernel)
set_option maxRecDepth 20000 in
theorem gX8_key_X8_comesInThought : GoodIn wsX8_key (wsV RX8 266 RX8 yX8_comesInThought wsX8_comesInThought) := goodIn_app (goodIn_of _ (by decide +kernel)) ggX8_key_X8_comesInThought
theorem dX8_key_0 : decode cX8_key 0 = .ok (.iload_n 1, 1) := by decide +kernel
theorem dX8_key_1 : decode cX8_key 1 = .ok (.invokestatic 86, 3) := by decide +kernel
theorem dX8_key_4 : decode cX8_key 4 = .ok (.ifCond .ne 5, 3) := by decide +kernel
theorem dX8_key_7 : decode cX8_key 7 = .ok (.iconst (-1), 1) := by decide +kernel
theorem dX8_key_8 : decode cX8_key 8 = .ok (.ireturn, 1) := by decide +kernel
theorem dX8_key_9 : decode cX8_key 9 = .ok (.aload_n 0, 1) := by decide +kernel
theorem dX8_key_10 : decode cX8_key 10 = .ok (.invokevirtual 176, 3) := by decide +kernel
theorem dX8_key_13 : decode cX8_key 13 = .ok (.iconst 2, 1) := by decide +kernel
theorem dX8_key_14 : decode cX8_key 14 = .ok (.iload_n 1, 1) := by decide +kernel
theorem dX8_key_15 : decode cX8_key 15 = .ok (.invokevirtual 218, 3) := by decide +kernel
theorem dX8_key_18 : decode cX8_key 18 = .ok (.ifCond .eq 6, 3) := by decide +kernel
theorem dX8_key_21 : decode cX8_key 21 = .ok (.bipush (-5), 2) := by decide +kernel
theorem dX8_key_23 : decode cX8_key 23 = .ok (.ireturn, 1) := by decide +kernel
theorem dX8_key_24 : decode cX8_key 24 = .ok (.aload_n 0, 1) := by decide +kernel
theorem dX8_key_25 : decode cX8_key 25 = .ok (.getfield 25, 3) := by decide +kernel
theorem dX8_key_28 : decode cX8_key 28 = .ok (.aload_n 0, 1) := by decide +kernel
theorem dX8_key_29 : decode cX8_key 29 = .ok (.getfield 14, 3) := by decide +kernel
theorem dX8_key_32 : decode cX8_key 32 = .ok (.invokevirtual 146, 3) := by decide +kernel
theorem dX8_key_35 : decode cX8_key 35 = .ok (.iconst 0, 1) := by decide +kernel
theorem dX8_key_36 : decode cX8_key 36 = .ok (.istore_n 2, 1) := by decide +kernel
theorem dX8_key_37 : decode cX8_key 37 = .ok (.iload_n 2, 1) := by decide +kernel
theorem dX8_key_38 : decode cX8_key 38 = .ok (.bipush 20, 2) := by decide +kernel
theorem dX8_key_40 : decode cX8_key 40 = .ok (.if_icmp .ge 58, 3) := by decide +kernel
theorem dX8_key_43 : decode cX8_key 43 = .ok (.aload_n 0, 1) := by decide +kernel
theorem dX8_key_44 : decode cX8_key 44 = .ok (.getfield 25, 3) := by decide +kernel
theorem dX8_key_47 : decode cX8_key 47 = .ok (.aload_n 0, 1) := by decide +kernel
theorem dX8_key_48 : decode cX8_key 48 = .ok (.getfield 14, 3) := by decide +kernel
theorem dX8_key_51 : decode cX8_key 51 = .ok (.getfield 93, 3) := by decide +kernel
theorem dX8_key_54 : decode cX8_key 54 = .ok (.iload_n 2, 1) := by decide +kernel
theorem dX8_key_55 : decode cX8_key 55 = .ok (.iconst 1, 1) := by decide +kernel
theorem dX8_key_56 : decode cX8_key 56 = .ok (.invokestatic 100, 3) := by decide +kernel
theorem dX8_key_59 : decode cX8_key 59 = .ok (.putfield 93, 3) := by decide +kernel
theorem dX8_key_62 : decode cX8_key 62 = .ok (.iload_n 2, 1) := by decide +kernel
theorem dX8_key_63 : decode cX8_key 63 = .ok (.iload_n 1, 1) := by decide +kernel
theorem dX8_key_64 : decode cX8_key 64 = .ok (.if_icmp .eq 28, 3) := by decide +kernel
theorem dX8_key_67 : decode cX8_key 67 = .ok (.aload_n 0, 1) := by decide +kernel
theorem dX8_key_68 : decode cX8_key 68 = .ok (.getfield 14, 3) := by decide +kernel
theorem dX8_key_71 : decode cX8_key 71 = .ok (.getfield 93, 3) := by decide +kernel
theorem dX8_key_74 : decode cX8_key 74 = .ok (.iload_n 2, 1) := by decide +kernel
theorem dX8_key_75 : decode cX8_key 75 = .ok (.invokestatic 130, 3) := by decide +kernel
theorem dX8_key_78 : decode cX8_key 78 = .ok (.ifCond .ne 14, 3) := by decide +kernel
theorem dX8_key_81 : decode cX8_key 81 = .ok (.aload_n 0, 1) := by decide +kernel
theorem dX8_key_82 : decode cX8_key 82 = .ok (.iconst 2, 1) := by decide +kernel
theorem dX8_key_83 : decode cX8_key 83 = .ok (.iload_n 1, 1) := by decide +kernel
theorem dX8_key_84 : decode cX8_key 84 = .ok (.invokevirtual 266, 3) := by decide +kernel
theorem dX8_key_87 : decode cX8_key 87 = .ok (.ifCond .eq 5, 3) := by decide +kernel
theorem dX8_key_90 : decode cX8_key 90 = .ok (.iload_n 2, 1) := by decide +kernel
theorem dX8_key_91 : decode cX8_key 91 = .ok (.ireturn, 1) := by decide +kernel
theorem dX8_key_92 : decode cX8_key 92 = .ok (.iinc 2 1, 3) := by decide +kernel
theorem dX8_key_95 : decode cX8_key 95 = .ok (.goto (-58), 3) := by decide +kernel
theorem dX8_key_98 : decode cX8_key 98 = .ok (.bipush (-2), 2) := by decide +kernel
theorem dX8_key_100 : decode cX8_key 100 = .ok (.ireturn, 1) := by decide +kernel
set_option maxRecDepth 20000 in
theorem ggX8_hinges_X8_isLiteral : GoodIn wsX8_hinges wsX8_isLiteral := goodIn_r _ [8] (by decide +kernel) (by decide +kernel)
set_option maxRecDepth 20000 in
theorem gX8_hinges_X8_isLiteral : GoodIn wsX8_hinges (va_wsS RX8 86 yX8_isLiteral wsX8_isLiteral) := goodIn_app (goodIn_of _ (by decide +kernel)) ggX8_hinges_X8_isLiteral
set_option maxRecDepth 20000 in
theorem ggX8_hinges_X8_isTag : GoodIn wsX8_hinges wsX8_isTag := goodIn_r _ [11] (by decide +kernel) (by decide +kernel)
set_option maxRecDepth 20000 in
theorem gX8_hinges_X8_isTag : GoodIn wsX8_hinges (va_wsS RX8 215 yX8_isTag wsX8_isTag) := goodIn_app (goodIn_of _ (by decide +kernel)) ggX8_hinges_X8_isTag
set_option maxRecDepth 20000 in
theorem ggX8_hinges_X8_settled : GoodIn wsX8_hinges wsX8_settled := goodIn_r _ [15, 16, 17, 2, 18, 19, 20, 21, 22, 23, 24, 25, 26, 27, 28, 29, 30, 31, 32, 33, 34, 35, 36, 37, 38, 39, 40, 41, 42, 43, 44, 45, 46, 47, 48, 49, 50, 51, 52, 53, 54, 55, 56, 57, 58, 59, 7, 60, 61, 62, 63, 64, 65, 66, 67, 68, 69, 70, 71, 72, 73, 74, 75, 76, 77, 78, 79, 80, 81, 82, 83, 84, 85, 86, 87, 88, 89, 90, 91, 92, 93, 94, 95, 96, 97, 98, 99, 100, 101, 102, 103, 104, 105, 106, 107, 108, 109, 110, 111, 112, 113, 114, 115, 116, 117, 118, 119, 120, 121, 122, 123, 124, 125, 126, 127, 155, 156, 157, 158, 159, 160, 161, 162, 163, 164, 165, 166, 176, 177, 178, 179, 180, 181, 182, 183, 184, 185, 186, 187, 188, 189, 190, 167, 168, 169, 170, 171, 172, 173, 174, 175] (by decide +kernel) (by decide +kernel)
set_option maxRecDepth 20000 in
theorem gX8_hinges_X8_settled : GoodIn wsX8_hinges (wsV RX8 176 RX8 yX8_settled wsX8_settled) := goodIn_app (goodIn_of _ (by decide +kernel)) ggX8_hinges_X8_settled
set_option maxRecDepth 20000 in
theorem ggX8_hinges_X4_roundOf : GoodIn wsX8_hinges wsX4_roundOf := goodIn_r _ [131, 23, 176, 177, 178] (by decide +kernel) (by decide +kernel)
set_option maxRecDepth 20000 in
theorem gX8_hinges_X4_roundOf : GoodIn wsX8_hinges (wsV RX8 218 RX4 yX4_roundOf wsX4_roundOf) := goodIn_app (goodIn_of _ (by decide +kernel)) ggX8_hinges_X4_roundOf
set_option maxRecDepth 20000 in
theorem ggX8_hinges_X0_copyFrom : GoodIn wsX8_hinges wsX0_copyFrom := goodIn_r _ [135, 136, 137, 138, 139, 140, 141, 142, 143, 54, 52, 144, 53, 145, 167, 168, 169, 170, 171, 172, 173, 174, 175] (by decide +kernel) (by decide +kernel)
set_option maxRecDepth 20000 in
theorem gX8_hinges_X0_copyFrom : GoodIn wsX8_hinges (wsV RX8 146 RX0 yX0_copyFrom wsX0_copyFrom) := goodIn_app (goodIn_of _ (by decide +kernel)) ggX8_hinges_X0_copyFrom
set_option maxRecDepth 20000 in
theorem ggX8_hinges_X8_withBit : GoodIn wsX8_hinges wsX8_withBit := goodIn_r _ [148] (by decide +kernel) (by decide +kernel)
set_option maxRecDepth 20000 in
theorem gX8_hinges_X8_withBit : GoodIn wsX8_hinges (va_wsS RX8 100 yX8_withBit wsX8_withBit) := goodIn_app (goodIn_of _ (by decide +kernel)) ggX8_hinges_X8_withBit
set_option maxRecDepth 20000 in
theorem ggX8_hinges_X8_has : GoodIn wsX8_hinges wsX8_has := goodIn_r _ [60] (by decide +kernel) (by decide +kernel)
set_option maxRecDepth 20000 in
theorem gX8_hinges_X8_has : GoodIn wsX8_hinges (va_wsS RX8 130 yX8_has wsX8_has) := goodIn_app (goodIn_of _ (by decide +kernel)) ggX8_hinges_X8_has
set_option maxRecDepth 20000 in
theorem ggX8_hinges_X8_comesInThought : GoodIn wsX8_hinges wsX8_comesInThought := goodIn_r _ [153, 154, 1, 18, 19, 20, 21, 22, 23, 24, 25, 26, 27, 28, 29, 30, 31, 32, 33, 34, 35, 36, 37, 38, 39, 40, 41, 42, 43, 44, 45, 46, 47, 48, 49, 50, 51, 52, 53, 54, 55, 56, 57, 58, 59, 7, 60, 61, 62, 63, 64, 65, 66, 67, 68, 69, 70, 71, 72, 73, 74, 75, 76, 77, 78, 79, 80, 81, 82, 83, 84, 85, 86, 87, 88, 89, 90, 91, 92, 93, 94, 95, 96, 97, 98, 99, 100, 101, 102, 103, 104, 105, 106, 107, 108, 109, 110, 111, 112, 113, 114, 115, 116, 117, 118, 119, 120, 121, 122, 123, 124, 125, 126, 127, 128, 129, 130, 131, 155, 156, 157, 158, 159, 160, 161, 162, 163, 164, 165, 166, 176, 177, 178, 179, 180, 181, 182, 183, 184, 185, 186, 187, 188, 189, 190, 167, 168, 169, 170, 171, 172, 173, 174, 175] (by decide +kernel) (by decide +kernel)
set_option maxRecDepth 20000 in
theorem gX8_hinges_X8_comesInThought : GoodIn wsX8_hinges (wsV RX8 266 RX8 yX8_comesInThought wsX8_comesInThought) := goodIn_app (goodIn_of _ (by decide +kernel)) ggX8_hinges_X8_comesInThought
theorem dX8_hinges_0 : decode cX8_hinges 0 = .ok (.iload_n 1, 1) := by decide +kernel
theorem dX8_hinges_1 : decode cX8_hinges 1 = .ok (.invokestatic 86, 3) := by decide +kernel
theorem dX8_hinges_4 : decode cX8_hinges 4 = .ok (.ifCond .eq 10, 3) := by decide +kernel
theorem dX8_hinges_7 : decode cX8_hinges 7 = .ok (.iload_n 2, 1) := by decide +kernel
theorem dX8_hinges_8 : decode cX8_hinges 8 = .ok (.invokestatic 215, 3) := by decide +kernel
theorem dX8_hinges_11 : decode cX8_hinges 11 = .ok (.ifCond .ne 5, 3) := by decide +kernel
theorem dX8_hinges_14 : decode cX8_hinges 14 = .ok (.iconst (-1), 1) := by decide +kernel
theorem dX8_hinges_15 : decode cX8_hinges 15 = .ok (.ireturn, 1) := by decide +kernel
theorem dX8_hinges_16 : decode cX8_hinges 16 = .ok (.aload_n 0, 1) := by decide +kernel
theorem dX8_hinges_17 : decode cX8_hinges 17 = .ok (.invokevirtual 176, 3) := by decide +kernel
theorem dX8_hinges_20 : decode cX8_hinges 20 = .ok (.iload_n 2, 1) := by decide +kernel
theorem dX8_hinges_21 : decode cX8_hinges 21 = .ok (.iload_n 1, 1) := by decide +kernel
theorem dX8_hinges_22 : decode cX8_hinges 22 = .ok (.invokevirtual 218, 3) := by decide +kernel
theorem dX8_hinges_25 : decode cX8_hinges 25 = .ok (.ifCond .eq 7, 3) := by decide +kernel
theorem dX8_hinges_28 : decode cX8_hinges 28 = .ok (.iconst 1, 1) := by decide +kernel
theorem dX8_hinges_29 : decode cX8_hinges 29 = .ok (.goto 4, 3) := by decide +kernel
theorem dX8_hinges_32 : decode cX8_hinges 32 = .ok (.iconst 0, 1) := by decide +kernel
theorem dX8_hinges_33 : decode cX8_hinges 33 = .ok (.istore_n 3, 1) := by decide +kernel
theorem dX8_hinges_34 : decode cX8_hinges 34 = .ok (.iconst 0, 1) := by decide +kernel
theorem dX8_hinges_35 : decode cX8_hinges 35 = .ok (.istore 4, 2) := by decide +kernel
theorem dX8_hinges_37 : decode cX8_hinges 37 = .ok (.aload_n 0, 1) := by decide +kernel
theorem dX8_hinges_38 : decode cX8_hinges 38 = .ok (.getfield 25, 3) := by decide +kernel
theorem dX8_hinges_41 : decode cX8_hinges 41 = .ok (.aload_n 0, 1) := by decide +kernel
theorem dX8_hinges_42 : decode cX8_hinges 42 = .ok (.getfield 14, 3) := by decide +kernel
theorem dX8_hinges_45 : decode cX8_hinges 45 = .ok (.invokevirtual 146, 3) := by decide +kernel
theorem dX8_hinges_48 : decode cX8_hinges 48 = .ok (.iconst 0, 1) := by decide +kernel
theorem dX8_hinges_49 : decode cX8_hinges 49 = .ok (.istore 5, 2) := by decide +kernel
theorem dX8_hinges_51 : decode cX8_hinges 51 = .ok (.iload 5, 2) := by decide +kernel
theorem dX8_hinges_53 : decode cX8_hinges 53 = .ok (.aload_n 0, 1) := by decide +kernel
theorem dX8_hinges_54 : decode cX8_hinges 54 = .ok (.getfield 14, 3) := by decide +kernel
theorem dX8_hinges_57 : decode cX8_hinges 57 = .ok (.getfield 76, 3) := by decide +kernel
theorem dX8_hinges_60 : decode cX8_hinges 60 = .ok (.if_icmp .ge 63, 3) := by decide +kernel
theorem dX8_hinges_63 : decode cX8_hinges 63 = .ok (.aload_n 0, 1) := by decide +kernel
theorem dX8_hinges_64 : decode cX8_hinges 64 = .ok (.getfield 25, 3) := by decide +kernel
theorem dX8_hinges_67 : decode cX8_hinges 67 = .ok (.aload_n 0, 1) := by decide +kernel
theorem dX8_hinges_68 : decode cX8_hinges 68 = .ok (.getfield 14, 3) := by decide +kernel
theorem dX8_hinges_71 : decode cX8_hinges 71 = .ok (.getfield 120, 3) := by decide +kernel
theorem dX8_hinges_74 : decode cX8_hinges 74 = .ok (.iload 5, 2) := by decide +kernel
theorem dX8_hinges_76 : decode cX8_hinges 76 = .ok (.iconst 1, 1) := by decide +kernel
theorem dX8_hinges_77 : decode cX8_hinges 77 = .ok (.invokestatic 100, 3) := by decide +kernel
theorem dX8_hinges_80 : decode cX8_hinges 80 = .ok (.putfield 120, 3) := by decide +kernel
theorem dX8_hinges_83 : decode cX8_hinges 83 = .ok (.aload_n 0, 1) := by decide +kernel
theorem dX8_hinges_84 : decode cX8_hinges 84 = .ok (.getfield 14, 3) := by decide +kernel
theorem dX8_hinges_87 : decode cX8_hinges 87 = .ok (.getfield 120, 3) := by decide +kernel
theorem dX8_hinges_90 : decode cX8_hinges 90 = .ok (.iload 5, 2) := by decide +kernel
theorem dX8_hinges_92 : decode cX8_hinges 92 = .ok (.invokestatic 130, 3) := by decide +kernel
theorem dX8_hinges_95 : decode cX8_hinges 95 = .ok (.ifCond .ne 22, 3) := by decide +kernel
theorem dX8_hinges_98 : decode cX8_hinges 98 = .ok (.aload_n 0, 1) := by decide +kernel
theorem dX8_hinges_99 : decode cX8_hinges 99 = .ok (.iload_n 2, 1) := by decide +kernel
theorem dX8_hinges_100 : decode cX8_hinges 100 = .ok (.iload_n 1, 1) := by decide +kernel
theorem dX8_hinges_101 : decode cX8_hinges 101 = .ok (.invokevirtual 266, 3) := by decide +kernel
theorem dX8_hinges_104 : decode cX8_hinges 104 = .ok (.iload_n 3, 1) := by decide +kernel
theorem dX8_hinges_105 : decode cX8_hinges 105 = .ok (.if_icmp .eq 12, 3) := by decide +kernel
theorem dX8_hinges_108 : decode cX8_hinges 108 = .ok (.iload 4, 2) := by decide +kernel
theorem dX8_hinges_110 : decode cX8_hinges 110 = .ok (.iconst 1, 1) := by decide +kernel
theorem dX8_hinges_111 : decode cX8_hinges 111 = .ok (.iload 5, 2) := by decide +kernel
theorem dX8_hinges_113 : decode cX8_hinges 113 = .ok (.ishl, 1) := by decide +kernel
theorem dX8_hinges_114 : decode cX8_hinges 114 = .ok (.ior, 1) := by decide +kernel
theorem dX8_hinges_115 : decode cX8_hinges 115 = .ok (.istore 4, 2) := by decide +kernel
theorem dX8_hinges_117 : decode cX8_hinges 117 = .ok (.iinc 5 1, 3) := by decide +kernel
theorem dX8_hinges_120 : decode cX8_hinges 120 = .ok (.goto (-69), 3) := by decide +kernel
theorem dX8_hinges_123 : decode cX8_hinges 123 = .ok (.iload 4, 2) := by decide +kernel
theorem dX8_hinges_125 : decode cX8_hinges 125 = .ok (.ireturn, 1) := by decide +kernel
set_option maxRecDepth 20000 in
theorem ggX8_least_X0_hasRule : GoodIn wsX8_least wsX0_hasRule := goodIn_r _ [8, 9, 157, 158, 159, 160, 161, 162, 163, 164, 165] (by decide +kernel) (by decide +kernel)
set_option maxRecDepth 20000 in
theorem gX8_least_X0_hasRule : GoodIn wsX8_least (wsV RX8 117 RX0 yX0_hasRule wsX0_hasRule) := goodIn_app (goodIn_of _ (by decide +kernel)) ggX8_least_X0_hasRule
set_option maxRecDepth 20000 in
theorem ggX8_least_X8_isLiteral : GoodIn wsX8_least wsX8_isLiteral := goodIn_r _ [13] (by decide +kernel) (by decide +kernel)
set_option maxRecDepth 20000 in
theorem gX8_least_X8_isLiteral : GoodIn wsX8_least (va_wsS RX8 86 yX8_isLiteral wsX8_isLiteral) := goodIn_app (goodIn_of _ (by decide +kernel)) ggX8_least_X8_isLiteral
set_option maxRecDepth 20000 in
theorem ggX8_least_X0_copyFrom : GoodIn wsX8_least wsX0_copyFrom := goodIn_r _ [17, 18, 19, 20, 21, 22, 23, 24, 25, 26, 27, 28, 9, 29, 157, 158, 159, 160, 161, 162, 163, 164, 165] (by decide +kernel) (by decide +kernel)
set_option maxRecDepth 20000 in
theorem gX8_least_X0_copyFrom : GoodIn wsX8_least (wsV RX8 146 RX0 yX0_copyFrom wsX0_copyFrom) := goodIn_app (goodIn_of _ (by decide +kernel)) ggX8_least_X0_copyFrom
set_option maxRecDepth 20000 in
theorem ggX8_least_X8_comesInThought : GoodIn wsX8_least wsX8_comesInThought := goodIn_r _ [33, 34, 2, 35, 36, 37, 38, 39, 40, 41, 42, 43, 44, 45, 46, 47, 48, 49, 50, 51, 52, 53, 54, 55, 56, 57, 58, 59, 60, 61, 62, 63, 64, 65, 66, 7, 67, 27, 9, 26, 68, 69, 70, 71, 72, 12, 73, 74, 75, 76, 77, 78, 79, 80, 81, 82, 83, 84, 85, 86, 87, 88, 89, 90, 91, 92, 93, 94, 95, 96, 97, 98, 99, 100, 101, 102, 103, 104, 105, 106, 107, 108, 109, 110, 111, 112, 113, 114, 115, 116, 117, 118, 119, 120, 121, 122, 123, 124, 125, 126, 127, 128, 129, 130, 131, 132, 133, 134, 135, 136, 137, 138, 139, 140, 141, 142, 143, 144, 145, 146, 147, 148, 149, 150, 151, 152, 153, 154, 155, 156, 166, 167, 168, 169, 170, 171, 172, 173, 174, 175, 176, 177, 178, 179, 180, 157, 158, 159, 160, 161, 162, 163, 164, 165] (by decide +kernel) (by decide +kernel)
set_option maxRecDepth 20000 in
theorem gX8_least_X8_comesInThought : GoodIn wsX8_least (wsV RX8 266 RX8 yX8_comesInThought wsX8_comesInThought) := goodIn_app (goodIn_of _ (by decide +kernel)) ggX8_least_X8_comesInThought
theorem dX8_least_0 : decode cX8_least 0 = .ok (.aload_n 0, 1) := by decide +kernel
theorem dX8_least_1 : decode cX8_least 1 = .ok (.getfield 14, 3) := by decide +kernel
theorem dX8_least_4 : decode cX8_least 4 = .ok (.iload_n 1, 1) := by decide +kernel
theorem dX8_least_5 : decode cX8_least 5 = .ok (.invokevirtual 117, 3) := by decide +kernel
theorem dX8_least_8 : decode cX8_least 8 = .ok (.ifCond .eq 10, 3) := by decide +kernel
theorem dX8_least_11 : decode cX8_least 11 = .ok (.iload_n 2, 1) := by decide +kernel
theorem dX8_least_12 : decode cX8_least 12 = .ok (.invokestatic 86, 3) := by decide +kernel
theorem dX8_least_15 : decode cX8_least 15 = .ok (.ifCond .ne 5, 3) := by decide +kernel
theorem dX8_least_18 : decode cX8_least 18 = .ok (.iconst (-1), 1) := by decide +kernel
theorem dX8_least_19 : decode cX8_least 19 = .ok (.ireturn, 1) := by decide +kernel
theorem dX8_least_20 : decode cX8_least 20 = .ok (.aload_n 0, 1) := by decide +kernel
theorem dX8_least_21 : decode cX8_least 21 = .ok (.getfield 25, 3) := by decide +kernel
theorem dX8_least_24 : decode cX8_least 24 = .ok (.aload_n 0, 1) := by decide +kernel
theorem dX8_least_25 : decode cX8_least 25 = .ok (.getfield 14, 3) := by decide +kernel
theorem dX8_least_28 : decode cX8_least 28 = .ok (.invokevirtual 146, 3) := by decide +kernel
theorem dX8_least_31 : decode cX8_least 31 = .ok (.iconst 0, 1) := by decide +kernel
theorem dX8_least_32 : decode cX8_least 32 = .ok (.istore_n 3, 1) := by decide +kernel
theorem dX8_least_33 : decode cX8_least 33 = .ok (.iload_n 3, 1) := by decide +kernel
theorem dX8_least_34 : decode cX8_least 34 = .ok (.bipush 9, 2) := by decide +kernel
theorem dX8_least_36 : decode cX8_least 36 = .ok (.if_icmp .gt 30, 3) := by decide +kernel
theorem dX8_least_39 : decode cX8_least 39 = .ok (.aload_n 0, 1) := by decide +kernel
theorem dX8_least_40 : decode cX8_least 40 = .ok (.getfield 25, 3) := by decide +kernel
theorem dX8_least_43 : decode cX8_least 43 = .ok (.getfield 123, 3) := by decide +kernel
theorem dX8_least_46 : decode cX8_least 46 = .ok (.iload_n 1, 1) := by decide +kernel
theorem dX8_least_47 : decode cX8_least 47 = .ok (.iload_n 3, 1) := by decide +kernel
theorem dX8_least_48 : decode cX8_least 48 = .ok (.iastore, 1) := by decide +kernel
theorem dX8_least_49 : decode cX8_least 49 = .ok (.aload_n 0, 1) := by decide +kernel
theorem dX8_least_50 : decode cX8_least 50 = .ok (.iconst 2, 1) := by decide +kernel
theorem dX8_least_51 : decode cX8_least 51 = .ok (.iload_n 2, 1) := by decide +kernel
theorem dX8_least_52 : decode cX8_least 52 = .ok (.invokevirtual 266, 3) := by decide +kernel
theorem dX8_least_55 : decode cX8_least 55 = .ok (.ifCond .eq 5, 3) := by decide +kernel
theorem dX8_least_58 : decode cX8_least 58 = .ok (.iload_n 3, 1) := by decide +kernel
theorem dX8_least_59 : decode cX8_least 59 = .ok (.ireturn, 1) := by decide +kernel
theorem dX8_least_60 : decode cX8_least 60 = .ok (.iinc 3 1, 3) := by decide +kernel
theorem dX8_least_63 : decode cX8_least 63 = .ok (.goto (-30), 3) := by decide +kernel
theorem dX8_least_66 : decode cX8_least 66 = .ok (.bipush (-2), 2) := by decide +kernel
theorem dX8_least_68 : decode cX8_least 68 = .ok (.ireturn, 1) := by decide +kernel
set_option maxRecDepth 20000 in
theorem ggX8_lots_X8_isLiteral : GoodIn wsX8_lots wsX8_isLiteral := goodIn_r _ [7] (by decide +kernel) (by decide +kernel)
set_option maxRecDepth 20000 in
theorem gX8_lots_X8_isLiteral : GoodIn wsX8_lots (va_wsS RX8 86 yX8_isLiteral wsX8_isLiteral) := goodIn_app (goodIn_of _ (by decide +kernel)) ggX8_lots_X8_isLiteral
set_option maxRecDepth 20000 in
theorem ggX8_lots_X8_isTag : GoodIn wsX8_lots wsX8_isTag := goodIn_r _ [10] (by decide +kernel) (by decide +kernel)
set_option maxRecDepth 20000 in
theorem gX8_lots_X8_isTag : GoodIn wsX8_lots (va_wsS RX8 215 yX8_isTag wsX8_isTag) := goodIn_app (goodIn_of _ (by decide +kernel)) ggX8_lots_X8_isTag
set_option maxRecDepth 20000 in
theorem ggX8_lots_X0_copyFrom : GoodIn wsX8_lots wsX0_copyFrom := goodIn_r _ [15, 16, 17, 18, 19, 20, 21, 22, 23, 24, 25, 26, 27, 28, 169, 170, 171, 172, 173, 174, 175, 176, 177] (by decide +kernel) (by decide +kernel)
set_option maxRecDepth 20000 in
theorem gX8_lots_X0_copyFrom : GoodIn wsX8_lots (wsV RX8 146 RX0 yX0_copyFrom wsX0_copyFrom) := goodIn_app (goodIn_of _ (by decide +kernel)) ggX8_lots_X0_copyFrom
set_option maxRecDepth 20000 in
theorem ggX8_lots_X8_nextSeed : GoodIn wsX8_lots wsX8_nextSeed := goodIn_r _ [31, 32] (by decide +kernel) (by decide +kernel)
set_option maxRecDepth 20000 in
theorem gX8_lots_X8_nextSeed : GoodIn wsX8_lots (va_wsS RX8 269 yX8_nextSeed wsX8_nextSeed) := goodIn_app (goodIn_of _ (by decide +kernel)) ggX8_lots_X8_nextSeed
set_option maxRecDepth 20000 in
theorem ggX8_lots_X8_drawBelowThree : GoodIn wsX8_lots wsX8_drawBelowThree := goodIn_r _ [35, 36, 37] (by decide +kernel) (by decide +kernel)
set_option maxRecDepth 20000 in
theorem gX8_lots_X8_drawBelowThree : GoodIn wsX8_lots (va_wsS RX8 272 yX8_drawBelowThree wsX8_drawBelowThree) := goodIn_app (goodIn_of _ (by decide +kernel)) ggX8_lots_X8_drawBelowThree
set_option maxRecDepth 20000 in
theorem ggX8_lots_X8_factByDraw : GoodIn wsX8_lots wsX8_factByDraw := goodIn_r _ [40, 41, 42, 6, 43] (by decide +kernel) (by decide +kernel)
set_option maxRecDepth 20000 in
theorem gX8_lots_X8_factByDraw : GoodIn wsX8_lots (va_wsS RX8 275 yX8_factByDraw wsX8_factByDraw) := goodIn_app (goodIn_of _ (by decide +kernel)) ggX8_lots_X8_factByDraw
set_option maxRecDepth 20000 in
theorem ggX8_lots_X8_comesInThought : GoodIn wsX8_lots wsX8_comesInThought := goodIn_r _ [47, 48, 1, 49, 50, 51, 52, 53, 54, 55, 56, 57, 58, 59, 60, 61, 62, 63, 64, 65, 66, 67, 68, 69, 70, 71, 72, 73, 74, 75, 76, 77, 78, 79, 80, 14, 81, 25, 27, 24, 82, 83, 84, 85, 86, 6, 87, 88, 89, 90, 91, 92, 93, 94, 95, 96, 97, 98, 99, 100, 101, 102, 103, 104, 105, 106, 107, 108, 109, 110, 111, 112, 113, 114, 115, 116, 117, 118, 119, 120, 121, 122, 123, 124, 125, 126, 42, 43, 127, 128, 129, 130, 131, 132, 133, 134, 135, 136, 137, 138, 139, 140, 141, 142, 143, 144, 145, 146, 147, 148, 149, 150, 151, 152, 153, 154, 155, 156, 157, 158, 159, 160, 161, 162, 163, 164, 165, 166, 167, 168, 178, 179, 180, 181, 182, 183, 184, 185, 186, 187, 188, 189, 190, 191, 192, 169, 170, 171, 172, 173, 174, 175, 176, 177] (by decide +kernel) (by decide +kernel)
set_option maxRecDepth 20000 in
theorem gX8_lots_X8_comesInThought : GoodIn wsX8_lots (wsV RX8 266 RX8 yX8_comesInThought wsX8_comesInThought) := goodIn_app (goodIn_of _ (by decide +kernel)) ggX8_lots_X8_comesInThought
theorem dX8_lots_0 : decode cX8_lots 0 = .ok (.iload_n 1, 1) := by decide +kernel
theorem dX8_lots_1 : decode cX8_lots 1 = .ok (.invokestatic 86, 3) := by decide +kernel
theorem dX8_lots_4 : decode cX8_lots 4 = .ok (.ifCond .eq 21, 3) := by decide +kernel
theorem dX8_lots_7 : decode cX8_lots 7 = .ok (.iload_n 2, 1) := by decide +kernel
theorem dX8_lots_8 : decode cX8_lots 8 = .ok (.invokestatic 215, 3) := by decide +kernel
theorem dX8_lots_11 : decode cX8_lots 11 = .ok (.ifCond .eq 14, 3) := by decide +kernel
theorem dX8_lots_14 : decode cX8_lots 14 = .ok (.iload_n 3, 1) := by decide +kernel
theorem dX8_lots_15 : decode cX8_lots 15 = .ok (.iconst 1, 1) := by decide +kernel
theorem dX8_lots_16 : decode cX8_lots 16 = .ok (.if_icmp .lt 9, 3) := by decide +kernel
theorem dX8_lots_19 : decode cX8_lots 19 = .ok (.iload_n 3, 1) := by decide +kernel
theorem dX8_lots_20 : decode cX8_lots 20 = .ok (.bipush 12, 2) := by decide +kernel
theorem dX8_lots_22 : decode cX8_lots 22 = .ok (.if_icmp .le 5, 3) := by decide +kernel
theorem dX8_lots_25 : decode cX8_lots 25 = .ok (.iconst (-1), 1) := by decide +kernel
theorem dX8_lots_26 : decode cX8_lots 26 = .ok (.ireturn, 1) := by decide +kernel
theorem dX8_lots_27 : decode cX8_lots 27 = .ok (.iload 4, 2) := by decide +kernel
theorem dX8_lots_29 : decode cX8_lots 29 = .ok (.istore 5, 2) := by decide +kernel
theorem dX8_lots_31 : decode cX8_lots 31 = .ok (.iconst 0, 1) := by decide +kernel
theorem dX8_lots_32 : decode cX8_lots 32 = .ok (.istore 6, 2) := by decide +kernel
theorem dX8_lots_34 : decode cX8_lots 34 = .ok (.aload_n 0, 1) := by decide +kernel
theorem dX8_lots_35 : decode cX8_lots 35 = .ok (.getfield 25, 3) := by decide +kernel
theorem dX8_lots_38 : decode cX8_lots 38 = .ok (.aload_n 0, 1) := by decide +kernel
theorem dX8_lots_39 : decode cX8_lots 39 = .ok (.getfield 14, 3) := by decide +kernel
theorem dX8_lots_42 : decode cX8_lots 42 = .ok (.invokevirtual 146, 3) := by decide +kernel
theorem dX8_lots_45 : decode cX8_lots 45 = .ok (.iconst 0, 1) := by decide +kernel
theorem dX8_lots_46 : decode cX8_lots 46 = .ok (.istore 7, 2) := by decide +kernel
theorem dX8_lots_48 : decode cX8_lots 48 = .ok (.iload 7, 2) := by decide +kernel
theorem dX8_lots_50 : decode cX8_lots 50 = .ok (.iload_n 3, 1) := by decide +kernel
theorem dX8_lots_51 : decode cX8_lots 51 = .ok (.if_icmp .ge 74, 3) := by decide +kernel
theorem dX8_lots_54 : decode cX8_lots 54 = .ok (.aload_n 0, 1) := by decide +kernel
theorem dX8_lots_55 : decode cX8_lots 55 = .ok (.getfield 25, 3) := by decide +kernel
theorem dX8_lots_58 : decode cX8_lots 58 = .ok (.iconst 0, 1) := by decide +kernel
theorem dX8_lots_59 : decode cX8_lots 59 = .ok (.putfield 93, 3) := by decide +kernel
theorem dX8_lots_62 : decode cX8_lots 62 = .ok (.iconst 0, 1) := by decide +kernel
theorem dX8_lots_63 : decode cX8_lots 63 = .ok (.istore 8, 2) := by decide +kernel
theorem dX8_lots_65 : decode cX8_lots 65 = .ok (.iload 8, 2) := by decide +kernel
theorem dX8_lots_67 : decode cX8_lots 67 = .ok (.bipush 10, 2) := by decide +kernel
theorem dX8_lots_69 : decode cX8_lots 69 = .ok (.if_icmp .ge 38, 3) := by decide +kernel
theorem dX8_lots_72 : decode cX8_lots 72 = .ok (.iload 5, 2) := by decide +kernel
theorem dX8_lots_74 : decode cX8_lots 74 = .ok (.invokestatic 269, 3) := by decide +kernel
theorem dX8_lots_77 : decode cX8_lots 77 = .ok (.istore 5, 2) := by decide +kernel
theorem dX8_lots_79 : decode cX8_lots 79 = .ok (.aload_n 0, 1) := by decide +kernel
theorem dX8_lots_80 : decode cX8_lots 80 = .ok (.getfield 25, 3) := by decide +kernel
theorem dX8_lots_83 : decode cX8_lots 83 = .ok (.dup, 1) := by decide +kernel
theorem dX8_lots_84 : decode cX8_lots 84 = .ok (.getfield 93, 3) := by decide +kernel
theorem dX8_lots_87 : decode cX8_lots 87 = .ok (.iload 8, 2) := by decide +kernel
theorem dX8_lots_89 : decode cX8_lots 89 = .ok (.iload 5, 2) := by decide +kernel
theorem dX8_lots_91 : decode cX8_lots 91 = .ok (.invokestatic 272, 3) := by decide +kernel
theorem dX8_lots_94 : decode cX8_lots 94 = .ok (.invokestatic 275, 3) := by decide +kernel
theorem dX8_lots_97 : decode cX8_lots 97 = .ok (.ior, 1) := by decide +kernel
theorem dX8_lots_98 : decode cX8_lots 98 = .ok (.putfield 93, 3) := by decide +kernel
theorem dX8_lots_101 : decode cX8_lots 101 = .ok (.iinc 8 1, 3) := by decide +kernel
theorem dX8_lots_104 : decode cX8_lots 104 = .ok (.goto (-39), 3) := by decide +kernel
theorem dX8_lots_107 : decode cX8_lots 107 = .ok (.aload_n 0, 1) := by decide +kernel
theorem dX8_lots_108 : decode cX8_lots 108 = .ok (.iload_n 2, 1) := by decide +kernel
theorem dX8_lots_109 : decode cX8_lots 109 = .ok (.iload_n 1, 1) := by decide +kernel
theorem dX8_lots_110 : decode cX8_lots 110 = .ok (.invokevirtual 266, 3) := by decide +kernel
theorem dX8_lots_113 : decode cX8_lots 113 = .ok (.ifCond .eq 6, 3) := by decide +kernel
theorem dX8_lots_116 : decode cX8_lots 116 = .ok (.iinc 6 1, 3) := by decide +kernel
theorem dX8_lots_119 : decode cX8_lots 119 = .ok (.iinc 7 1, 3) := by decide +kernel
theorem dX8_lots_122 : decode cX8_lots 122 = .ok (.goto (-74), 3) := by decide +kernel
theorem dX8_lots_125 : decode cX8_lots 125 = .ok (.iload 6, 2) := by decide +kernel
theorem dX8_lots_127 : decode cX8_lots 127 = .ok (.ireturn, 1) := by decide +kernel
set_option maxRecDepth 20000 in
theorem ggX8_judge_X8_isList : GoodIn wsX8_judge wsX8_isList := goodIn_r _ [6] (by decide +kernel) (by decide +kernel)
set_option maxRecDepth 20000 in
theorem gX8_judge_X8_isList : GoodIn wsX8_judge (va_wsS RX8 278 yX8_isList wsX8_isList) := goodIn_app (goodIn_of _ (by decide +kernel)) ggX8_judge_X8_isList
set_option maxRecDepth 20000 in
theorem ggX8_judge_X8_isTag : GoodIn wsX8_judge wsX8_isTag := goodIn_r _ [9] (by decide +kernel) (by decide +kernel)
set_option maxRecDepth 20000 in
theorem gX8_judge_X8_isTag : GoodIn wsX8_judge (va_wsS RX8 215 yX8_isTag wsX8_isTag) := goodIn_app (goodIn_of _ (by decide +kernel)) ggX8_judge_X8_isTag
set_option maxRecDepth 20000 in
theorem ggX8_judge_X5_holds : GoodIn wsX8_judge wsX5_holds := goodIn_r _ [14, 15, 154, 155] (by decide +kernel) (by decide +kernel)
set_option maxRecDepth 20000 in
theorem gX8_judge_X5_holds : GoodIn wsX8_judge (wsV RX8 281 RX5 yX5_holds wsX5_holds) := goodIn_app (goodIn_of _ (by decide +kernel)) ggX8_judge_X5_holds
set_option maxRecDepth 20000 in
theorem ggX8_judge_X5_at : GoodIn wsX8_judge wsX5_at := goodIn_r _ [19, 20, 154, 155] (by decide +kernel) (by decide +kernel)
set_option maxRecDepth 20000 in
theorem gX8_judge_X5_at : GoodIn wsX8_judge (wsV RX8 286 RX5 yX5_at wsX5_at) := goodIn_app (goodIn_of _ (by decide +kernel)) ggX8_judge_X5_at
set_option maxRecDepth 20000 in
theorem ggX8_judge_X8_settled : GoodIn wsX8_judge wsX8_settled := goodIn_r _ [24, 25, 26, 27, 28, 29, 30, 31, 32, 33, 34, 35, 36, 37, 38, 39, 40, 41, 42, 43, 44, 45, 46, 47, 48, 49, 50, 51, 52, 53, 54, 55, 56, 57, 58, 59, 60, 61, 62, 63, 64, 65, 66, 67, 68, 69, 5, 70, 71, 72, 73, 74, 75, 76, 77, 78, 79, 80, 81, 82, 83, 84, 85, 86, 87, 88, 89, 90, 91, 92, 93, 94, 95, 96, 97, 98, 99, 100, 101, 102, 103, 104, 105, 106, 107, 108, 109, 110, 111, 112, 113, 114, 115, 116, 117, 118, 119, 120, 121, 122, 123, 124, 125, 126, 127, 128, 129, 130, 131, 132, 133, 134, 135, 136, 137, 142, 143, 144, 145, 146, 147, 148, 149, 150, 151, 152, 153, 156, 157, 158, 159, 160, 161, 162, 163, 164, 165, 166, 167, 168, 169, 170, 171, 172, 173, 174, 175, 176, 177, 178, 179] (by decide +kernel) (by decide +kernel)
set_option maxRecDepth 20000 in
theorem gX8_judge_X8_settled : GoodIn wsX8_judge (wsV RX8 176 RX8 yX8_settled wsX8_settled) := goodIn_app (goodIn_of _ (by decide +kernel)) ggX8_judge_X8_settled
set_option maxRecDepth 20000 in
theorem ggX8_judge_X4_roundOf : GoodIn wsX8_judge wsX4_roundOf := goodIn_r _ [141, 33, 156, 157, 158] (by decide +kernel) (by decide +kernel)
set_option maxRecDepth 20000 in
theorem gX8_judge_X4_roundOf : GoodIn wsX8_judge (wsV RX8 218 RX4 yX4_roundOf wsX4_roundOf) := goodIn_app (goodIn_of _ (by decide +kernel)) ggX8_judge_X4_roundOf
theorem dX8_judge_0 : decode cX8_judge 0 = .ok (.iload_n 1, 1) := by decide +kernel
theorem dX8_judge_1 : decode cX8_judge 1 = .ok (.invokestatic 278, 3) := by decide +kernel
theorem dX8_judge_4 : decode cX8_judge 4 = .ok (.ifCond .eq 14, 3) := by decide +kernel
theorem dX8_judge_7 : decode cX8_judge 7 = .ok (.iload_n 2, 1) := by decide +kernel
theorem dX8_judge_8 : decode cX8_judge 8 = .ok (.ifCond .lt 10, 3) := by decide +kernel
theorem dX8_judge_11 : decode cX8_judge 11 = .ok (.iload_n 3, 1) := by decide +kernel
theorem dX8_judge_12 : decode cX8_judge 12 = .ok (.invokestatic 215, 3) := by decide +kernel
theorem dX8_judge_15 : decode cX8_judge 15 = .ok (.ifCond .ne 5, 3) := by decide +kernel
theorem dX8_judge_18 : decode cX8_judge 18 = .ok (.iconst (-1), 1) := by decide +kernel
theorem dX8_judge_19 : decode cX8_judge 19 = .ok (.ireturn, 1) := by decide +kernel
theorem dX8_judge_20 : decode cX8_judge 20 = .ok (.aload_n 0, 1) := by decide +kernel
theorem dX8_judge_21 : decode cX8_judge 21 = .ok (.getfield 65, 3) := by decide +kernel
theorem dX8_judge_24 : decode cX8_judge 24 = .ok (.iload_n 1, 1) := by decide +kernel
theorem dX8_judge_25 : decode cX8_judge 25 = .ok (.invokevirtual 281, 3) := by decide +kernel
theorem dX8_judge_28 : decode cX8_judge 28 = .ok (.ifCond .ne 6, 3) := by decide +kernel
theorem dX8_judge_31 : decode cX8_judge 31 = .ok (.bipush (-11), 2) := by decide +kernel
theorem dX8_judge_33 : decode cX8_judge 33 = .ok (.ireturn, 1) := by decide +kernel
theorem dX8_judge_34 : decode cX8_judge 34 = .ok (.iconst 0, 1) := by decide +kernel
theorem dX8_judge_35 : decode cX8_judge 35 = .ok (.istore 4, 2) := by decide +kernel
theorem dX8_judge_37 : decode cX8_judge 37 = .ok (.iload 4, 2) := by decide +kernel
theorem dX8_judge_39 : decode cX8_judge 39 = .ok (.bipush 20, 2) := by decide +kernel
theorem dX8_judge_41 : decode cX8_judge 41 = .ok (.if_icmp .ge 59, 3) := by decide +kernel
theorem dX8_judge_44 : decode cX8_judge 44 = .ok (.iload_n 2, 1) := by decide +kernel
theorem dX8_judge_45 : decode cX8_judge 45 = .ok (.aload_n 0, 1) := by decide +kernel
theorem dX8_judge_46 : decode cX8_judge 46 = .ok (.getfield 65, 3) := by decide +kernel
theorem dX8_judge_49 : decode cX8_judge 49 = .ok (.getfield 284, 3) := by decide +kernel
theorem dX8_judge_52 : decode cX8_judge 52 = .ok (.iload_n 1, 1) := by decide +kernel
theorem dX8_judge_53 : decode cX8_judge 53 = .ok (.iaload, 1) := by decide +kernel
theorem dX8_judge_54 : decode cX8_judge 54 = .ok (.iload 4, 2) := by decide +kernel
theorem dX8_judge_56 : decode cX8_judge 56 = .ok (.isub, 1) := by decide +kernel
theorem dX8_judge_57 : decode cX8_judge 57 = .ok (.if_icmp .lt 9, 3) := by decide +kernel
theorem dX8_judge_60 : decode cX8_judge 60 = .ok (.bipush 100, 2) := by decide +kernel
theorem dX8_judge_62 : decode cX8_judge 62 = .ok (.iload 4, 2) := by decide +kernel
theorem dX8_judge_64 : decode cX8_judge 64 = .ok (.iadd, 1) := by decide +kernel
theorem dX8_judge_65 : decode cX8_judge 65 = .ok (.ireturn, 1) := by decide +kernel
theorem dX8_judge_66 : decode cX8_judge 66 = .ok (.aload_n 0, 1) := by decide +kernel
theorem dX8_judge_67 : decode cX8_judge 67 = .ok (.getfield 65, 3) := by decide +kernel
theorem dX8_judge_70 : decode cX8_judge 70 = .ok (.iload_n 1, 1) := by decide +kernel
theorem dX8_judge_71 : decode cX8_judge 71 = .ok (.iload_n 2, 1) := by decide +kernel
theorem dX8_judge_72 : decode cX8_judge 72 = .ok (.iload 4, 2) := by decide +kernel
theorem dX8_judge_74 : decode cX8_judge 74 = .ok (.iadd, 1) := by decide +kernel
theorem dX8_judge_75 : decode cX8_judge 75 = .ok (.invokevirtual 286, 3) := by decide +kernel
theorem dX8_judge_78 : decode cX8_judge 78 = .ok (.aload_n 0, 1) := by decide +kernel
theorem dX8_judge_79 : decode cX8_judge 79 = .ok (.invokevirtual 176, 3) := by decide +kernel
theorem dX8_judge_82 : decode cX8_judge 82 = .ok (.iload_n 3, 1) := by decide +kernel
theorem dX8_judge_83 : decode cX8_judge 83 = .ok (.iload 4, 2) := by decide +kernel
theorem dX8_judge_85 : decode cX8_judge 85 = .ok (.invokevirtual 218, 3) := by decide +kernel
theorem dX8_judge_88 : decode cX8_judge 88 = .ok (.if_icmp .eq 6, 3) := by decide +kernel
theorem dX8_judge_91 : decode cX8_judge 91 = .ok (.iload 4, 2) := by decide +kernel
theorem dX8_judge_93 : decode cX8_judge 93 = .ok (.ireturn, 1) := by decide +kernel
theorem dX8_judge_94 : decode cX8_judge 94 = .ok (.iinc 4 1, 3) := by decide +kernel
theorem dX8_judge_97 : decode cX8_judge 97 = .ok (.goto (-60), 3) := by decide +kernel
theorem dX8_judge_100 : decode cX8_judge 100 = .ok (.bipush (-2), 2) := by decide +kernel
theorem dX8_judge_102 : decode cX8_judge 102 = .ok (.ireturn, 1) := by decide +kernel
set_option maxRecDepth 20000 in
theorem ggX8_list_X8_isList : GoodIn wsX8_list wsX8_isList := goodIn_r _ [5] (by decide +kernel) (by decide +kernel)
set_option maxRecDepth 20000 in
theorem gX8_list_X8_isList : GoodIn wsX8_list (va_wsS RX8 278 yX8_isList wsX8_isList) := goodIn_app (goodIn_of _ (by decide +kernel)) ggX8_list_X8_isList
set_option maxRecDepth 20000 in
theorem ggX8_list_X5_make : GoodIn wsX8_list wsX5_make := goodIn_r _ [10, 11, 12, 13, 14, 15, 16, 29, 30] (by decide +kernel) (by decide +kernel)
set_option maxRecDepth 20000 in
theorem gX8_list_X5_make : GoodIn wsX8_list (wsV RX8 288 RX5 yX5_make wsX5_make) := goodIn_app (goodIn_of _ (by decide +kernel)) ggX8_list_X5_make
theorem dX8_list_0 : decode cX8_list 0 = .ok (.iload_n 1, 1) := by decide +kernel
theorem dX8_list_1 : decode cX8_list 1 = .ok (.invokestatic 278, 3) := by decide +kernel
theorem dX8_list_4 : decode cX8_list 4 = .ok (.ifCond .eq 9, 3) := by decide +kernel
theorem dX8_list_7 : decode cX8_list 7 = .ok (.iload_n 2, 1) := by decide +kernel
theorem dX8_list_8 : decode cX8_list 8 = .ok (.bipush 24, 2) := by decide +kernel
theorem dX8_list_10 : decode cX8_list 10 = .ok (.if_icmp .le 5, 3) := by decide +kernel
theorem dX8_list_13 : decode cX8_list 13 = .ok (.iconst (-1), 1) := by decide +kernel
theorem dX8_list_14 : decode cX8_list 14 = .ok (.ireturn, 1) := by decide +kernel
theorem dX8_list_15 : decode cX8_list 15 = .ok (.iload_n 2, 1) := by decide +kernel
theorem dX8_list_16 : decode cX8_list 16 = .ok (.ifCond .ge 6, 3) := by decide +kernel
theorem dX8_list_19 : decode cX8_list 19 = .ok (.bipush (-14), 2) := by decide +kernel
theorem dX8_list_21 : decode cX8_list 21 = .ok (.ireturn, 1) := by decide +kernel
theorem dX8_list_22 : decode cX8_list 22 = .ok (.aload_n 0, 1) := by decide +kernel
theorem dX8_list_23 : decode cX8_list 23 = .ok (.getfield 65, 3) := by decide +kernel
theorem dX8_list_26 : decode cX8_list 26 = .ok (.iload_n 1, 1) := by decide +kernel
theorem dX8_list_27 : decode cX8_list 27 = .ok (.iload_n 2, 1) := by decide +kernel
theorem dX8_list_28 : decode cX8_list 28 = .ok (.invokevirtual 288, 3) := by decide +kernel
theorem dX8_list_31 : decode cX8_list 31 = .ok (.iconst 1, 1) := by decide +kernel
theorem dX8_list_32 : decode cX8_list 32 = .ok (.ireturn, 1) := by decide +kernel
set_option maxRecDepth 20000 in
theorem ggX8_set_X8_isList : GoodIn wsX8_set wsX8_isList := goodIn_r _ [5] (by decide +kernel) (by decide +kernel)
set_option maxRecDepth 20000 in
theorem gX8_set_X8_isList : GoodIn wsX8_set (va_wsS RX8 278 yX8_isList wsX8_isList) := goodIn_app (goodIn_of _ (by decide +kernel)) ggX8_set_X8_isList
set_option maxRecDepth 20000 in
theorem ggX8_set_X5_holds : GoodIn wsX8_set wsX5_holds := goodIn_r _ [10, 11, 33, 34] (by decide +kernel) (by decide +kernel)
set_option maxRecDepth 20000 in
theorem gX8_set_X5_holds : GoodIn wsX8_set (wsV RX8 281 RX5 yX5_holds wsX5_holds) := goodIn_app (goodIn_of _ (by decide +kernel)) ggX8_set_X5_holds
set_option maxRecDepth 20000 in
theorem ggX8_set_X5_hasPlace : GoodIn wsX8_set wsX5_hasPlace := goodIn_r _ [15, 11, 33, 34] (by decide +kernel) (by decide +kernel)
set_option maxRecDepth 20000 in
theorem gX8_set_X5_hasPlace : GoodIn wsX8_set (wsV RX8 292 RX5 yX5_hasPlace wsX5_hasPlace) := goodIn_app (goodIn_of _ (by decide +kernel)) ggX8_set_X5_hasPlace
set_option maxRecDepth 20000 in
theorem ggX8_set_X5_put : GoodIn wsX8_set wsX5_put := goodIn_r _ [19, 20, 33, 34] (by decide +kernel) (by decide +kernel)
set_option maxRecDepth 20000 in
theorem gX8_set_X5_put : GoodIn wsX8_set (wsV RX8 295 RX5 yX5_put wsX5_put) := goodIn_app (goodIn_of _ (by decide +kernel)) ggX8_set_X5_put
theorem dX8_set_0 : decode cX8_set 0 = .ok (.iload_n 1, 1) := by decide +kernel
theorem dX8_set_1 : decode cX8_set 1 = .ok (.invokestatic 278, 3) := by decide +kernel
theorem dX8_set_4 : decode cX8_set 4 = .ok (.ifCond .ne 5, 3) := by decide +kernel
theorem dX8_set_7 : decode cX8_set 7 = .ok (.iconst (-1), 1) := by decide +kernel
theorem dX8_set_8 : decode cX8_set 8 = .ok (.ireturn, 1) := by decide +kernel
theorem dX8_set_9 : decode cX8_set 9 = .ok (.aload_n 0, 1) := by decide +kernel
theorem dX8_set_10 : decode cX8_set 10 = .ok (.getfield 65, 3) := by decide +kernel
theorem dX8_set_13 : decode cX8_set 13 = .ok (.iload_n 1, 1) := by decide +kernel
theorem dX8_set_14 : decode cX8_set 14 = .ok (.invokevirtual 281, 3) := by decide +kernel
theorem dX8_set_17 : decode cX8_set 17 = .ok (.ifCond .ne 6, 3) := by decide +kernel
theorem dX8_set_20 : decode cX8_set 20 = .ok (.bipush (-11), 2) := by decide +kernel
theorem dX8_set_22 : decode cX8_set 22 = .ok (.ireturn, 1) := by decide +kernel
theorem dX8_set_23 : decode cX8_set 23 = .ok (.aload_n 0, 1) := by decide +kernel
theorem dX8_set_24 : decode cX8_set 24 = .ok (.getfield 65, 3) := by decide +kernel
theorem dX8_set_27 : decode cX8_set 27 = .ok (.iload_n 1, 1) := by decide +kernel
theorem dX8_set_28 : decode cX8_set 28 = .ok (.iload_n 2, 1) := by decide +kernel
theorem dX8_set_29 : decode cX8_set 29 = .ok (.invokevirtual 292, 3) := by decide +kernel
theorem dX8_set_32 : decode cX8_set 32 = .ok (.ifCond .ne 6, 3) := by decide +kernel
theorem dX8_set_35 : decode cX8_set 35 = .ok (.bipush (-13), 2) := by decide +kernel
theorem dX8_set_37 : decode cX8_set 37 = .ok (.ireturn, 1) := by decide +kernel
theorem dX8_set_38 : decode cX8_set 38 = .ok (.aload_n 0, 1) := by decide +kernel
theorem dX8_set_39 : decode cX8_set 39 = .ok (.getfield 65, 3) := by decide +kernel
theorem dX8_set_42 : decode cX8_set 42 = .ok (.iload_n 1, 1) := by decide +kernel
theorem dX8_set_43 : decode cX8_set 43 = .ok (.iload_n 2, 1) := by decide +kernel
theorem dX8_set_44 : decode cX8_set 44 = .ok (.iload_n 3, 1) := by decide +kernel
theorem dX8_set_45 : decode cX8_set 45 = .ok (.invokevirtual 295, 3) := by decide +kernel
theorem dX8_set_48 : decode cX8_set 48 = .ok (.iconst 1, 1) := by decide +kernel
theorem dX8_set_49 : decode cX8_set 49 = .ok (.ireturn, 1) := by decide +kernel
set_option maxRecDepth 20000 in
theorem ggX8_get_X8_isList : GoodIn wsX8_get wsX8_isList := goodIn_r _ [6] (by decide +kernel) (by decide +kernel)
set_option maxRecDepth 20000 in
theorem gX8_get_X8_isList : GoodIn wsX8_get (va_wsS RX8 278 yX8_isList wsX8_isList) := goodIn_app (goodIn_of _ (by decide +kernel)) ggX8_get_X8_isList
set_option maxRecDepth 20000 in
theorem ggX8_get_X5_holds : GoodIn wsX8_get wsX5_holds := goodIn_r _ [11, 12, 34, 35] (by decide +kernel) (by decide +kernel)
set_option maxRecDepth 20000 in
theorem gX8_get_X5_holds : GoodIn wsX8_get (wsV RX8 281 RX5 yX5_holds wsX5_holds) := goodIn_app (goodIn_of _ (by decide +kernel)) ggX8_get_X5_holds
set_option maxRecDepth 20000 in
theorem ggX8_get_X5_hasPlace : GoodIn wsX8_get wsX5_hasPlace := goodIn_r _ [16, 12, 34, 35] (by decide +kernel) (by decide +kernel)
set_option maxRecDepth 20000 in
theorem gX8_get_X5_hasPlace : GoodIn wsX8_get (wsV RX8 292 RX5 yX5_hasPlace wsX5_hasPlace) := goodIn_app (goodIn_of _ (by decide +kernel)) ggX8_get_X5_hasPlace
set_option maxRecDepth 20000 in
theorem ggX8_get_X5_at : GoodIn wsX8_get wsX5_at := goodIn_r _ [20, 21, 34, 35] (by decide +kernel) (by decide +kernel)
set_option maxRecDepth 20000 in
theorem gX8_get_X5_at : GoodIn wsX8_get (wsV RX8 286 RX5 yX5_at wsX5_at) := goodIn_app (goodIn_of _ (by decide +kernel)) ggX8_get_X5_at
theorem dX8_get_0 : decode cX8_get 0 = .ok (.iload_n 1, 1) := by decide +kernel
theorem dX8_get_1 : decode cX8_get 1 = .ok (.invokestatic 278, 3) := by decide +kernel
theorem dX8_get_4 : decode cX8_get 4 = .ok (.ifCond .eq 26, 3) := by decide +kernel
theorem dX8_get_7 : decode cX8_get 7 = .ok (.aload_n 0, 1) := by decide +kernel
theorem dX8_get_8 : decode cX8_get 8 = .ok (.getfield 65, 3) := by decide +kernel
theorem dX8_get_11 : decode cX8_get 11 = .ok (.iload_n 1, 1) := by decide +kernel
theorem dX8_get_12 : decode cX8_get 12 = .ok (.invokevirtual 281, 3) := by decide +kernel
theorem dX8_get_15 : decode cX8_get 15 = .ok (.ifCond .eq 15, 3) := by decide +kernel
theorem dX8_get_18 : decode cX8_get 18 = .ok (.aload_n 0, 1) := by decide +kernel
theorem dX8_get_19 : decode cX8_get 19 = .ok (.getfield 65, 3) := by decide +kernel
theorem dX8_get_22 : decode cX8_get 22 = .ok (.iload_n 1, 1) := by decide +kernel
theorem dX8_get_23 : decode cX8_get 23 = .ok (.iload_n 2, 1) := by decide +kernel
theorem dX8_get_24 : decode cX8_get 24 = .ok (.invokevirtual 292, 3) := by decide +kernel
theorem dX8_get_27 : decode cX8_get 27 = .ok (.ifCond .ne 7, 3) := by decide +kernel
theorem dX8_get_30 : decode cX8_get 30 = .ok (.ldc2_w 299, 3) := by decide +kernel
theorem dX8_get_33 : decode cX8_get 33 = .ok (.lreturn, 1) := by decide +kernel
theorem dX8_get_34 : decode cX8_get 34 = .ok (.aload_n 0, 1) := by decide +kernel
theorem dX8_get_35 : decode cX8_get 35 = .ok (.getfield 65, 3) := by decide +kernel
theorem dX8_get_38 : decode cX8_get 38 = .ok (.iload_n 1, 1) := by decide +kernel
theorem dX8_get_39 : decode cX8_get 39 = .ok (.iload_n 2, 1) := by decide +kernel
theorem dX8_get_40 : decode cX8_get 40 = .ok (.invokevirtual 286, 3) := by decide +kernel
theorem dX8_get_43 : decode cX8_get 43 = .ok (.i2l, 1) := by decide +kernel
theorem dX8_get_44 : decode cX8_get 44 = .ok (.lreturn, 1) := by decide +kernel
set_option maxRecDepth 20000 in
theorem ggX8_undo_X1_stepBack : GoodIn wsX8_undo wsX1_stepBack := goodIn_r _ [9, 10, 11, 12, 13, 14, 15, 16, 17, 18, 19, 20, 21, 22, 23, 24, 25, 26, 27, 28, 29, 30, 43, 44, 45, 46, 47, 48, 49, 50, 51, 52, 53, 54] (by decide +kernel) (by decide +kernel)
set_option maxRecDepth 20000 in
theorem gX8_undo_X1_stepBack : GoodIn wsX8_undo (wsV RX8 301 RX1 yX1_stepBack wsX1_stepBack) := goodIn_app (goodIn_of _ (by decide +kernel)) ggX8_undo_X1_stepBack
theorem dX8_undo_0 : decode cX8_undo 0 = .ok (.aload_n 0, 1) := by decide +kernel
theorem dX8_undo_1 : decode cX8_undo 1 = .ok (.getfield 41, 3) := by decide +kernel
theorem dX8_undo_4 : decode cX8_undo 4 = .ok (.aload_n 0, 1) := by decide +kernel
theorem dX8_undo_5 : decode cX8_undo 5 = .ok (.getfield 14, 3) := by decide +kernel
theorem dX8_undo_8 : decode cX8_undo 8 = .ok (.invokevirtual 301, 3) := by decide +kernel
theorem dX8_undo_11 : decode cX8_undo 11 = .ok (.ifCond .ne 6, 3) := by decide +kernel
theorem dX8_undo_14 : decode cX8_undo 14 = .ok (.bipush (-5), 2) := by decide +kernel
theorem dX8_undo_16 : decode cX8_undo 16 = .ok (.ireturn, 1) := by decide +kernel
theorem dX8_undo_17 : decode cX8_undo 17 = .ok (.aload_n 0, 1) := by decide +kernel
theorem dX8_undo_18 : decode cX8_undo 18 = .ok (.iconst 0, 1) := by decide +kernel
theorem dX8_undo_19 : decode cX8_undo 19 = .ok (.putfield 73, 3) := by decide +kernel
theorem dX8_undo_22 : decode cX8_undo 22 = .ok (.aload_n 0, 1) := by decide +kernel
theorem dX8_undo_23 : decode cX8_undo 23 = .ok (.getfield 41, 3) := by decide +kernel
theorem dX8_undo_26 : decode cX8_undo 26 = .ok (.getfield 208, 3) := by decide +kernel
theorem dX8_undo_29 : decode cX8_undo 29 = .ok (.ireturn, 1) := by decide +kernel
set_option maxRecDepth 20000 in
theorem ggX8_redo_X1_stepOn : GoodIn wsX8_redo wsX1_stepOn := goodIn_r _ [9, 10, 11, 12, 13, 14, 15, 16, 17, 18, 19, 20, 21, 22, 23, 24, 25, 26, 27, 28, 29, 30, 43, 44, 45, 46, 47, 48, 49, 50, 51, 52, 53, 54] (by decide +kernel) (by decide +kernel)
set_option maxRecDepth 20000 in
theorem gX8_redo_X1_stepOn : GoodIn wsX8_redo (wsV RX8 305 RX1 yX1_stepOn wsX1_stepOn) := goodIn_app (goodIn_of _ (by decide +kernel)) ggX8_redo_X1_stepOn
theorem dX8_redo_0 : decode cX8_redo 0 = .ok (.aload_n 0, 1) := by decide +kernel
theorem dX8_redo_1 : decode cX8_redo 1 = .ok (.getfield 41, 3) := by decide +kernel
theorem dX8_redo_4 : decode cX8_redo 4 = .ok (.aload_n 0, 1) := by decide +kernel
theorem dX8_redo_5 : decode cX8_redo 5 = .ok (.getfield 14, 3) := by decide +kernel
theorem dX8_redo_8 : decode cX8_redo 8 = .ok (.invokevirtual 305, 3) := by decide +kernel
theorem dX8_redo_11 : decode cX8_redo 11 = .ok (.ifCond .ne 6, 3) := by decide +kernel
theorem dX8_redo_14 : decode cX8_redo 14 = .ok (.bipush (-5), 2) := by decide +kernel
theorem dX8_redo_16 : decode cX8_redo 16 = .ok (.ireturn, 1) := by decide +kernel
theorem dX8_redo_17 : decode cX8_redo 17 = .ok (.aload_n 0, 1) := by decide +kernel
theorem dX8_redo_18 : decode cX8_redo 18 = .ok (.iconst 0, 1) := by decide +kernel
theorem dX8_redo_19 : decode cX8_redo 19 = .ok (.putfield 73, 3) := by decide +kernel
theorem dX8_redo_22 : decode cX8_redo 22 = .ok (.aload_n 0, 1) := by decide +kernel
theorem dX8_redo_23 : decode cX8_redo 23 = .ok (.getfield 41, 3) := by decide +kernel
theorem dX8_redo_26 : decode cX8_redo 26 = .ok (.getfield 211, 3) := by decide +kernel
theorem dX8_redo_29 : decode cX8_redo 29 = .ok (.ireturn, 1) := by decide +kernel
set_option maxRecDepth 20000 in
theorem ggX8_image_X0_copyFrom : GoodIn wsX8_image wsX0_copyFrom := goodIn_r _ [9, 10, 11, 12, 13, 14, 15, 16, 17, 18, 19, 20, 21, 22, 35, 36, 37, 38, 39, 40, 41, 42, 43] (by decide +kernel) (by decide +kernel)
set_option maxRecDepth 20000 in
theorem gX8_image_X0_copyFrom : GoodIn wsX8_image (wsV RX8 146 RX0 yX0_copyFrom wsX0_copyFrom) := goodIn_app (goodIn_of _ (by decide +kernel)) ggX8_image_X0_copyFrom
theorem dX8_image_0 : decode cX8_image 0 = .ok (.aload_n 0, 1) := by decide +kernel
theorem dX8_image_1 : decode cX8_image 1 = .ok (.getfield 45, 3) := by decide +kernel
theorem dX8_image_4 : decode cX8_image 4 = .ok (.aload_n 0, 1) := by decide +kernel
theorem dX8_image_5 : decode cX8_image 5 = .ok (.getfield 14, 3) := by decide +kernel
theorem dX8_image_8 : decode cX8_image 8 = .ok (.invokevirtual 146, 3) := by decide +kernel
theorem dX8_image_11 : decode cX8_image 11 = .ok (.aload_n 0, 1) := by decide +kernel
theorem dX8_image_12 : decode cX8_image 12 = .ok (.iconst 1, 1) := by decide +kernel
theorem dX8_image_13 : decode cX8_image 13 = .ok (.putfield 69, 3) := by decide +kernel
theorem dX8_image_16 : decode cX8_image 16 = .ok (.aload_n 0, 1) := by decide +kernel
theorem dX8_image_17 : decode cX8_image 17 = .ok (.getfield 45, 3) := by decide +kernel
theorem dX8_image_20 : decode cX8_image 20 = .ok (.getfield 76, 3) := by decide +kernel
theorem dX8_image_23 : decode cX8_image 23 = .ok (.ireturn, 1) := by decide +kernel
set_option maxRecDepth 20000 in
theorem ggX8_back_X0_copyFrom : GoodIn wsX8_back wsX0_copyFrom := goodIn_r _ [9, 10, 11, 12, 13, 14, 15, 16, 17, 18, 19, 20, 21, 22, 51, 52, 53, 54, 55, 56, 57, 58, 59] (by decide +kernel) (by decide +kernel)
set_option maxRecDepth 20000 in
theorem gX8_back_X0_copyFrom : GoodIn wsX8_back (wsV RX8 146 RX0 yX0_copyFrom wsX0_copyFrom) := goodIn_app (goodIn_of _ (by decide +kernel)) ggX8_back_X0_copyFrom
set_option maxRecDepth 20000 in
theorem ggX8_back_X8_restart : GoodIn wsX8_back wsX8_restart := goodIn_r _ [27, 28, 2, 29, 30, 31, 32, 33, 34, 35, 36, 37, 38, 6, 7, 8, 9, 10, 11, 12, 13, 14, 15, 16, 17, 18, 19, 20, 21, 22, 39, 40, 41, 42, 43, 44, 45, 46, 47, 48, 49, 50, 60, 61, 62, 51, 52, 53, 54, 55, 56, 57, 58, 59] (by decide +kernel) (by decide +kernel)
set_option maxRecDepth 20000 in
theorem gX8_back_X8_restart : GoodIn wsX8_back (wsV RX8 83 RX8 yX8_restart wsX8_restart) := goodIn_app (goodIn_of _ (by decide +kernel)) ggX8_back_X8_restart
theorem dX8_back_0 : decode cX8_back 0 = .ok (.aload_n 0, 1) := by decide +kernel
theorem dX8_back_1 : decode cX8_back 1 = .ok (.getfield 69, 3) := by decide +kernel
theorem dX8_back_4 : decode cX8_back 4 = .ok (.ifCond .ne 6, 3) := by decide +kernel
theorem dX8_back_7 : decode cX8_back 7 = .ok (.bipush (-5), 2) := by decide +kernel
theorem dX8_back_9 : decode cX8_back 9 = .ok (.ireturn, 1) := by decide +kernel
theorem dX8_back_10 : decode cX8_back 10 = .ok (.aload_n 0, 1) := by decide +kernel
theorem dX8_back_11 : decode cX8_back 11 = .ok (.getfield 14, 3) := by decide +kernel
theorem dX8_back_14 : decode cX8_back 14 = .ok (.aload_n 0, 1) := by decide +kernel
theorem dX8_back_15 : decode cX8_back 15 = .ok (.getfield 45, 3) := by decide +kernel
theorem dX8_back_18 : decode cX8_back 18 = .ok (.invokevirtual 146, 3) := by decide +kernel
theorem dX8_back_21 : decode cX8_back 21 = .ok (.aload_n 0, 1) := by decide +kernel
theorem dX8_back_22 : decode cX8_back 22 = .ok (.invokevirtual 83, 3) := by decide +kernel
theorem dX8_back_25 : decode cX8_back 25 = .ok (.aload_n 0, 1) := by decide +kernel
theorem dX8_back_26 : decode cX8_back 26 = .ok (.getfield 14, 3) := by decide +kernel
theorem dX8_back_29 : decode cX8_back 29 = .ok (.getfield 76, 3) := by decide +kernel
theorem dX8_back_32 : decode cX8_back 32 = .ok (.ireturn, 1) := by decide +kernel
set_option maxRecDepth 20000 in
theorem ggX8_changed_X1_keep : GoodIn wsX8_changed wsX1_keep := goodIn_r _ [8, 9, 10, 11, 12, 13, 14, 7, 15, 16, 17, 18, 19, 20, 21, 22, 23, 24, 25, 26, 27, 28, 29, 30, 31, 32, 33, 46, 47, 48, 49, 50, 51, 52, 53, 54, 55, 56, 57] (by decide +kernel) (by decide +kernel)
set_option maxRecDepth 20000 in
theorem gX8_changed_X1_keep : GoodIn wsX8_changed (wsV RX8 308 RX1 yX1_keep wsX1_keep) := goodIn_app (goodIn_of _ (by decide +kernel)) ggX8_changed_X1_keep
theorem dX8_changed_0 : decode cX8_changed 0 = .ok (.aload_n 0, 1) := by decide +kernel
theorem dX8_changed_1 : decode cX8_changed 1 = .ok (.getfield 41, 3) := by decide +kernel
theorem dX8_changed_4 : decode cX8_changed 4 = .ok (.aload_n 0, 1) := by decide +kernel
theorem dX8_changed_5 : decode cX8_changed 5 = .ok (.getfield 14, 3) := by decide +kernel
theorem dX8_changed_8 : decode cX8_changed 8 = .ok (.invokevirtual 308, 3) := by decide +kernel
theorem dX8_changed_11 : decode cX8_changed 11 = .ok (.aload_n 0, 1) := by decide +kernel
theorem dX8_changed_12 : decode cX8_changed 12 = .ok (.iconst 0, 1) := by decide +kernel
theorem dX8_changed_13 : decode cX8_changed 13 = .ok (.putfield 73, 3) := by decide +kernel
theorem dX8_changed_16 : decode cX8_changed 16 = .ok (.return_, 1) := by decide +kernel
set_option maxRecDepth 20000 in
theorem ggX8_restart_X1_restart : GoodIn wsX8_restart wsX1_restart := goodIn_r _ [8, 9, 10, 11, 12, 13, 14, 15, 16, 17, 18, 19, 20, 21, 22, 23, 24, 25, 26, 27, 28, 29, 42, 43, 44, 45, 46, 47, 48, 49, 50, 51, 52, 53] (by decide +kernel) (by decide +kernel)
set_option maxRecDepth 20000 in
theorem gX8_restart_X1_restart : GoodIn wsX8_restart (wsV RX8 311 RX1 yX1_restart wsX1_restart) := goodIn_app (goodIn_of _ (by decide +kernel)) ggX8_restart_X1_restart
theorem dX8_restart_0 : decode cX8_restart 0 = .ok (.aload_n 0, 1) := by decide +kernel
theorem dX8_restart_1 : decode cX8_restart 1 = .ok (.getfield 41, 3) := by decide +kernel
theorem dX8_restart_4 : decode cX8_restart 4 = .ok (.aload_n 0, 1) := by decide +kernel
theorem dX8_restart_5 : decode cX8_restart 5 = .ok (.getfield 14, 3) := by decide +kernel
theorem dX8_restart_8 : decode cX8_restart 8 = .ok (.invokevirtual 311, 3) := by decide +kernel
theorem dX8_restart_11 : decode cX8_restart 11 = .ok (.aload_n 0, 1) := by decide +kernel
theorem dX8_restart_12 : decode cX8_restart 12 = .ok (.iconst 0, 1) := by decide +kernel
theorem dX8_restart_13 : decode cX8_restart 13 = .ok (.putfield 73, 3) := by decide +kernel
theorem dX8_restart_16 : decode cX8_restart 16 = .ok (.return_, 1) := by decide +kernel
set_option maxRecDepth 20000 in
theorem ggX8_settled_X4_come : GoodIn wsX8_settled wsX4_come := goodIn_r _ [8, 9, 10, 11, 12, 13, 14, 15, 16, 17, 18, 19, 20, 21, 22, 23, 24, 25, 26, 27, 28, 29, 30, 31, 32, 33, 34, 35, 36, 37, 38, 39, 40, 41, 42, 43, 44, 45, 46, 47, 48, 49, 50, 51, 52, 53, 54, 55, 56, 57, 58, 59, 60, 61, 62, 63, 64, 65, 66, 67, 68, 69, 70, 71, 72, 73, 74, 75, 76, 77, 78, 79, 80, 81, 82, 83, 84, 85, 86, 87, 88, 89, 90, 91, 92, 93, 94, 95, 96, 97, 98, 99, 100, 101, 102, 103, 104, 105, 106, 107, 108, 109, 110, 111, 7, 112, 113, 114, 127, 128, 129, 130, 131, 132, 133, 134, 135, 136, 137, 138, 139, 140, 141, 142, 143, 144, 145, 146, 147, 148, 149, 150] (by decide +kernel) (by decide +kernel)
set_option maxRecDepth 20000 in
theorem gX8_settled_X4_come : GoodIn wsX8_settled (wsV RX8 260 RX4 yX4_come wsX4_come) := goodIn_app (goodIn_of _ (by decide +kernel)) ggX8_settled_X4_come
theorem dX8_settled_0 : decode cX8_settled 0 = .ok (.aload_n 0, 1) := by decide +kernel
theorem dX8_settled_1 : decode cX8_settled 1 = .ok (.getfield 73, 3) := by decide +kernel
theorem dX8_settled_4 : decode cX8_settled 4 = .ok (.ifCond .ne 19, 3) := by decide +kernel
theorem dX8_settled_7 : decode cX8_settled 7 = .ok (.aload_n 0, 1) := by decide +kernel
theorem dX8_settled_8 : decode cX8_settled 8 = .ok (.getfield 21, 3) := by decide +kernel
theorem dX8_settled_11 : decode cX8_settled 11 = .ok (.aload_n 0, 1) := by decide +kernel
theorem dX8_settled_12 : decode cX8_settled 12 = .ok (.getfield 14, 3) := by decide +kernel
theorem dX8_settled_15 : decode cX8_settled 15 = .ok (.invokevirtual 260, 3) := by decide +kernel
theorem dX8_settled_18 : decode cX8_settled 18 = .ok (.aload_n 0, 1) := by decide +kernel
theorem dX8_settled_19 : decode cX8_settled 19 = .ok (.iconst 1, 1) := by decide +kernel
theorem dX8_settled_20 : decode cX8_settled 20 = .ok (.putfield 73, 3) := by decide +kernel
theorem dX8_settled_23 : decode cX8_settled 23 = .ok (.aload_n 0, 1) := by decide +kernel
theorem dX8_settled_24 : decode cX8_settled 24 = .ok (.getfield 21, 3) := by decide +kernel
theorem dX8_settled_27 : decode cX8_settled 27 = .ok (.areturn, 1) := by decide +kernel
set_option maxRecDepth 20000 in
theorem ggX8_comesInThought_X4_come : GoodIn wsX8_comesInThought wsX4_come := goodIn_r _ [7, 8, 9, 10, 11, 12, 13, 14, 15, 16, 17, 18, 19, 20, 21, 22, 23, 24, 25, 26, 27, 28, 29, 30, 31, 32, 33, 34, 35, 36, 37, 38, 39, 40, 41, 42, 43, 44, 45, 46, 47, 48, 49, 50, 51, 52, 53, 54, 55, 56, 57, 58, 59, 60, 61, 62, 63, 64, 65, 66, 67, 68, 69, 70, 71, 72, 73, 74, 75, 76, 77, 78, 79, 80, 81, 82, 83, 84, 85, 86, 87, 88, 89, 90, 91, 92, 93, 94, 95, 96, 97, 98, 99, 100, 101, 102, 103, 104, 105, 106, 107, 108, 109, 110, 6, 111, 112, 113, 130, 131, 132, 133, 134, 135, 136, 137, 138, 139, 140, 141, 142, 143, 144, 145, 146, 147, 148, 149, 150, 151, 152, 153] (by decide +kernel) (by decide +kernel)
set_option maxRecDepth 20000 in
theorem gX8_comesInThought_X4_come : GoodIn wsX8_comesInThought (wsV RX8 260 RX4 yX4_come wsX4_come) := goodIn_app (goodIn_of _ (by decide +kernel)) ggX8_comesInThought_X4_come
set_option maxRecDepth 20000 in
theorem ggX8_comesInThought_X4_roundOf : GoodIn wsX8_comesInThought wsX4_roundOf := goodIn_r _ [117, 8, 130, 131, 132] (by decide +kernel) (by decide +kernel)
set_option maxRecDepth 20000 in
theorem gX8_comesInThought_X4_roundOf : GoodIn wsX8_comesInThought (wsV RX8 218 RX4 yX4_roundOf wsX4_roundOf) := goodIn_app (goodIn_of _ (by decide +kernel)) ggX8_comesInThought_X4_roundOf
theorem dX8_comesInThought_0 : decode cX8_comesInThought 0 = .ok (.aload_n 0, 1) := by decide +kernel
theorem dX8_comesInThought_1 : decode cX8_comesInThought 1 = .ok (.getfield 28, 3) := by decide +kernel
theorem dX8_comesInThought_4 : decode cX8_comesInThought 4 = .ok (.aload_n 0, 1) := by decide +kernel
theorem dX8_comesInThought_5 : decode cX8_comesInThought 5 = .ok (.getfield 25, 3) := by decide +kernel
theorem dX8_comesInThought_8 : decode cX8_comesInThought 8 = .ok (.invokevirtual 260, 3) := by decide +kernel
theorem dX8_comesInThought_11 : decode cX8_comesInThought 11 = .ok (.aload_n 0, 1) := by decide +kernel
theorem dX8_comesInThought_12 : decode cX8_comesInThought 12 = .ok (.getfield 28, 3) := by decide +kernel
theorem dX8_comesInThought_15 : decode cX8_comesInThought 15 = .ok (.iload_n 1, 1) := by decide +kernel
theorem dX8_comesInThought_16 : decode cX8_comesInThought 16 = .ok (.iload_n 2, 1) := by decide +kernel
theorem dX8_comesInThought_17 : decode cX8_comesInThought 17 = .ok (.invokevirtual 218, 3) := by decide +kernel
theorem dX8_comesInThought_20 : decode cX8_comesInThought 20 = .ok (.ifCond .eq 7, 3) := by decide +kernel
theorem dX8_comesInThought_23 : decode cX8_comesInThought 23 = .ok (.iconst 1, 1) := by decide +kernel
theorem dX8_comesInThought_24 : decode cX8_comesInThought 24 = .ok (.goto 4, 3) := by decide +kernel
theorem dX8_comesInThought_27 : decode cX8_comesInThought 27 = .ok (.iconst 0, 1) := by decide +kernel
theorem dX8_comesInThought_28 : decode cX8_comesInThought 28 = .ok (.ireturn, 1) := by decide +kernel
theorem dX8_isLiteral_0 : decode cX8_isLiteral 0 = .ok (.iload_n 0, 1) := by decide +kernel
theorem dX8_isLiteral_1 : decode cX8_isLiteral 1 = .ok (.ifCond .lt 13, 3) := by decide +kernel
theorem dX8_isLiteral_4 : decode cX8_isLiteral 4 = .ok (.iload_n 0, 1) := by decide +kernel
theorem dX8_isLiteral_5 : decode cX8_isLiteral 5 = .ok (.bipush 20, 2) := by decide +kernel
theorem dX8_isLiteral_7 : decode cX8_isLiteral 7 = .ok (.if_icmp .ge 7, 3) := by decide +kernel
theorem dX8_isLiteral_10 : decode cX8_isLiteral 10 = .ok (.iconst 1, 1) := by decide +kernel
theorem dX8_isLiteral_11 : decode cX8_isLiteral 11 = .ok (.goto 4, 3) := by decide +kernel
theorem dX8_isLiteral_14 : decode cX8_isLiteral 14 = .ok (.iconst 0, 1) := by decide +kernel
theorem dX8_isLiteral_15 : decode cX8_isLiteral 15 = .ok (.ireturn, 1) := by decide +kernel
theorem dX8_areLiterals_0 : decode cX8_areLiterals 0 = .ok (.iload_n 0, 1) := by decide +kernel
theorem dX8_areLiterals_1 : decode cX8_areLiterals 1 = .ok (.ifCond .lt 14, 3) := by decide +kernel
theorem dX8_areLiterals_4 : decode cX8_areLiterals 4 = .ok (.iload_n 0, 1) := by decide +kernel
theorem dX8_areLiterals_5 : decode cX8_areLiterals 5 = .ok (.ldc_w 313, 3) := by decide +kernel
theorem dX8_areLiterals_8 : decode cX8_areLiterals 8 = .ok (.if_icmp .gt 7, 3) := by decide +kernel
theorem dX8_areLiterals_11 : decode cX8_areLiterals 11 = .ok (.iconst 1, 1) := by decide +kernel
theorem dX8_areLiterals_12 : decode cX8_areLiterals 12 = .ok (.goto 4, 3) := by decide +kernel
theorem dX8_areLiterals_15 : decode cX8_areLiterals 15 = .ok (.iconst 0, 1) := by decide +kernel
theorem dX8_areLiterals_16 : decode cX8_areLiterals 16 = .ok (.ireturn, 1) := by decide +kernel
theorem dX8_isTag_0 : decode cX8_isTag 0 = .ok (.iload_n 0, 1) := by decide +kernel
theorem dX8_isTag_1 : decode cX8_isTag 1 = .ok (.ifCond .lt 12, 3) := by decide +kernel
theorem dX8_isTag_4 : decode cX8_isTag 4 = .ok (.iload_n 0, 1) := by decide +kernel
theorem dX8_isTag_5 : decode cX8_isTag 5 = .ok (.iconst 4, 1) := by decide +kernel
theorem dX8_isTag_6 : decode cX8_isTag 6 = .ok (.if_icmp .ge 7, 3) := by decide +kernel
theorem dX8_isTag_9 : decode cX8_isTag 9 = .ok (.iconst 1, 1) := by decide +kernel
theorem dX8_isTag_10 : decode cX8_isTag 10 = .ok (.goto 4, 3) := by decide +kernel
theorem dX8_isTag_13 : decode cX8_isTag 13 = .ok (.iconst 0, 1) := by decide +kernel
theorem dX8_isTag_14 : decode cX8_isTag 14 = .ok (.ireturn, 1) := by decide +kernel
theorem dX8_isStrength_0 : decode cX8_isStrength 0 = .ok (.iload_n 0, 1) := by decide +kernel
theorem dX8_isStrength_1 : decode cX8_isStrength 1 = .ok (.ifCond .lt 13, 3) := by decide +kernel
theorem dX8_isStrength_4 : decode cX8_isStrength 4 = .ok (.iload_n 0, 1) := by decide +kernel
theorem dX8_isStrength_5 : decode cX8_isStrength 5 = .ok (.bipush 9, 2) := by decide +kernel
theorem dX8_isStrength_7 : decode cX8_isStrength 7 = .ok (.if_icmp .gt 7, 3) := by decide +kernel
theorem dX8_isStrength_10 : decode cX8_isStrength 10 = .ok (.iconst 1, 1) := by decide +kernel
theorem dX8_isStrength_11 : decode cX8_isStrength 11 = .ok (.goto 4, 3) := by decide +kernel
theorem dX8_isStrength_14 : decode cX8_isStrength 14 = .ok (.iconst 0, 1) := by decide +kernel
theorem dX8_isStrength_15 : decode cX8_isStrength 15 = .ok (.ireturn, 1) := by decide +kernel
theorem dX8_isYesOrNo_0 : decode cX8_isYesOrNo 0 = .ok (.iload_n 0, 1) := by decide +kernel
theorem dX8_isYesOrNo_1 : decode cX8_isYesOrNo 1 = .ok (.ifCond .eq 8, 3) := by decide +kernel
theorem dX8_isYesOrNo_4 : decode cX8_isYesOrNo 4 = .ok (.iload_n 0, 1) := by decide +kernel
theorem dX8_isYesOrNo_5 : decode cX8_isYesOrNo 5 = .ok (.iconst 1, 1) := by decide +kernel
theorem dX8_isYesOrNo_6 : decode cX8_isYesOrNo 6 = .ok (.if_icmp .ne 7, 3) := by decide +kernel
theorem dX8_isYesOrNo_9 : decode cX8_isYesOrNo 9 = .ok (.iconst 1, 1) := by decide +kernel
theorem dX8_isYesOrNo_10 : decode cX8_isYesOrNo 10 = .ok (.goto 4, 3) := by decide +kernel
theorem dX8_isYesOrNo_13 : decode cX8_isYesOrNo 13 = .ok (.iconst 0, 1) := by decide +kernel
theorem dX8_isYesOrNo_14 : decode cX8_isYesOrNo 14 = .ok (.ireturn, 1) := by decide +kernel
theorem dX8_isList_0 : decode cX8_isList 0 = .ok (.iload_n 0, 1) := by decide +kernel
theorem dX8_isList_1 : decode cX8_isList 1 = .ok (.ifCond .lt 12, 3) := by decide +kernel
theorem dX8_isList_4 : decode cX8_isList 4 = .ok (.iload_n 0, 1) := by decide +kernel
theorem dX8_isList_5 : decode cX8_isList 5 = .ok (.iconst 4, 1) := by decide +kernel
theorem dX8_isList_6 : decode cX8_isList 6 = .ok (.if_icmp .ge 7, 3) := by decide +kernel
theorem dX8_isList_9 : decode cX8_isList 9 = .ok (.iconst 1, 1) := by decide +kernel
theorem dX8_isList_10 : decode cX8_isList 10 = .ok (.goto 4, 3) := by decide +kernel
theorem dX8_isList_13 : decode cX8_isList 13 = .ok (.iconst 0, 1) := by decide +kernel
theorem dX8_isList_14 : decode cX8_isList 14 = .ok (.ireturn, 1) := by decide +kernel
theorem dX8_otherOf_0 : decode cX8_otherOf 0 = .ok (.iload_n 0, 1) := by decide +kernel
theorem dX8_otherOf_1 : decode cX8_otherOf 1 = .ok (.bipush 10, 2) := by decide +kernel
theorem dX8_otherOf_3 : decode cX8_otherOf 3 = .ok (.if_icmp .ge 10, 3) := by decide +kernel
theorem dX8_otherOf_6 : decode cX8_otherOf 6 = .ok (.iload_n 0, 1) := by decide +kernel
theorem dX8_otherOf_7 : decode cX8_otherOf 7 = .ok (.bipush 10, 2) := by decide +kernel
theorem dX8_otherOf_9 : decode cX8_otherOf 9 = .ok (.iadd, 1) := by decide +kernel
theorem dX8_otherOf_10 : decode cX8_otherOf 10 = .ok (.goto 7, 3) := by decide +kernel
theorem dX8_otherOf_13 : decode cX8_otherOf 13 = .ok (.iload_n 0, 1) := by decide +kernel
theorem dX8_otherOf_14 : decode cX8_otherOf 14 = .ok (.bipush 10, 2) := by decide +kernel
theorem dX8_otherOf_16 : decode cX8_otherOf 16 = .ok (.isub, 1) := by decide +kernel
theorem dX8_otherOf_17 : decode cX8_otherOf 17 = .ok (.ireturn, 1) := by decide +kernel
theorem dX8_has_0 : decode cX8_has 0 = .ok (.iload_n 0, 1) := by decide +kernel
theorem dX8_has_1 : decode cX8_has 1 = .ok (.iload_n 1, 1) := by decide +kernel
theorem dX8_has_2 : decode cX8_has 2 = .ok (.ishr, 1) := by decide +kernel
theorem dX8_has_3 : decode cX8_has 3 = .ok (.iconst 1, 1) := by decide +kernel
theorem dX8_has_4 : decode cX8_has 4 = .ok (.iand, 1) := by decide +kernel
theorem dX8_has_5 : decode cX8_has 5 = .ok (.iconst 1, 1) := by decide +kernel
theorem dX8_has_6 : decode cX8_has 6 = .ok (.if_icmp .ne 7, 3) := by decide +kernel
theorem dX8_has_9 : decode cX8_has 9 = .ok (.iconst 1, 1) := by decide +kernel
theorem dX8_has_10 : decode cX8_has 10 = .ok (.goto 4, 3) := by decide +kernel
theorem dX8_has_13 : decode cX8_has 13 = .ok (.iconst 0, 1) := by decide +kernel
theorem dX8_has_14 : decode cX8_has 14 = .ok (.ireturn, 1) := by decide +kernel
theorem dX8_bit_0 : decode cX8_bit 0 = .ok (.iload_n 0, 1) := by decide +kernel
theorem dX8_bit_1 : decode cX8_bit 1 = .ok (.iload_n 1, 1) := by decide +kernel
theorem dX8_bit_2 : decode cX8_bit 2 = .ok (.ishr, 1) := by decide +kernel
theorem dX8_bit_3 : decode cX8_bit 3 = .ok (.iconst 1, 1) := by decide +kernel
theorem dX8_bit_4 : decode cX8_bit 4 = .ok (.iand, 1) := by decide +kernel
theorem dX8_bit_5 : decode cX8_bit 5 = .ok (.ireturn, 1) := by decide +kernel
theorem dX8_withBit_0 : decode cX8_withBit 0 = .ok (.iload_n 2, 1) := by decide +kernel
theorem dX8_withBit_1 : decode cX8_withBit 1 = .ok (.iconst 1, 1) := by decide +kernel
theorem dX8_withBit_2 : decode cX8_withBit 2 = .ok (.if_icmp .ne 11, 3) := by decide +kernel
theorem dX8_withBit_5 : decode cX8_withBit 5 = .ok (.iload_n 0, 1) := by decide +kernel
theorem dX8_withBit_6 : decode cX8_withBit 6 = .ok (.iconst 1, 1) := by decide +kernel
theorem dX8_withBit_7 : decode cX8_withBit 7 = .ok (.iload_n 1, 1) := by decide +kernel
theorem dX8_withBit_8 : decode cX8_withBit 8 = .ok (.ishl, 1) := by decide +kernel
theorem dX8_withBit_9 : decode cX8_withBit 9 = .ok (.ior, 1) := by decide +kernel
theorem dX8_withBit_10 : decode cX8_withBit 10 = .ok (.goto 10, 3) := by decide +kernel
theorem dX8_withBit_13 : decode cX8_withBit 13 = .ok (.iload_n 0, 1) := by decide +kernel
theorem dX8_withBit_14 : decode cX8_withBit 14 = .ok (.iconst 1, 1) := by decide +kernel
theorem dX8_withBit_15 : decode cX8_withBit 15 = .ok (.iload_n 1, 1) := by decide +kernel
theorem dX8_withBit_16 : decode cX8_withBit 16 = .ok (.ishl, 1) := by decide +kernel
theorem dX8_withBit_17 : decode cX8_withBit 17 = .ok (.iconst (-1), 1) := by decide +kernel
theorem dX8_withBit_18 : decode cX8_withBit 18 = .ok (.ixor, 1) := by decide +kernel
theorem dX8_withBit_19 : decode cX8_withBit 19 = .ok (.iand, 1) := by decide +kernel
theorem dX8_withBit_20 : decode cX8_withBit 20 = .ok (.ireturn, 1) := by decide +kernel
theorem dX8_lowestBit_0 : decode cX8_lowestBit 0 = .ok (.iload_n 0, 1) := by decide +kernel
theorem dX8_lowestBit_1 : decode cX8_lowestBit 1 = .ok (.iload_n 0, 1) := by decide +kernel
theorem dX8_lowestBit_2 : decode cX8_lowestBit 2 = .ok (.ineg, 1) := by decide +kernel
theorem dX8_lowestBit_3 : decode cX8_lowestBit 3 = .ok (.iand, 1) := by decide +kernel
theorem dX8_lowestBit_4 : decode cX8_lowestBit 4 = .ok (.ireturn, 1) := by decide +kernel
set_option maxRecDepth 20000 in
theorem ggX8_firstRule_X8_has : GoodIn wsX8_firstRule wsX8_has := goodIn_r _ [4] (by decide +kernel) (by decide +kernel)
set_option maxRecDepth 20000 in
theorem gX8_firstRule_X8_has : GoodIn wsX8_firstRule (va_wsS RX8 130 yX8_has wsX8_has) := goodIn_app (goodIn_of _ (by decide +kernel)) ggX8_firstRule_X8_has
theorem dX8_firstRule_0 : decode cX8_firstRule 0 = .ok (.iconst 0, 1) := by decide +kernel
theorem dX8_firstRule_1 : decode cX8_firstRule 1 = .ok (.istore_n 1, 1) := by decide +kernel
theorem dX8_firstRule_2 : decode cX8_firstRule 2 = .ok (.iload_n 1, 1) := by decide +kernel
theorem dX8_firstRule_3 : decode cX8_firstRule 3 = .ok (.bipush 16, 2) := by decide +kernel
theorem dX8_firstRule_5 : decode cX8_firstRule 5 = .ok (.if_icmp .ge 17, 3) := by decide +kernel
theorem dX8_firstRule_8 : decode cX8_firstRule 8 = .ok (.iload_n 0, 1) := by decide +kernel
theorem dX8_firstRule_9 : decode cX8_firstRule 9 = .ok (.iload_n 1, 1) := by decide +kernel
theorem dX8_firstRule_10 : decode cX8_firstRule 10 = .ok (.invokestatic 130, 3) := by decide +kernel
theorem dX8_firstRule_13 : decode cX8_firstRule 13 = .ok (.ifCond .ne 9, 3) := by decide +kernel
theorem dX8_firstRule_16 : decode cX8_firstRule 16 = .ok (.iinc 1 1, 3) := by decide +kernel
theorem dX8_firstRule_19 : decode cX8_firstRule 19 = .ok (.goto (-17), 3) := by decide +kernel
theorem dX8_firstRule_22 : decode cX8_firstRule 22 = .ok (.iload_n 1, 1) := by decide +kernel
theorem dX8_firstRule_23 : decode cX8_firstRule 23 = .ok (.ireturn, 1) := by decide +kernel
theorem dX8_nextSeed_0 : decode cX8_nextSeed 0 = .ok (.iload_n 0, 1) := by decide +kernel
theorem dX8_nextSeed_1 : decode cX8_nextSeed 1 = .ok (.ldc_w 314, 3) := by decide +kernel
theorem dX8_nextSeed_4 : decode cX8_nextSeed 4 = .ok (.imul, 1) := by decide +kernel
theorem dX8_nextSeed_5 : decode cX8_nextSeed 5 = .ok (.sipush 12345, 3) := by decide +kernel
theorem dX8_nextSeed_8 : decode cX8_nextSeed 8 = .ok (.iadd, 1) := by decide +kernel
theorem dX8_nextSeed_9 : decode cX8_nextSeed 9 = .ok (.ireturn, 1) := by decide +kernel
theorem dX8_drawBelowThree_0 : decode cX8_drawBelowThree 0 = .ok (.iload_n 0, 1) := by decide +kernel
theorem dX8_drawBelowThree_1 : decode cX8_drawBelowThree 1 = .ok (.ldc_w 315, 3) := by decide +kernel
theorem dX8_drawBelowThree_4 : decode cX8_drawBelowThree 4 = .ok (.iand, 1) := by decide +kernel
theorem dX8_drawBelowThree_5 : decode cX8_drawBelowThree 5 = .ok (.ldc_w 316, 3) := by decide +kernel
theorem dX8_drawBelowThree_8 : decode cX8_drawBelowThree 8 = .ok (.idiv, 1) := by decide +kernel
theorem dX8_drawBelowThree_9 : decode cX8_drawBelowThree 9 = .ok (.iconst 3, 1) := by decide +kernel
theorem dX8_drawBelowThree_10 : decode cX8_drawBelowThree 10 = .ok (.irem, 1) := by decide +kernel
theorem dX8_drawBelowThree_11 : decode cX8_drawBelowThree 11 = .ok (.ireturn, 1) := by decide +kernel
set_option maxRecDepth 20000 in
theorem ggX8_factByDraw_X8_otherOf : GoodIn wsX8_factByDraw wsX8_otherOf := goodIn_r _ [4] (by decide +kernel) (by decide +kernel)
set_option maxRecDepth 20000 in
theorem gX8_factByDraw_X8_otherOf : GoodIn wsX8_factByDraw (va_wsS RX8 317 yX8_otherOf wsX8_otherOf) := goodIn_app (goodIn_of _ (by decide +kernel)) ggX8_factByDraw_X8_otherOf
theorem dX8_factByDraw_0 : decode cX8_factByDraw 0 = .ok (.iload_n 1, 1) := by decide +kernel
theorem dX8_factByDraw_1 : decode cX8_factByDraw 1 = .ok (.ifCond .ne 7, 3) := by decide +kernel
theorem dX8_factByDraw_4 : decode cX8_factByDraw 4 = .ok (.iconst 1, 1) := by decide +kernel
theorem dX8_factByDraw_5 : decode cX8_factByDraw 5 = .ok (.iload_n 0, 1) := by decide +kernel
theorem dX8_factByDraw_6 : decode cX8_factByDraw 6 = .ok (.ishl, 1) := by decide +kernel
theorem dX8_factByDraw_7 : decode cX8_factByDraw 7 = .ok (.ireturn, 1) := by decide +kernel
theorem dX8_factByDraw_8 : decode cX8_factByDraw 8 = .ok (.iload_n 1, 1) := by decide +kernel
theorem dX8_factByDraw_9 : decode cX8_factByDraw 9 = .ok (.iconst 1, 1) := by decide +kernel
theorem dX8_factByDraw_10 : decode cX8_factByDraw 10 = .ok (.if_icmp .ne 12, 3) := by decide +kernel
theorem dX8_factByDraw_13 : decode cX8_factByDraw 13 = .ok (.iconst 1, 1) := by decide +kernel
theorem dX8_factByDraw_14 : decode cX8_factByDraw 14 = .ok (.iload_n 0, 1) := by decide +kernel
theorem dX8_factByDraw_15 : decode cX8_factByDraw 15 = .ok (.invokestatic 317, 3) := by decide +kernel
theorem dX8_factByDraw_18 : decode cX8_factByDraw 18 = .ok (.ishl, 1) := by decide +kernel
theorem dX8_factByDraw_19 : decode cX8_factByDraw 19 = .ok (.goto 4, 3) := by decide +kernel
theorem dX8_factByDraw_22 : decode cX8_factByDraw 22 = .ok (.iconst 0, 1) := by decide +kernel
theorem dX8_factByDraw_23 : decode cX8_factByDraw 23 = .ok (.ireturn, 1) := by decide +kernel
theorem dX9_init_0 : decode cX9_init 0 = .ok (.aload_n 0, 1) := by decide +kernel
theorem dX9_init_1 : decode cX9_init 1 = .ok (.invokespecial 1, 3) := by decide +kernel
theorem dX9_init_4 : decode cX9_init 4 = .ok (.aload_n 0, 1) := by decide +kernel
theorem dX9_init_5 : decode cX9_init 5 = .ok (.bipush 16, 2) := by decide +kernel
theorem dX9_init_7 : decode cX9_init 7 = .ok (.newarray .int, 2) := by decide +kernel
theorem dX9_init_9 : decode cX9_init 9 = .ok (.putfield 7, 3) := by decide +kernel
theorem dX9_init_12 : decode cX9_init 12 = .ok (.aload_n 0, 1) := by decide +kernel
theorem dX9_init_13 : decode cX9_init 13 = .ok (.bipush 16, 2) := by decide +kernel
theorem dX9_init_15 : decode cX9_init 15 = .ok (.newarray .int, 2) := by decide +kernel
theorem dX9_init_17 : decode cX9_init 17 = .ok (.putfield 13, 3) := by decide +kernel
theorem dX9_init_20 : decode cX9_init 20 = .ok (.aload_n 0, 1) := by decide +kernel
theorem dX9_init_21 : decode cX9_init 21 = .ok (.bipush 16, 2) := by decide +kernel
theorem dX9_init_23 : decode cX9_init 23 = .ok (.newarray .int, 2) := by decide +kernel
theorem dX9_init_25 : decode cX9_init 25 = .ok (.putfield 16, 3) := by decide +kernel
theorem dX9_init_28 : decode cX9_init 28 = .ok (.aload_n 0, 1) := by decide +kernel
theorem dX9_init_29 : decode cX9_init 29 = .ok (.bipush 16, 2) := by decide +kernel
theorem dX9_init_31 : decode cX9_init 31 = .ok (.newarray .int, 2) := by decide +kernel
theorem dX9_init_33 : decode cX9_init 33 = .ok (.putfield 19, 3) := by decide +kernel
theorem dX9_init_36 : decode cX9_init 36 = .ok (.aload_n 0, 1) := by decide +kernel
theorem dX9_init_37 : decode cX9_init 37 = .ok (.bipush 16, 2) := by decide +kernel
theorem dX9_init_39 : decode cX9_init 39 = .ok (.newarray .int, 2) := by decide +kernel
theorem dX9_init_41 : decode cX9_init 41 = .ok (.putfield 22, 3) := by decide +kernel
theorem dX9_init_44 : decode cX9_init 44 = .ok (.aload_n 0, 1) := by decide +kernel
theorem dX9_init_45 : decode cX9_init 45 = .ok (.bipush 16, 2) := by decide +kernel
theorem dX9_init_47 : decode cX9_init 47 = .ok (.newarray .int, 2) := by decide +kernel
theorem dX9_init_49 : decode cX9_init 49 = .ok (.putfield 25, 3) := by decide +kernel
theorem dX9_init_52 : decode cX9_init 52 = .ok (.aload_n 0, 1) := by decide +kernel
theorem dX9_init_53 : decode cX9_init 53 = .ok (.bipush 16, 2) := by decide +kernel
theorem dX9_init_55 : decode cX9_init 55 = .ok (.newarray .int, 2) := by decide +kernel
theorem dX9_init_57 : decode cX9_init 57 = .ok (.putfield 28, 3) := by decide +kernel
theorem dX9_init_60 : decode cX9_init 60 = .ok (.aload_n 0, 1) := by decide +kernel
theorem dX9_init_61 : decode cX9_init 61 = .ok (.bipush 60, 2) := by decide +kernel
theorem dX9_init_63 : decode cX9_init 63 = .ok (.newarray .int, 2) := by decide +kernel
theorem dX9_init_65 : decode cX9_init 65 = .ok (.putfield 31, 3) := by decide +kernel
theorem dX9_init_68 : decode cX9_init 68 = .ok (.aload_n 0, 1) := by decide +kernel
theorem dX9_init_69 : decode cX9_init 69 = .ok (.bipush 120, 2) := by decide +kernel
theorem dX9_init_71 : decode cX9_init 71 = .ok (.newarray .int, 2) := by decide +kernel
theorem dX9_init_73 : decode cX9_init 73 = .ok (.putfield 34, 3) := by decide +kernel
theorem dX9_init_76 : decode cX9_init 76 = .ok (.aload_n 0, 1) := by decide +kernel
theorem dX9_init_77 : decode cX9_init 77 = .ok (.sipush 2000, 3) := by decide +kernel
theorem dX9_init_80 : decode cX9_init 80 = .ok (.newarray .int, 2) := by decide +kernel
theorem dX9_init_82 : decode cX9_init 82 = .ok (.putfield 37, 3) := by decide +kernel
theorem dX9_init_85 : decode cX9_init 85 = .ok (.aload_n 0, 1) := by decide +kernel
theorem dX9_init_86 : decode cX9_init 86 = .ok (.iconst 4, 1) := by decide +kernel
theorem dX9_init_87 : decode cX9_init 87 = .ok (.newarray .int, 2) := by decide +kernel
theorem dX9_init_89 : decode cX9_init 89 = .ok (.dup, 1) := by decide +kernel
theorem dX9_init_90 : decode cX9_init 90 = .ok (.iconst 0, 1) := by decide +kernel
theorem dX9_init_91 : decode cX9_init 91 = .ok (.iconst (-1), 1) := by decide +kernel
theorem dX9_init_92 : decode cX9_init 92 = .ok (.iastore, 1) := by decide +kernel
theorem dX9_init_93 : decode cX9_init 93 = .ok (.dup, 1) := by decide +kernel
theorem dX9_init_94 : decode cX9_init 94 = .ok (.iconst 1, 1) := by decide +kernel
theorem dX9_init_95 : decode cX9_init 95 = .ok (.iconst (-1), 1) := by decide +kernel
theorem dX9_init_96 : decode cX9_init 96 = .ok (.iastore, 1) := by decide +kernel
theorem dX9_init_97 : decode cX9_init 97 = .ok (.dup, 1) := by decide +kernel
theorem dX9_init_98 : decode cX9_init 98 = .ok (.iconst 2, 1) := by decide +kernel
theorem dX9_init_99 : decode cX9_init 99 = .ok (.iconst (-1), 1) := by decide +kernel
theorem dX9_init_100 : decode cX9_init 100 = .ok (.iastore, 1) := by decide +kernel
theorem dX9_init_101 : decode cX9_init 101 = .ok (.dup, 1) := by decide +kernel
theorem dX9_init_102 : decode cX9_init 102 = .ok (.iconst 3, 1) := by decide +kernel
theorem dX9_init_103 : decode cX9_init 103 = .ok (.iconst (-1), 1) := by decide +kernel
theorem dX9_init_104 : decode cX9_init 104 = .ok (.iastore, 1) := by decide +kernel
theorem dX9_init_105 : decode cX9_init 105 = .ok (.putfield 40, 3) := by decide +kernel
theorem dX9_init_108 : decode cX9_init 108 = .ok (.aload_n 0, 1) := by decide +kernel
theorem dX9_init_109 : decode cX9_init 109 = .ok (.bipush 96, 2) := by decide +kernel
theorem dX9_init_111 : decode cX9_init 111 = .ok (.newarray .int, 2) := by decide +kernel
theorem dX9_init_113 : decode cX9_init 113 = .ok (.putfield 43, 3) := by decide +kernel
theorem dX9_init_116 : decode cX9_init 116 = .ok (.aload_n 0, 1) := by decide +kernel
theorem dX9_init_117 : decode cX9_init 117 = .ok (.bipush 120, 2) := by decide +kernel
theorem dX9_init_119 : decode cX9_init 119 = .ok (.newarray .int, 2) := by decide +kernel
theorem dX9_init_121 : decode cX9_init 121 = .ok (.putfield 46, 3) := by decide +kernel
theorem dX9_init_124 : decode cX9_init 124 = .ok (.aload_n 0, 1) := by decide +kernel
theorem dX9_init_125 : decode cX9_init 125 = .ok (.bipush 120, 2) := by decide +kernel
theorem dX9_init_127 : decode cX9_init 127 = .ok (.newarray .int, 2) := by decide +kernel
theorem dX9_init_129 : decode cX9_init 129 = .ok (.putfield 49, 3) := by decide +kernel
theorem dX9_init_132 : decode cX9_init 132 = .ok (.aload_n 0, 1) := by decide +kernel
theorem dX9_init_133 : decode cX9_init 133 = .ok (.bipush 60, 2) := by decide +kernel
theorem dX9_init_135 : decode cX9_init 135 = .ok (.newarray .int, 2) := by decide +kernel
theorem dX9_init_137 : decode cX9_init 137 = .ok (.putfield 52, 3) := by decide +kernel
theorem dX9_init_140 : decode cX9_init 140 = .ok (.aload_n 0, 1) := by decide +kernel
theorem dX9_init_141 : decode cX9_init 141 = .ok (.bipush 16, 2) := by decide +kernel
theorem dX9_init_143 : decode cX9_init 143 = .ok (.newarray .int, 2) := by decide +kernel
theorem dX9_init_145 : decode cX9_init 145 = .ok (.putfield 55, 3) := by decide +kernel
theorem dX9_init_148 : decode cX9_init 148 = .ok (.aload_n 0, 1) := by decide +kernel
theorem dX9_init_149 : decode cX9_init 149 = .ok (.bipush 80, 2) := by decide +kernel
theorem dX9_init_151 : decode cX9_init 151 = .ok (.newarray .int, 2) := by decide +kernel
theorem dX9_init_153 : decode cX9_init 153 = .ok (.putfield 58, 3) := by decide +kernel
theorem dX9_init_156 : decode cX9_init 156 = .ok (.aload_n 0, 1) := by decide +kernel
theorem dX9_init_157 : decode cX9_init 157 = .ok (.iconst 4, 1) := by decide +kernel
theorem dX9_init_158 : decode cX9_init 158 = .ok (.newarray .int, 2) := by decide +kernel
theorem dX9_init_160 : decode cX9_init 160 = .ok (.putfield 61, 3) := by decide +kernel
theorem dX9_init_163 : decode cX9_init 163 = .ok (.aload_n 0, 1) := by decide +kernel
theorem dX9_init_164 : decode cX9_init 164 = .ok (.iconst 4, 1) := by decide +kernel
theorem dX9_init_165 : decode cX9_init 165 = .ok (.newarray .int, 2) := by decide +kernel
theorem dX9_init_167 : decode cX9_init 167 = .ok (.putfield 64, 3) := by decide +kernel
theorem dX9_init_170 : decode cX9_init 170 = .ok (.aload_n 0, 1) := by decide +kernel
theorem dX9_init_171 : decode cX9_init 171 = .ok (.iconst 4, 1) := by decide +kernel
theorem dX9_init_172 : decode cX9_init 172 = .ok (.newarray .int, 2) := by decide +kernel
theorem dX9_init_174 : decode cX9_init 174 = .ok (.putfield 67, 3) := by decide +kernel
theorem dX9_init_177 : decode cX9_init 177 = .ok (.aload_n 0, 1) := by decide +kernel
theorem dX9_init_178 : decode cX9_init 178 = .ok (.bipush 80, 2) := by decide +kernel
theorem dX9_init_180 : decode cX9_init 180 = .ok (.newarray .int, 2) := by decide +kernel
theorem dX9_init_182 : decode cX9_init 182 = .ok (.putfield 70, 3) := by decide +kernel
theorem dX9_init_185 : decode cX9_init 185 = .ok (.return_, 1) := by decide +kernel
theorem dX9_in_0 : decode cX9_in 0 = .ok (.iload_n 0, 1) := by decide +kernel
theorem dX9_in_1 : decode cX9_in 1 = .ok (.iload_n 1, 1) := by decide +kernel
theorem dX9_in_2 : decode cX9_in 2 = .ok (.if_icmp .lt 12, 3) := by decide +kernel
theorem dX9_in_5 : decode cX9_in 5 = .ok (.iload_n 0, 1) := by decide +kernel
theorem dX9_in_6 : decode cX9_in 6 = .ok (.iload_n 2, 1) := by decide +kernel
theorem dX9_in_7 : decode cX9_in 7 = .ok (.if_icmp .gt 7, 3) := by decide +kernel
theorem dX9_in_10 : decode cX9_in 10 = .ok (.iconst 1, 1) := by decide +kernel
theorem dX9_in_11 : decode cX9_in 11 = .ok (.goto 4, 3) := by decide +kernel
theorem dX9_in_14 : decode cX9_in 14 = .ok (.iconst 0, 1) := by decide +kernel
theorem dX9_in_15 : decode cX9_in 15 = .ok (.ireturn, 1) := by decide +kernel
theorem dX9_has_0 : decode cX9_has 0 = .ok (.iload_n 0, 1) := by decide +kernel
theorem dX9_has_1 : decode cX9_has 1 = .ok (.iload_n 1, 1) := by decide +kernel
theorem dX9_has_2 : decode cX9_has 2 = .ok (.ishr, 1) := by decide +kernel
theorem dX9_has_3 : decode cX9_has 3 = .ok (.iconst 1, 1) := by decide +kernel
theorem dX9_has_4 : decode cX9_has 4 = .ok (.iand, 1) := by decide +kernel
theorem dX9_has_5 : decode cX9_has 5 = .ok (.iconst 1, 1) := by decide +kernel
theorem dX9_has_6 : decode cX9_has 6 = .ok (.if_icmp .ne 7, 3) := by decide +kernel
theorem dX9_has_9 : decode cX9_has 9 = .ok (.iconst 1, 1) := by decide +kernel
theorem dX9_has_10 : decode cX9_has 10 = .ok (.goto 4, 3) := by decide +kernel
theorem dX9_has_13 : decode cX9_has 13 = .ok (.iconst 0, 1) := by decide +kernel
theorem dX9_has_14 : decode cX9_has 14 = .ok (.ireturn, 1) := by decide +kernel
set_option maxRecDepth 20000 in
theorem ggX9_isLiteral_X9_in : GoodIn wsX9_isLiteral wsX9_in := goodIn_r _ [4] (by decide +kernel) (by decide +kernel)
set_option maxRecDepth 20000 in
theorem gX9_isLiteral_X9_in : GoodIn wsX9_isLiteral (va_wsS RX9 73 yX9_in wsX9_in) := goodIn_app (goodIn_of _ (by decide +kernel)) ggX9_isLiteral_X9_in
theorem dX9_isLiteral_0 : decode cX9_isLiteral 0 = .ok (.iload_n 0, 1) := by decide +kernel
theorem dX9_isLiteral_1 : decode cX9_isLiteral 1 = .ok (.iconst 0, 1) := by decide +kernel
theorem dX9_isLiteral_2 : decode cX9_isLiteral 2 = .ok (.bipush 19, 2) := by decide +kernel
theorem dX9_isLiteral_4 : decode cX9_isLiteral 4 = .ok (.invokestatic 73, 3) := by decide +kernel
theorem dX9_isLiteral_7 : decode cX9_isLiteral 7 = .ok (.ireturn, 1) := by decide +kernel
set_option maxRecDepth 20000 in
theorem ggX9_isTag_X9_in : GoodIn wsX9_isTag wsX9_in := goodIn_r _ [4] (by decide +kernel) (by decide +kernel)
set_option maxRecDepth 20000 in
theorem gX9_isTag_X9_in : GoodIn wsX9_isTag (va_wsS RX9 73 yX9_in wsX9_in) := goodIn_app (goodIn_of _ (by decide +kernel)) ggX9_isTag_X9_in
theorem dX9_isTag_0 : decode cX9_isTag 0 = .ok (.iload_n 0, 1) := by decide +kernel
theorem dX9_isTag_1 : decode cX9_isTag 1 = .ok (.iconst 0, 1) := by decide +kernel
theorem dX9_isTag_2 : decode cX9_isTag 2 = .ok (.iconst 3, 1) := by decide +kernel
theorem dX9_isTag_3 : decode cX9_isTag 3 = .ok (.invokestatic 73, 3) := by decide +kernel
theorem dX9_isTag_6 : decode cX9_isTag 6 = .ok (.ireturn, 1) := by decide +kernel
set_option maxRecDepth 20000 in
theorem ggX9_isBit_X9_in : GoodIn wsX9_isBit wsX9_in := goodIn_r _ [4] (by decide +kernel) (by decide +kernel)
set_option maxRecDepth 20000 in
theorem gX9_isBit_X9_in : GoodIn wsX9_isBit (va_wsS RX9 73 yX9_in wsX9_in) := goodIn_app (goodIn_of _ (by decide +kernel)) ggX9_isBit_X9_in
theorem dX9_isBit_0 : decode cX9_isBit 0 = .ok (.iload_n 0, 1) := by decide +kernel
theorem dX9_isBit_1 : decode cX9_isBit 1 = .ok (.iconst 0, 1) := by decide +kernel
theorem dX9_isBit_2 : decode cX9_isBit 2 = .ok (.iconst 1, 1) := by decide +kernel
theorem dX9_isBit_3 : decode cX9_isBit 3 = .ok (.invokestatic 73, 3) := by decide +kernel
theorem dX9_isBit_6 : decode cX9_isBit 6 = .ok (.ireturn, 1) := by decide +kernel
set_option maxRecDepth 20000 in
theorem ggX9_isRule_X9_in : GoodIn wsX9_isRule wsX9_in := goodIn_r _ [5] (by decide +kernel) (by decide +kernel)
set_option maxRecDepth 20000 in
theorem gX9_isRule_X9_in : GoodIn wsX9_isRule (va_wsS RX9 73 yX9_in wsX9_in) := goodIn_app (goodIn_of _ (by decide +kernel)) ggX9_isRule_X9_in
theorem dX9_isRule_0 : decode cX9_isRule 0 = .ok (.iload_n 1, 1) := by decide +kernel
theorem dX9_isRule_1 : decode cX9_isRule 1 = .ok (.iconst 0, 1) := by decide +kernel
theorem dX9_isRule_2 : decode cX9_isRule 2 = .ok (.aload_n 0, 1) := by decide +kernel
theorem dX9_isRule_3 : decode cX9_isRule 3 = .ok (.getfield 77, 3) := by decide +kernel
theorem dX9_isRule_6 : decode cX9_isRule 6 = .ok (.iconst 1, 1) := by decide +kernel
theorem dX9_isRule_7 : decode cX9_isRule 7 = .ok (.isub, 1) := by decide +kernel
theorem dX9_isRule_8 : decode cX9_isRule 8 = .ok (.invokestatic 73, 3) := by decide +kernel
theorem dX9_isRule_11 : decode cX9_isRule 11 = .ok (.ireturn, 1) := by decide +kernel
theorem dX9_otherOf_0 : decode cX9_otherOf 0 = .ok (.iload_n 0, 1) := by decide +kernel
theorem dX9_otherOf_1 : decode cX9_otherOf 1 = .ok (.bipush 10, 2) := by decide +kernel
theorem dX9_otherOf_3 : decode cX9_otherOf 3 = .ok (.iadd, 1) := by decide +kernel
theorem dX9_otherOf_4 : decode cX9_otherOf 4 = .ok (.bipush 20, 2) := by decide +kernel
theorem dX9_otherOf_6 : decode cX9_otherOf 6 = .ok (.irem, 1) := by decide +kernel
theorem dX9_otherOf_7 : decode cX9_otherOf 7 = .ok (.ireturn, 1) := by decide +kernel
set_option maxRecDepth 20000 in
theorem ggX9_firstOf_J6_numberOfTrailingZeros_0f7a4 : GoodIn wsX9_firstOf wsJ6_numberOfTrailingZeros_0f7a4 := goodIn_r _ [4, 5] (by decide +kernel) (by decide +kernel)
set_option maxRecDepth 20000 in
theorem gX9_firstOf_J6_numberOfTrailingZeros_0f7a4 : GoodIn wsX9_firstOf (va_wsS RX9 81 yJ6_numberOfTrailingZeros_0f7a4 wsJ6_numberOfTrailingZeros_0f7a4) := goodIn_app (goodIn_of _ (by decide +kernel)) ggX9_firstOf_J6_numberOfTrailingZeros_0f7a4
theorem dX9_firstOf_0 : decode cX9_firstOf 0 = .ok (.iload_n 0, 1) := by decide +kernel
theorem dX9_firstOf_1 : decode cX9_firstOf 1 = .ok (.invokestatic 81, 3) := by decide +kernel
theorem dX9_firstOf_4 : decode cX9_firstOf 4 = .ok (.ireturn, 1) := by decide +kernel
theorem dX9_changed_0 : decode cX9_changed 0 = .ok (.aload_n 0, 1) := by decide +kernel
theorem dX9_changed_1 : decode cX9_changed 1 = .ok (.getfield 87, 3) := by decide +kernel
theorem dX9_changed_4 : decode cX9_changed 4 = .ok (.bipush 12, 2) := by decide +kernel
theorem dX9_changed_6 : decode cX9_changed 6 = .ok (.if_icmp .ne 45, 3) := by decide +kernel
theorem dX9_changed_9 : decode cX9_changed 9 = .ok (.iconst 5, 1) := by decide +kernel
theorem dX9_changed_10 : decode cX9_changed 10 = .ok (.istore 6, 2) := by decide +kernel
theorem dX9_changed_12 : decode cX9_changed 12 = .ok (.iload 6, 2) := by decide +kernel
theorem dX9_changed_14 : decode cX9_changed 14 = .ok (.bipush 60, 2) := by decide +kernel
theorem dX9_changed_16 : decode cX9_changed 16 = .ok (.if_icmp .ge 25, 3) := by decide +kernel
theorem dX9_changed_19 : decode cX9_changed 19 = .ok (.aload_n 0, 1) := by decide +kernel
theorem dX9_changed_20 : decode cX9_changed 20 = .ok (.getfield 31, 3) := by decide +kernel
theorem dX9_changed_23 : decode cX9_changed 23 = .ok (.iload 6, 2) := by decide +kernel
theorem dX9_changed_25 : decode cX9_changed 25 = .ok (.iconst 5, 1) := by decide +kernel
theorem dX9_changed_26 : decode cX9_changed 26 = .ok (.isub, 1) := by decide +kernel
theorem dX9_changed_27 : decode cX9_changed 27 = .ok (.aload_n 0, 1) := by decide +kernel
theorem dX9_changed_28 : decode cX9_changed 28 = .ok (.getfield 31, 3) := by decide +kernel
theorem dX9_changed_31 : decode cX9_changed 31 = .ok (.iload 6, 2) := by decide +kernel
theorem dX9_changed_33 : decode cX9_changed 33 = .ok (.iaload, 1) := by decide +kernel
theorem dX9_changed_34 : decode cX9_changed 34 = .ok (.iastore, 1) := by decide +kernel
theorem dX9_changed_35 : decode cX9_changed 35 = .ok (.iinc 6 1, 3) := by decide +kernel
theorem dX9_changed_38 : decode cX9_changed 38 = .ok (.goto (-26), 3) := by decide +kernel
theorem dX9_changed_41 : decode cX9_changed 41 = .ok (.aload_n 0, 1) := by decide +kernel
theorem dX9_changed_42 : decode cX9_changed 42 = .ok (.dup, 1) := by decide +kernel
theorem dX9_changed_43 : decode cX9_changed 43 = .ok (.getfield 87, 3) := by decide +kernel
theorem dX9_changed_46 : decode cX9_changed 46 = .ok (.iconst 1, 1) := by decide +kernel
theorem dX9_changed_47 : decode cX9_changed 47 = .ok (.isub, 1) := by decide +kernel
theorem dX9_changed_48 : decode cX9_changed 48 = .ok (.putfield 87, 3) := by decide +kernel
theorem dX9_changed_51 : decode cX9_changed 51 = .ok (.aload_n 0, 1) := by decide +kernel
theorem dX9_changed_52 : decode cX9_changed 52 = .ok (.getfield 31, 3) := by decide +kernel
theorem dX9_changed_55 : decode cX9_changed 55 = .ok (.iconst 5, 1) := by decide +kernel
theorem dX9_changed_56 : decode cX9_changed 56 = .ok (.aload_n 0, 1) := by decide +kernel
theorem dX9_changed_57 : decode cX9_changed 57 = .ok (.getfield 87, 3) := by decide +kernel
theorem dX9_changed_60 : decode cX9_changed 60 = .ok (.imul, 1) := by decide +kernel
theorem dX9_changed_61 : decode cX9_changed 61 = .ok (.iload_n 1, 1) := by decide +kernel
theorem dX9_changed_62 : decode cX9_changed 62 = .ok (.iastore, 1) := by decide +kernel
theorem dX9_changed_63 : decode cX9_changed 63 = .ok (.aload_n 0, 1) := by decide +kernel
theorem dX9_changed_64 : decode cX9_changed 64 = .ok (.getfield 31, 3) := by decide +kernel
theorem dX9_changed_67 : decode cX9_changed 67 = .ok (.iconst 5, 1) := by decide +kernel
theorem dX9_changed_68 : decode cX9_changed 68 = .ok (.aload_n 0, 1) := by decide +kernel
theorem dX9_changed_69 : decode cX9_changed 69 = .ok (.getfield 87, 3) := by decide +kernel
theorem dX9_changed_72 : decode cX9_changed 72 = .ok (.imul, 1) := by decide +kernel
theorem dX9_changed_73 : decode cX9_changed 73 = .ok (.iconst 1, 1) := by decide +kernel
theorem dX9_changed_74 : decode cX9_changed 74 = .ok (.iadd, 1) := by decide +kernel
theorem dX9_changed_75 : decode cX9_changed 75 = .ok (.iload_n 2, 1) := by decide +kernel
theorem dX9_changed_76 : decode cX9_changed 76 = .ok (.iastore, 1) := by decide +kernel
theorem dX9_changed_77 : decode cX9_changed 77 = .ok (.aload_n 0, 1) := by decide +kernel
theorem dX9_changed_78 : decode cX9_changed 78 = .ok (.getfield 31, 3) := by decide +kernel
theorem dX9_changed_81 : decode cX9_changed 81 = .ok (.iconst 5, 1) := by decide +kernel
theorem dX9_changed_82 : decode cX9_changed 82 = .ok (.aload_n 0, 1) := by decide +kernel
theorem dX9_changed_83 : decode cX9_changed 83 = .ok (.getfield 87, 3) := by decide +kernel
theorem dX9_changed_86 : decode cX9_changed 86 = .ok (.imul, 1) := by decide +kernel
theorem dX9_changed_87 : decode cX9_changed 87 = .ok (.iconst 2, 1) := by decide +kernel
theorem dX9_changed_88 : decode cX9_changed 88 = .ok (.iadd, 1) := by decide +kernel
theorem dX9_changed_89 : decode cX9_changed 89 = .ok (.iload_n 3, 1) := by decide +kernel
theorem dX9_changed_90 : decode cX9_changed 90 = .ok (.iastore, 1) := by decide +kernel
theorem dX9_changed_91 : decode cX9_changed 91 = .ok (.aload_n 0, 1) := by decide +kernel
theorem dX9_changed_92 : decode cX9_changed 92 = .ok (.getfield 31, 3) := by decide +kernel
theorem dX9_changed_95 : decode cX9_changed 95 = .ok (.iconst 5, 1) := by decide +kernel
theorem dX9_changed_96 : decode cX9_changed 96 = .ok (.aload_n 0, 1) := by decide +kernel
theorem dX9_changed_97 : decode cX9_changed 97 = .ok (.getfield 87, 3) := by decide +kernel
theorem dX9_changed_100 : decode cX9_changed 100 = .ok (.imul, 1) := by decide +kernel
theorem dX9_changed_101 : decode cX9_changed 101 = .ok (.iconst 3, 1) := by decide +kernel
theorem dX9_changed_102 : decode cX9_changed 102 = .ok (.iadd, 1) := by decide +kernel
theorem dX9_changed_103 : decode cX9_changed 103 = .ok (.iload 4, 2) := by decide +kernel
theorem dX9_changed_105 : decode cX9_changed 105 = .ok (.iastore, 1) := by decide +kernel
theorem dX9_changed_106 : decode cX9_changed 106 = .ok (.aload_n 0, 1) := by decide +kernel
theorem dX9_changed_107 : decode cX9_changed 107 = .ok (.getfield 31, 3) := by decide +kernel
theorem dX9_changed_110 : decode cX9_changed 110 = .ok (.iconst 5, 1) := by decide +kernel
theorem dX9_changed_111 : decode cX9_changed 111 = .ok (.aload_n 0, 1) := by decide +kernel
theorem dX9_changed_112 : decode cX9_changed 112 = .ok (.getfield 87, 3) := by decide +kernel
theorem dX9_changed_115 : decode cX9_changed 115 = .ok (.imul, 1) := by decide +kernel
theorem dX9_changed_116 : decode cX9_changed 116 = .ok (.iconst 4, 1) := by decide +kernel
theorem dX9_changed_117 : decode cX9_changed 117 = .ok (.iadd, 1) := by decide +kernel
theorem dX9_changed_118 : decode cX9_changed 118 = .ok (.iload 5, 2) := by decide +kernel
theorem dX9_changed_120 : decode cX9_changed 120 = .ok (.iastore, 1) := by decide +kernel
theorem dX9_changed_121 : decode cX9_changed 121 = .ok (.aload_n 0, 1) := by decide +kernel
theorem dX9_changed_122 : decode cX9_changed 122 = .ok (.dup, 1) := by decide +kernel
theorem dX9_changed_123 : decode cX9_changed 123 = .ok (.getfield 87, 3) := by decide +kernel
theorem dX9_changed_126 : decode cX9_changed 126 = .ok (.iconst 1, 1) := by decide +kernel
theorem dX9_changed_127 : decode cX9_changed 127 = .ok (.iadd, 1) := by decide +kernel
theorem dX9_changed_128 : decode cX9_changed 128 = .ok (.putfield 87, 3) := by decide +kernel
theorem dX9_changed_131 : decode cX9_changed 131 = .ok (.aload_n 0, 1) := by decide +kernel
theorem dX9_changed_132 : decode cX9_changed 132 = .ok (.iconst 0, 1) := by decide +kernel
theorem dX9_changed_133 : decode cX9_changed 133 = .ok (.putfield 90, 3) := by decide +kernel
theorem dX9_changed_136 : decode cX9_changed 136 = .ok (.return_, 1) := by decide +kernel
theorem dX9_becomes_0 : decode cX9_becomes 0 = .ok (.iload_n 1, 1) := by decide +kernel
theorem dX9_becomes_1 : decode cX9_becomes 1 = .ok (.tableswitch 98 0 3 #[31, 65, 76, 87], 31) := by decide +kernel
theorem dX9_becomes_32 : decode cX9_becomes 32 = .ok (.aload_n 0, 1) := by decide +kernel
theorem dX9_becomes_33 : decode cX9_becomes 33 = .ok (.iload 4, 2) := by decide +kernel
theorem dX9_becomes_35 : decode cX9_becomes 35 = .ok (.iconst 1, 1) := by decide +kernel
theorem dX9_becomes_36 : decode cX9_becomes 36 = .ok (.if_icmp .ne 14, 3) := by decide +kernel
theorem dX9_becomes_39 : decode cX9_becomes 39 = .ok (.aload_n 0, 1) := by decide +kernel
theorem dX9_becomes_40 : decode cX9_becomes 40 = .ok (.getfield 93, 3) := by decide +kernel
theorem dX9_becomes_43 : decode cX9_becomes 43 = .ok (.iconst 1, 1) := by decide +kernel
theorem dX9_becomes_44 : decode cX9_becomes 44 = .ok (.iload_n 2, 1) := by decide +kernel
theorem dX9_becomes_45 : decode cX9_becomes 45 = .ok (.ishl, 1) := by decide +kernel
theorem dX9_becomes_46 : decode cX9_becomes 46 = .ok (.ior, 1) := by decide +kernel
theorem dX9_becomes_47 : decode cX9_becomes 47 = .ok (.goto 13, 3) := by decide +kernel
theorem dX9_becomes_50 : decode cX9_becomes 50 = .ok (.aload_n 0, 1) := by decide +kernel
theorem dX9_becomes_51 : decode cX9_becomes 51 = .ok (.getfield 93, 3) := by decide +kernel
theorem dX9_becomes_54 : decode cX9_becomes 54 = .ok (.iconst 1, 1) := by decide +kernel
theorem dX9_becomes_55 : decode cX9_becomes 55 = .ok (.iload_n 2, 1) := by decide +kernel
theorem dX9_becomes_56 : decode cX9_becomes 56 = .ok (.ishl, 1) := by decide +kernel
theorem dX9_becomes_57 : decode cX9_becomes 57 = .ok (.iconst (-1), 1) := by decide +kernel
theorem dX9_becomes_58 : decode cX9_becomes 58 = .ok (.ixor, 1) := by decide +kernel
theorem dX9_becomes_59 : decode cX9_becomes 59 = .ok (.iand, 1) := by decide +kernel
theorem dX9_becomes_60 : decode cX9_becomes 60 = .ok (.putfield 93, 3) := by decide +kernel
theorem dX9_becomes_63 : decode cX9_becomes 63 = .ok (.goto 73, 3) := by decide +kernel
theorem dX9_becomes_66 : decode cX9_becomes 66 = .ok (.aload_n 0, 1) := by decide +kernel
theorem dX9_becomes_67 : decode cX9_becomes 67 = .ok (.iload_n 2, 1) := by decide +kernel
theorem dX9_becomes_68 : decode cX9_becomes 68 = .ok (.iload 4, 2) := by decide +kernel
theorem dX9_becomes_70 : decode cX9_becomes 70 = .ok (.iadd, 1) := by decide +kernel
theorem dX9_becomes_71 : decode cX9_becomes 71 = .ok (.putfield 77, 3) := by decide +kernel
theorem dX9_becomes_74 : decode cX9_becomes 74 = .ok (.goto 62, 3) := by decide +kernel
theorem dX9_becomes_77 : decode cX9_becomes 77 = .ok (.aload_n 0, 1) := by decide +kernel
theorem dX9_becomes_78 : decode cX9_becomes 78 = .ok (.getfield 25, 3) := by decide +kernel
theorem dX9_becomes_81 : decode cX9_becomes 81 = .ok (.iload_n 2, 1) := by decide +kernel
theorem dX9_becomes_82 : decode cX9_becomes 82 = .ok (.iload 4, 2) := by decide +kernel
theorem dX9_becomes_84 : decode cX9_becomes 84 = .ok (.iastore, 1) := by decide +kernel
theorem dX9_becomes_85 : decode cX9_becomes 85 = .ok (.goto 51, 3) := by decide +kernel
theorem dX9_becomes_88 : decode cX9_becomes 88 = .ok (.aload_n 0, 1) := by decide +kernel
theorem dX9_becomes_89 : decode cX9_becomes 89 = .ok (.getfield 22, 3) := by decide +kernel
theorem dX9_becomes_92 : decode cX9_becomes 92 = .ok (.iload_n 2, 1) := by decide +kernel
theorem dX9_becomes_93 : decode cX9_becomes 93 = .ok (.iload 4, 2) := by decide +kernel
theorem dX9_becomes_95 : decode cX9_becomes 95 = .ok (.iastore, 1) := by decide +kernel
theorem dX9_becomes_96 : decode cX9_becomes 96 = .ok (.goto 40, 3) := by decide +kernel
theorem dX9_becomes_99 : decode cX9_becomes 99 = .ok (.aload_n 0, 1) := by decide +kernel
theorem dX9_becomes_100 : decode cX9_becomes 100 = .ok (.getfield 28, 3) := by decide +kernel
theorem dX9_becomes_103 : decode cX9_becomes 103 = .ok (.iload_n 2, 1) := by decide +kernel
theorem dX9_becomes_104 : decode cX9_becomes 104 = .ok (.iload 4, 2) := by decide +kernel
theorem dX9_becomes_106 : decode cX9_becomes 106 = .ok (.iconst 1, 1) := by decide +kernel
theorem dX9_becomes_107 : decode cX9_becomes 107 = .ok (.if_icmp .ne 16, 3) := by decide +kernel
theorem dX9_becomes_110 : decode cX9_becomes 110 = .ok (.aload_n 0, 1) := by decide +kernel
theorem dX9_becomes_111 : decode cX9_becomes 111 = .ok (.getfield 28, 3) := by decide +kernel
theorem dX9_becomes_114 : decode cX9_becomes 114 = .ok (.iload_n 2, 1) := by decide +kernel
theorem dX9_becomes_115 : decode cX9_becomes 115 = .ok (.iaload, 1) := by decide +kernel
theorem dX9_becomes_116 : decode cX9_becomes 116 = .ok (.iconst 1, 1) := by decide +kernel
theorem dX9_becomes_117 : decode cX9_becomes 117 = .ok (.iload_n 3, 1) := by decide +kernel
theorem dX9_becomes_118 : decode cX9_becomes 118 = .ok (.ishl, 1) := by decide +kernel
theorem dX9_becomes_119 : decode cX9_becomes 119 = .ok (.ior, 1) := by decide +kernel
theorem dX9_becomes_120 : decode cX9_becomes 120 = .ok (.goto 15, 3) := by decide +kernel
theorem dX9_becomes_123 : decode cX9_becomes 123 = .ok (.aload_n 0, 1) := by decide +kernel
theorem dX9_becomes_124 : decode cX9_becomes 124 = .ok (.getfield 28, 3) := by decide +kernel
theorem dX9_becomes_127 : decode cX9_becomes 127 = .ok (.iload_n 2, 1) := by decide +kernel
theorem dX9_becomes_128 : decode cX9_becomes 128 = .ok (.iaload, 1) := by decide +kernel
theorem dX9_becomes_129 : decode cX9_becomes 129 = .ok (.iconst 1, 1) := by decide +kernel
theorem dX9_becomes_130 : decode cX9_becomes 130 = .ok (.iload_n 3, 1) := by decide +kernel
theorem dX9_becomes_131 : decode cX9_becomes 131 = .ok (.ishl, 1) := by decide +kernel
theorem dX9_becomes_132 : decode cX9_becomes 132 = .ok (.iconst (-1), 1) := by decide +kernel
theorem dX9_becomes_133 : decode cX9_becomes 133 = .ok (.ixor, 1) := by decide +kernel
theorem dX9_becomes_134 : decode cX9_becomes 134 = .ok (.iand, 1) := by decide +kernel
theorem dX9_becomes_135 : decode cX9_becomes 135 = .ok (.iastore, 1) := by decide +kernel
theorem dX9_becomes_136 : decode cX9_becomes 136 = .ok (.return_, 1) := by decide +kernel
set_option maxRecDepth 20000 in
theorem ggX9_does_X9_becomes : GoodIn wsX9_does wsX9_becomes := goodIn_r _ [5, 6, 7, 8, 9, 10, 18, 19, 20, 21, 22, 23, 24, 25, 26, 27, 28, 29, 30, 31, 32, 33, 34, 35, 36, 37, 38, 39, 40, 41, 42, 43, 44, 45, 46, 47, 48, 49, 50, 51, 52, 53, 54, 55, 56, 57] (by decide +kernel) (by decide +kernel)
set_option maxRecDepth 20000 in
theorem gX9_does_X9_becomes : GoodIn wsX9_does (wsV RX9 96 RX9 yX9_becomes wsX9_becomes) := goodIn_app (goodIn_of _ (by decide +kernel)) ggX9_does_X9_becomes
set_option maxRecDepth 20000 in
theorem ggX9_does_X9_changed : GoodIn wsX9_does wsX9_changed := goodIn_r _ [14, 15, 16, 17, 18, 19, 20, 21, 22, 23, 24, 25, 26, 27, 28, 29, 30, 31, 32, 33, 34, 35, 36, 37, 38, 39, 40, 41, 42, 43, 44, 45, 46, 47, 48, 49, 50, 51, 52, 53, 54, 55, 56, 57] (by decide +kernel) (by decide +kernel)
set_option maxRecDepth 20000 in
theorem gX9_does_X9_changed : GoodIn wsX9_does (wsV RX9 100 RX9 yX9_changed wsX9_changed) := goodIn_app (goodIn_of _ (by decide +kernel)) ggX9_does_X9_changed
theorem dX9_does_0 : decode cX9_does 0 = .ok (.aload_n 0, 1) := by decide +kernel
theorem dX9_does_1 : decode cX9_does 1 = .ok (.iload_n 1, 1) := by decide +kernel
theorem dX9_does_2 : decode cX9_does 2 = .ok (.iload_n 2, 1) := by decide +kernel
theorem dX9_does_3 : decode cX9_does 3 = .ok (.iload_n 3, 1) := by decide +kernel
theorem dX9_does_4 : decode cX9_does 4 = .ok (.iload 5, 2) := by decide +kernel
theorem dX9_does_6 : decode cX9_does 6 = .ok (.invokevirtual 96, 3) := by decide +kernel
theorem dX9_does_9 : decode cX9_does 9 = .ok (.aload_n 0, 1) := by decide +kernel
theorem dX9_does_10 : decode cX9_does 10 = .ok (.iload_n 1, 1) := by decide +kernel
theorem dX9_does_11 : decode cX9_does 11 = .ok (.iload_n 2, 1) := by decide +kernel
theorem dX9_does_12 : decode cX9_does 12 = .ok (.iload_n 3, 1) := by decide +kernel
theorem dX9_does_13 : decode cX9_does 13 = .ok (.iload 4, 2) := by decide +kernel
theorem dX9_does_15 : decode cX9_does 15 = .ok (.iload 5, 2) := by decide +kernel
theorem dX9_does_17 : decode cX9_does 17 = .ok (.invokevirtual 100, 3) := by decide +kernel
theorem dX9_does_20 : decode cX9_does 20 = .ok (.iload 4, 2) := by decide +kernel
theorem dX9_does_22 : decode cX9_does 22 = .ok (.ireturn, 1) := by decide +kernel
set_option maxRecDepth 20000 in
theorem ggX9_undo_X9_becomes : GoodIn wsX9_undo wsX9_becomes := goodIn_r _ [8, 9, 10, 11, 12, 13, 14, 15, 16, 17, 18, 19, 20, 21, 22, 23, 24, 25, 26, 27, 28, 29, 30, 31, 32, 33, 34, 35, 36, 37, 38, 39, 40, 41, 42, 43, 44, 45, 46, 47, 48, 49, 50, 51, 52, 53] (by decide +kernel) (by decide +kernel)
set_option maxRecDepth 20000 in
theorem gX9_undo_X9_becomes : GoodIn wsX9_undo (wsV RX9 96 RX9 yX9_becomes wsX9_becomes) := goodIn_app (goodIn_of _ (by decide +kernel)) ggX9_undo_X9_becomes
theorem dX9_undo_0 : decode cX9_undo 0 = .ok (.aload_n 0, 1) := by decide +kernel
theorem dX9_undo_1 : decode cX9_undo 1 = .ok (.getfield 87, 3) := by decide +kernel
theorem dX9_undo_4 : decode cX9_undo 4 = .ok (.ifCond .ne 6, 3) := by decide +kernel
theorem dX9_undo_7 : decode cX9_undo 7 = .ok (.bipush (-5), 2) := by decide +kernel
theorem dX9_undo_9 : decode cX9_undo 9 = .ok (.ireturn, 1) := by decide +kernel
theorem dX9_undo_10 : decode cX9_undo 10 = .ok (.aload_n 0, 1) := by decide +kernel
theorem dX9_undo_11 : decode cX9_undo 11 = .ok (.dup, 1) := by decide +kernel
theorem dX9_undo_12 : decode cX9_undo 12 = .ok (.getfield 87, 3) := by decide +kernel
theorem dX9_undo_15 : decode cX9_undo 15 = .ok (.iconst 1, 1) := by decide +kernel
theorem dX9_undo_16 : decode cX9_undo 16 = .ok (.isub, 1) := by decide +kernel
theorem dX9_undo_17 : decode cX9_undo 17 = .ok (.putfield 87, 3) := by decide +kernel
theorem dX9_undo_20 : decode cX9_undo 20 = .ok (.aload_n 0, 1) := by decide +kernel
theorem dX9_undo_21 : decode cX9_undo 21 = .ok (.dup, 1) := by decide +kernel
theorem dX9_undo_22 : decode cX9_undo 22 = .ok (.getfield 90, 3) := by decide +kernel
theorem dX9_undo_25 : decode cX9_undo 25 = .ok (.iconst 1, 1) := by decide +kernel
theorem dX9_undo_26 : decode cX9_undo 26 = .ok (.iadd, 1) := by decide +kernel
theorem dX9_undo_27 : decode cX9_undo 27 = .ok (.putfield 90, 3) := by decide +kernel
theorem dX9_undo_30 : decode cX9_undo 30 = .ok (.iconst 5, 1) := by decide +kernel
theorem dX9_undo_31 : decode cX9_undo 31 = .ok (.aload_n 0, 1) := by decide +kernel
theorem dX9_undo_32 : decode cX9_undo 32 = .ok (.getfield 87, 3) := by decide +kernel
theorem dX9_undo_35 : decode cX9_undo 35 = .ok (.imul, 1) := by decide +kernel
theorem dX9_undo_36 : decode cX9_undo 36 = .ok (.istore_n 1, 1) := by decide +kernel
theorem dX9_undo_37 : decode cX9_undo 37 = .ok (.aload_n 0, 1) := by decide +kernel
theorem dX9_undo_38 : decode cX9_undo 38 = .ok (.aload_n 0, 1) := by decide +kernel
theorem dX9_undo_39 : decode cX9_undo 39 = .ok (.getfield 31, 3) := by decide +kernel
theorem dX9_undo_42 : decode cX9_undo 42 = .ok (.iload_n 1, 1) := by decide +kernel
theorem dX9_undo_43 : decode cX9_undo 43 = .ok (.iaload, 1) := by decide +kernel
theorem dX9_undo_44 : decode cX9_undo 44 = .ok (.aload_n 0, 1) := by decide +kernel
theorem dX9_undo_45 : decode cX9_undo 45 = .ok (.getfield 31, 3) := by decide +kernel
theorem dX9_undo_48 : decode cX9_undo 48 = .ok (.iload_n 1, 1) := by decide +kernel
theorem dX9_undo_49 : decode cX9_undo 49 = .ok (.iconst 1, 1) := by decide +kernel
theorem dX9_undo_50 : decode cX9_undo 50 = .ok (.iadd, 1) := by decide +kernel
theorem dX9_undo_51 : decode cX9_undo 51 = .ok (.iaload, 1) := by decide +kernel
theorem dX9_undo_52 : decode cX9_undo 52 = .ok (.aload_n 0, 1) := by decide +kernel
theorem dX9_undo_53 : decode cX9_undo 53 = .ok (.getfield 31, 3) := by decide +kernel
theorem dX9_undo_56 : decode cX9_undo 56 = .ok (.iload_n 1, 1) := by decide +kernel
theorem dX9_undo_57 : decode cX9_undo 57 = .ok (.iconst 2, 1) := by decide +kernel
theorem dX9_undo_58 : decode cX9_undo 58 = .ok (.iadd, 1) := by decide +kernel
theorem dX9_undo_59 : decode cX9_undo 59 = .ok (.iaload, 1) := by decide +kernel
theorem dX9_undo_60 : decode cX9_undo 60 = .ok (.aload_n 0, 1) := by decide +kernel
theorem dX9_undo_61 : decode cX9_undo 61 = .ok (.getfield 31, 3) := by decide +kernel
theorem dX9_undo_64 : decode cX9_undo 64 = .ok (.iload_n 1, 1) := by decide +kernel
theorem dX9_undo_65 : decode cX9_undo 65 = .ok (.iconst 3, 1) := by decide +kernel
theorem dX9_undo_66 : decode cX9_undo 66 = .ok (.iadd, 1) := by decide +kernel
theorem dX9_undo_67 : decode cX9_undo 67 = .ok (.iaload, 1) := by decide +kernel
theorem dX9_undo_68 : decode cX9_undo 68 = .ok (.invokevirtual 96, 3) := by decide +kernel
theorem dX9_undo_71 : decode cX9_undo 71 = .ok (.aload_n 0, 1) := by decide +kernel
theorem dX9_undo_72 : decode cX9_undo 72 = .ok (.getfield 87, 3) := by decide +kernel
theorem dX9_undo_75 : decode cX9_undo 75 = .ok (.ireturn, 1) := by decide +kernel
set_option maxRecDepth 20000 in
theorem ggX9_redo_X9_becomes : GoodIn wsX9_redo wsX9_becomes := goodIn_r _ [8, 9, 10, 11, 12, 13, 14, 15, 16, 17, 18, 19, 20, 21, 22, 23, 24, 25, 26, 27, 28, 29, 30, 31, 32, 33, 34, 35, 36, 37, 38, 39, 40, 41, 42, 43, 44, 45, 46, 47, 48, 49, 50, 51, 52, 53] (by decide +kernel) (by decide +kernel)
set_option maxRecDepth 20000 in
theorem gX9_redo_X9_becomes : GoodIn wsX9_redo (wsV RX9 96 RX9 yX9_becomes wsX9_becomes) := goodIn_app (goodIn_of _ (by decide +kernel)) ggX9_redo_X9_becomes
theorem dX9_redo_0 : decode cX9_redo 0 = .ok (.aload_n 0, 1) := by decide +kernel
theorem dX9_redo_1 : decode cX9_redo 1 = .ok (.getfield 90, 3) := by decide +kernel
theorem dX9_redo_4 : decode cX9_redo 4 = .ok (.ifCond .ne 6, 3) := by decide +kernel
theorem dX9_redo_7 : decode cX9_redo 7 = .ok (.bipush (-5), 2) := by decide +kernel
theorem dX9_redo_9 : decode cX9_redo 9 = .ok (.ireturn, 1) := by decide +kernel
theorem dX9_redo_10 : decode cX9_redo 10 = .ok (.iconst 5, 1) := by decide +kernel
theorem dX9_redo_11 : decode cX9_redo 11 = .ok (.aload_n 0, 1) := by decide +kernel
theorem dX9_redo_12 : decode cX9_redo 12 = .ok (.getfield 87, 3) := by decide +kernel
theorem dX9_redo_15 : decode cX9_redo 15 = .ok (.imul, 1) := by decide +kernel
theorem dX9_redo_16 : decode cX9_redo 16 = .ok (.istore_n 1, 1) := by decide +kernel
theorem dX9_redo_17 : decode cX9_redo 17 = .ok (.aload_n 0, 1) := by decide +kernel
theorem dX9_redo_18 : decode cX9_redo 18 = .ok (.aload_n 0, 1) := by decide +kernel
theorem dX9_redo_19 : decode cX9_redo 19 = .ok (.getfield 31, 3) := by decide +kernel
theorem dX9_redo_22 : decode cX9_redo 22 = .ok (.iload_n 1, 1) := by decide +kernel
theorem dX9_redo_23 : decode cX9_redo 23 = .ok (.iaload, 1) := by decide +kernel
theorem dX9_redo_24 : decode cX9_redo 24 = .ok (.aload_n 0, 1) := by decide +kernel
theorem dX9_redo_25 : decode cX9_redo 25 = .ok (.getfield 31, 3) := by decide +kernel
theorem dX9_redo_28 : decode cX9_redo 28 = .ok (.iload_n 1, 1) := by decide +kernel
theorem dX9_redo_29 : decode cX9_redo 29 = .ok (.iconst 1, 1) := by decide +kernel
theorem dX9_redo_30 : decode cX9_redo 30 = .ok (.iadd, 1) := by decide +kernel
theorem dX9_redo_31 : decode cX9_redo 31 = .ok (.iaload, 1) := by decide +kernel
theorem dX9_redo_32 : decode cX9_redo 32 = .ok (.aload_n 0, 1) := by decide +kernel
theorem dX9_redo_33 : decode cX9_redo 33 = .ok (.getfield 31, 3) := by decide +kernel
theorem dX9_redo_36 : decode cX9_redo 36 = .ok (.iload_n 1, 1) := by decide +kernel
theorem dX9_redo_37 : decode cX9_redo 37 = .ok (.iconst 2, 1) := by decide +kernel
theorem dX9_redo_38 : decode cX9_redo 38 = .ok (.iadd, 1) := by decide +kernel
theorem dX9_redo_39 : decode cX9_redo 39 = .ok (.iaload, 1) := by decide +kernel
theorem dX9_redo_40 : decode cX9_redo 40 = .ok (.aload_n 0, 1) := by decide +kernel
theorem dX9_redo_41 : decode cX9_redo 41 = .ok (.getfield 31, 3) := by decide +kernel
theorem dX9_redo_44 : decode cX9_redo 44 = .ok (.iload_n 1, 1) := by decide +kernel
theorem dX9_redo_45 : decode cX9_redo 45 = .ok (.iconst 4, 1) := by decide +kernel
theorem dX9_redo_46 : decode cX9_redo 46 = .ok (.iadd, 1) := by decide +kernel
theorem dX9_redo_47 : decode cX9_redo 47 = .ok (.iaload, 1) := by decide +kernel
theorem dX9_redo_48 : decode cX9_redo 48 = .ok (.invokevirtual 96, 3) := by decide +kernel
theorem dX9_redo_51 : decode cX9_redo 51 = .ok (.aload_n 0, 1) := by decide +kernel
theorem dX9_redo_52 : decode cX9_redo 52 = .ok (.dup, 1) := by decide +kernel
theorem dX9_redo_53 : decode cX9_redo 53 = .ok (.getfield 87, 3) := by decide +kernel
theorem dX9_redo_56 : decode cX9_redo 56 = .ok (.iconst 1, 1) := by decide +kernel
theorem dX9_redo_57 : decode cX9_redo 57 = .ok (.iadd, 1) := by decide +kernel
theorem dX9_redo_58 : decode cX9_redo 58 = .ok (.putfield 87, 3) := by decide +kernel
theorem dX9_redo_61 : decode cX9_redo 61 = .ok (.aload_n 0, 1) := by decide +kernel
theorem dX9_redo_62 : decode cX9_redo 62 = .ok (.dup, 1) := by decide +kernel
theorem dX9_redo_63 : decode cX9_redo 63 = .ok (.getfield 90, 3) := by decide +kernel
theorem dX9_redo_66 : decode cX9_redo 66 = .ok (.iconst 1, 1) := by decide +kernel
theorem dX9_redo_67 : decode cX9_redo 67 = .ok (.isub, 1) := by decide +kernel
theorem dX9_redo_68 : decode cX9_redo 68 = .ok (.putfield 90, 3) := by decide +kernel
theorem dX9_redo_71 : decode cX9_redo 71 = .ok (.aload_n 0, 1) := by decide +kernel
theorem dX9_redo_72 : decode cX9_redo 72 = .ok (.getfield 90, 3) := by decide +kernel
theorem dX9_redo_75 : decode cX9_redo 75 = .ok (.ireturn, 1) := by decide +kernel
theorem dX9_begin_0 : decode cX9_begin 0 = .ok (.aload_n 0, 1) := by decide +kernel
theorem dX9_begin_1 : decode cX9_begin 1 = .ok (.getfield 77, 3) := by decide +kernel
theorem dX9_begin_4 : decode cX9_begin 4 = .ok (.istore_n 1, 1) := by decide +kernel
theorem dX9_begin_5 : decode cX9_begin 5 = .ok (.aload_n 0, 1) := by decide +kernel
theorem dX9_begin_6 : decode cX9_begin 6 = .ok (.iconst 0, 1) := by decide +kernel
theorem dX9_begin_7 : decode cX9_begin 7 = .ok (.putfield 93, 3) := by decide +kernel
theorem dX9_begin_10 : decode cX9_begin 10 = .ok (.aload_n 0, 1) := by decide +kernel
theorem dX9_begin_11 : decode cX9_begin 11 = .ok (.iconst 0, 1) := by decide +kernel
theorem dX9_begin_12 : decode cX9_begin 12 = .ok (.putfield 77, 3) := by decide +kernel
theorem dX9_begin_15 : decode cX9_begin 15 = .ok (.aload_n 0, 1) := by decide +kernel
theorem dX9_begin_16 : decode cX9_begin 16 = .ok (.iconst 0, 1) := by decide +kernel
theorem dX9_begin_17 : decode cX9_begin 17 = .ok (.putfield 87, 3) := by decide +kernel
theorem dX9_begin_20 : decode cX9_begin 20 = .ok (.aload_n 0, 1) := by decide +kernel
theorem dX9_begin_21 : decode cX9_begin 21 = .ok (.iconst 0, 1) := by decide +kernel
theorem dX9_begin_22 : decode cX9_begin 22 = .ok (.putfield 90, 3) := by decide +kernel
theorem dX9_begin_25 : decode cX9_begin 25 = .ok (.iload_n 1, 1) := by decide +kernel
theorem dX9_begin_26 : decode cX9_begin 26 = .ok (.ireturn, 1) := by decide +kernel
set_option maxRecDepth 20000 in
theorem ggX9_fact_X9_isLiteral : GoodIn wsX9_fact wsX9_isLiteral := goodIn_r _ [5, 6, 7, 4, 8] (by decide +kernel) (by decide +kernel)
set_option maxRecDepth 20000 in
theorem gX9_fact_X9_isLiteral : GoodIn wsX9_fact (va_wsS RX9 104 yX9_isLiteral wsX9_isLiteral) := goodIn_app (goodIn_of _ (by decide +kernel)) ggX9_fact_X9_isLiteral
set_option maxRecDepth 20000 in
theorem ggX9_fact_X9_isBit : GoodIn wsX9_fact wsX9_isBit := goodIn_r _ [11, 6, 7, 4, 8] (by decide +kernel) (by decide +kernel)
set_option maxRecDepth 20000 in
theorem gX9_fact_X9_isBit : GoodIn wsX9_fact (va_wsS RX9 108 yX9_isBit wsX9_isBit) := goodIn_app (goodIn_of _ (by decide +kernel)) ggX9_fact_X9_isBit
set_option maxRecDepth 20000 in
theorem ggX9_fact_X9_does : GoodIn wsX9_fact wsX9_does := goodIn_r _ [15, 16, 17, 18, 4, 19, 1, 20, 21, 22, 23, 24, 25, 26, 27, 28, 29, 30, 31, 32, 33, 34, 35, 36, 37, 38, 39, 40, 41, 42, 43, 44, 45, 46, 47, 48, 49, 50, 51, 52, 53, 54, 55, 56, 57, 58, 59, 60, 61, 62, 63, 64, 65, 66, 67, 68, 69, 70] (by decide +kernel) (by decide +kernel)
set_option maxRecDepth 20000 in
theorem gX9_fact_X9_does : GoodIn wsX9_fact (wsV RX9 111 RX9 yX9_does wsX9_does) := goodIn_app (goodIn_of _ (by decide +kernel)) ggX9_fact_X9_does
theorem dX9_fact_0 : decode cX9_fact 0 = .ok (.iload_n 1, 1) := by decide +kernel
theorem dX9_fact_1 : decode cX9_fact 1 = .ok (.invokestatic 104, 3) := by decide +kernel
theorem dX9_fact_4 : decode cX9_fact 4 = .ok (.ifCond .eq 10, 3) := by decide +kernel
theorem dX9_fact_7 : decode cX9_fact 7 = .ok (.iload_n 2, 1) := by decide +kernel
theorem dX9_fact_8 : decode cX9_fact 8 = .ok (.invokestatic 108, 3) := by decide +kernel
theorem dX9_fact_11 : decode cX9_fact 11 = .ok (.ifCond .ne 5, 3) := by decide +kernel
theorem dX9_fact_14 : decode cX9_fact 14 = .ok (.iconst (-1), 1) := by decide +kernel
theorem dX9_fact_15 : decode cX9_fact 15 = .ok (.ireturn, 1) := by decide +kernel
theorem dX9_fact_16 : decode cX9_fact 16 = .ok (.aload_n 0, 1) := by decide +kernel
theorem dX9_fact_17 : decode cX9_fact 17 = .ok (.iconst 0, 1) := by decide +kernel
theorem dX9_fact_18 : decode cX9_fact 18 = .ok (.iload_n 1, 1) := by decide +kernel
theorem dX9_fact_19 : decode cX9_fact 19 = .ok (.iconst 0, 1) := by decide +kernel
theorem dX9_fact_20 : decode cX9_fact 20 = .ok (.aload_n 0, 1) := by decide +kernel
theorem dX9_fact_21 : decode cX9_fact 21 = .ok (.getfield 93, 3) := by decide +kernel
theorem dX9_fact_24 : decode cX9_fact 24 = .ok (.iload_n 1, 1) := by decide +kernel
theorem dX9_fact_25 : decode cX9_fact 25 = .ok (.ishr, 1) := by decide +kernel
theorem dX9_fact_26 : decode cX9_fact 26 = .ok (.iconst 1, 1) := by decide +kernel
theorem dX9_fact_27 : decode cX9_fact 27 = .ok (.iand, 1) := by decide +kernel
theorem dX9_fact_28 : decode cX9_fact 28 = .ok (.iload_n 2, 1) := by decide +kernel
theorem dX9_fact_29 : decode cX9_fact 29 = .ok (.invokevirtual 111, 3) := by decide +kernel
theorem dX9_fact_32 : decode cX9_fact 32 = .ok (.ireturn, 1) := by decide +kernel
set_option maxRecDepth 20000 in
theorem ggX9_adds_X9_does : GoodIn wsX9_adds wsX9_does := goodIn_r _ [13, 14, 15, 16, 12, 17, 18, 1, 7, 6, 8, 19, 20, 21, 22, 23, 24, 25, 26, 27, 28, 29, 30, 31, 32, 33, 34, 35, 36, 37, 38, 39, 40, 41, 42, 43, 44, 45, 46, 47, 48, 49, 50, 51, 52, 53, 54, 55, 56, 57, 58, 59, 60, 61, 62, 63, 64, 65] (by decide +kernel) (by decide +kernel)
set_option maxRecDepth 20000 in
theorem gX9_adds_X9_does : GoodIn wsX9_adds (wsV RX9 111 RX9 yX9_does wsX9_does) := goodIn_app (goodIn_of _ (by decide +kernel)) ggX9_adds_X9_does
theorem dX9_adds_0 : decode cX9_adds 0 = .ok (.aload_n 0, 1) := by decide +kernel
theorem dX9_adds_1 : decode cX9_adds 1 = .ok (.getfield 77, 3) := by decide +kernel
theorem dX9_adds_4 : decode cX9_adds 4 = .ok (.istore 6, 2) := by decide +kernel
theorem dX9_adds_6 : decode cX9_adds 6 = .ok (.aload_n 0, 1) := by decide +kernel
theorem dX9_adds_7 : decode cX9_adds 7 = .ok (.getfield 7, 3) := by decide +kernel
theorem dX9_adds_10 : decode cX9_adds 10 = .ok (.iload 6, 2) := by decide +kernel
theorem dX9_adds_12 : decode cX9_adds 12 = .ok (.iload_n 1, 1) := by decide +kernel
theorem dX9_adds_13 : decode cX9_adds 13 = .ok (.iastore, 1) := by decide +kernel
theorem dX9_adds_14 : decode cX9_adds 14 = .ok (.aload_n 0, 1) := by decide +kernel
theorem dX9_adds_15 : decode cX9_adds 15 = .ok (.getfield 13, 3) := by decide +kernel
theorem dX9_adds_18 : decode cX9_adds 18 = .ok (.iload 6, 2) := by decide +kernel
theorem dX9_adds_20 : decode cX9_adds 20 = .ok (.iload_n 2, 1) := by decide +kernel
theorem dX9_adds_21 : decode cX9_adds 21 = .ok (.iastore, 1) := by decide +kernel
theorem dX9_adds_22 : decode cX9_adds 22 = .ok (.aload_n 0, 1) := by decide +kernel
theorem dX9_adds_23 : decode cX9_adds 23 = .ok (.getfield 16, 3) := by decide +kernel
theorem dX9_adds_26 : decode cX9_adds 26 = .ok (.iload 6, 2) := by decide +kernel
theorem dX9_adds_28 : decode cX9_adds 28 = .ok (.iload_n 3, 1) := by decide +kernel
theorem dX9_adds_29 : decode cX9_adds 29 = .ok (.iastore, 1) := by decide +kernel
theorem dX9_adds_30 : decode cX9_adds 30 = .ok (.aload_n 0, 1) := by decide +kernel
theorem dX9_adds_31 : decode cX9_adds 31 = .ok (.getfield 19, 3) := by decide +kernel
theorem dX9_adds_34 : decode cX9_adds 34 = .ok (.iload 6, 2) := by decide +kernel
theorem dX9_adds_36 : decode cX9_adds 36 = .ok (.iload 4, 2) := by decide +kernel
theorem dX9_adds_38 : decode cX9_adds 38 = .ok (.iastore, 1) := by decide +kernel
theorem dX9_adds_39 : decode cX9_adds 39 = .ok (.aload_n 0, 1) := by decide +kernel
theorem dX9_adds_40 : decode cX9_adds 40 = .ok (.getfield 22, 3) := by decide +kernel
theorem dX9_adds_43 : decode cX9_adds 43 = .ok (.iload 6, 2) := by decide +kernel
theorem dX9_adds_45 : decode cX9_adds 45 = .ok (.iload 5, 2) := by decide +kernel
theorem dX9_adds_47 : decode cX9_adds 47 = .ok (.iastore, 1) := by decide +kernel
theorem dX9_adds_48 : decode cX9_adds 48 = .ok (.aload_n 0, 1) := by decide +kernel
theorem dX9_adds_49 : decode cX9_adds 49 = .ok (.getfield 25, 3) := by decide +kernel
theorem dX9_adds_52 : decode cX9_adds 52 = .ok (.iload 6, 2) := by decide +kernel
theorem dX9_adds_54 : decode cX9_adds 54 = .ok (.iconst 0, 1) := by decide +kernel
theorem dX9_adds_55 : decode cX9_adds 55 = .ok (.iastore, 1) := by decide +kernel
theorem dX9_adds_56 : decode cX9_adds 56 = .ok (.aload_n 0, 1) := by decide +kernel
theorem dX9_adds_57 : decode cX9_adds 57 = .ok (.getfield 28, 3) := by decide +kernel
theorem dX9_adds_60 : decode cX9_adds 60 = .ok (.iload 6, 2) := by decide +kernel
theorem dX9_adds_62 : decode cX9_adds 62 = .ok (.iconst 0, 1) := by decide +kernel
theorem dX9_adds_63 : decode cX9_adds 63 = .ok (.iastore, 1) := by decide +kernel
theorem dX9_adds_64 : decode cX9_adds 64 = .ok (.iconst 0, 1) := by decide +kernel
theorem dX9_adds_65 : decode cX9_adds 65 = .ok (.istore 7, 2) := by decide +kernel
theorem dX9_adds_67 : decode cX9_adds 67 = .ok (.iload 7, 2) := by decide +kernel
theorem dX9_adds_69 : decode cX9_adds 69 = .ok (.bipush 16, 2) := by decide +kernel
theorem dX9_adds_71 : decode cX9_adds 71 = .ok (.if_icmp .ge 25, 3) := by decide +kernel
theorem dX9_adds_74 : decode cX9_adds 74 = .ok (.aload_n 0, 1) := by decide +kernel
theorem dX9_adds_75 : decode cX9_adds 75 = .ok (.getfield 28, 3) := by decide +kernel
theorem dX9_adds_78 : decode cX9_adds 78 = .ok (.iload 7, 2) := by decide +kernel
theorem dX9_adds_80 : decode cX9_adds 80 = .ok (.dup2, 1) := by decide +kernel
theorem dX9_adds_81 : decode cX9_adds 81 = .ok (.iaload, 1) := by decide +kernel
theorem dX9_adds_82 : decode cX9_adds 82 = .ok (.iconst 1, 1) := by decide +kernel
theorem dX9_adds_83 : decode cX9_adds 83 = .ok (.iload 6, 2) := by decide +kernel
theorem dX9_adds_85 : decode cX9_adds 85 = .ok (.ishl, 1) := by decide +kernel
theorem dX9_adds_86 : decode cX9_adds 86 = .ok (.iconst (-1), 1) := by decide +kernel
theorem dX9_adds_87 : decode cX9_adds 87 = .ok (.ixor, 1) := by decide +kernel
theorem dX9_adds_88 : decode cX9_adds 88 = .ok (.iand, 1) := by decide +kernel
theorem dX9_adds_89 : decode cX9_adds 89 = .ok (.iastore, 1) := by decide +kernel
theorem dX9_adds_90 : decode cX9_adds 90 = .ok (.iinc 7 1, 3) := by decide +kernel
theorem dX9_adds_93 : decode cX9_adds 93 = .ok (.goto (-26), 3) := by decide +kernel
theorem dX9_adds_96 : decode cX9_adds 96 = .ok (.aload_n 0, 1) := by decide +kernel
theorem dX9_adds_97 : decode cX9_adds 97 = .ok (.iconst 1, 1) := by decide +kernel
theorem dX9_adds_98 : decode cX9_adds 98 = .ok (.iload 6, 2) := by decide +kernel
theorem dX9_adds_100 : decode cX9_adds 100 = .ok (.iconst 0, 1) := by decide +kernel
theorem dX9_adds_101 : decode cX9_adds 101 = .ok (.iconst 0, 1) := by decide +kernel
theorem dX9_adds_102 : decode cX9_adds 102 = .ok (.iconst 1, 1) := by decide +kernel
theorem dX9_adds_103 : decode cX9_adds 103 = .ok (.invokevirtual 111, 3) := by decide +kernel
theorem dX9_adds_106 : decode cX9_adds 106 = .ok (.pop, 1) := by decide +kernel
theorem dX9_adds_107 : decode cX9_adds 107 = .ok (.iload 6, 2) := by decide +kernel
theorem dX9_adds_109 : decode cX9_adds 109 = .ok (.ireturn, 1) := by decide +kernel
set_option maxRecDepth 20000 in
theorem ggX9_rule_X9_in : GoodIn wsX9_rule wsX9_in := goodIn_r _ [6] (by decide +kernel) (by decide +kernel)
set_option maxRecDepth 20000 in
theorem gX9_rule_X9_in : GoodIn wsX9_rule (va_wsS RX9 73 yX9_in wsX9_in) := goodIn_app (goodIn_of _ (by decide +kernel)) ggX9_rule_X9_in
set_option maxRecDepth 20000 in
theorem ggX9_rule_X9_isLiteral : GoodIn wsX9_rule wsX9_isLiteral := goodIn_r _ [9, 3, 4, 5, 6] (by decide +kernel) (by decide +kernel)
set_option maxRecDepth 20000 in
theorem gX9_rule_X9_isLiteral : GoodIn wsX9_rule (va_wsS RX9 104 yX9_isLiteral wsX9_isLiteral) := goodIn_app (goodIn_of _ (by decide +kernel)) ggX9_rule_X9_isLiteral
set_option maxRecDepth 20000 in
theorem ggX9_rule_X9_adds : GoodIn wsX9_rule wsX9_adds := goodIn_r _ [13, 2, 14, 15, 16, 17, 18, 19, 20, 21, 22, 23, 5, 24, 25, 26, 27, 28, 29, 30, 31, 32, 33, 34, 35, 36, 37, 38, 39, 40, 41, 42, 43, 44, 45, 46, 47, 48, 49, 50, 51, 52, 53, 54, 55, 56, 57, 58, 59, 60, 61, 62, 63, 64, 65, 66, 67, 68, 69, 70, 71, 72, 73, 74, 75, 76] (by decide +kernel) (by decide +kernel)
set_option maxRecDepth 20000 in
theorem gX9_rule_X9_adds : GoodIn wsX9_rule (wsV RX9 116 RX9 yX9_adds wsX9_adds) := goodIn_app (goodIn_of _ (by decide +kernel)) ggX9_rule_X9_adds
theorem dX9_rule_0 : decode cX9_rule 0 = .ok (.iload_n 1, 1) := by decide +kernel
theorem dX9_rule_1 : decode cX9_rule 1 = .ok (.iconst 0, 1) := by decide +kernel
theorem dX9_rule_2 : decode cX9_rule 2 = .ok (.iconst 2, 1) := by decide +kernel
theorem dX9_rule_3 : decode cX9_rule 3 = .ok (.invokestatic 73, 3) := by decide +kernel
theorem dX9_rule_6 : decode cX9_rule 6 = .ok (.ifCond .eq 51, 3) := by decide +kernel
theorem dX9_rule_9 : decode cX9_rule 9 = .ok (.iload_n 2, 1) := by decide +kernel
theorem dX9_rule_10 : decode cX9_rule 10 = .ok (.invokestatic 104, 3) := by decide +kernel
theorem dX9_rule_13 : decode cX9_rule 13 = .ok (.ifCond .eq 44, 3) := by decide +kernel
theorem dX9_rule_16 : decode cX9_rule 16 = .ok (.iload_n 3, 1) := by decide +kernel
theorem dX9_rule_17 : decode cX9_rule 17 = .ok (.iconst 0, 1) := by decide +kernel
theorem dX9_rule_18 : decode cX9_rule 18 = .ok (.ldc 115, 2) := by decide +kernel
theorem dX9_rule_20 : decode cX9_rule 20 = .ok (.invokestatic 73, 3) := by decide +kernel
theorem dX9_rule_23 : decode cX9_rule 23 = .ok (.ifCond .eq 34, 3) := by decide +kernel
theorem dX9_rule_26 : decode cX9_rule 26 = .ok (.iload 4, 2) := by decide +kernel
theorem dX9_rule_28 : decode cX9_rule 28 = .ok (.iconst 0, 1) := by decide +kernel
theorem dX9_rule_29 : decode cX9_rule 29 = .ok (.ldc 115, 2) := by decide +kernel
theorem dX9_rule_31 : decode cX9_rule 31 = .ok (.invokestatic 73, 3) := by decide +kernel
theorem dX9_rule_34 : decode cX9_rule 34 = .ok (.ifCond .eq 23, 3) := by decide +kernel
theorem dX9_rule_37 : decode cX9_rule 37 = .ok (.iload 5, 2) := by decide +kernel
theorem dX9_rule_39 : decode cX9_rule 39 = .ok (.iconst 0, 1) := by decide +kernel
theorem dX9_rule_40 : decode cX9_rule 40 = .ok (.bipush 9, 2) := by decide +kernel
theorem dX9_rule_42 : decode cX9_rule 42 = .ok (.invokestatic 73, 3) := by decide +kernel
theorem dX9_rule_45 : decode cX9_rule 45 = .ok (.ifCond .eq 12, 3) := by decide +kernel
theorem dX9_rule_48 : decode cX9_rule 48 = .ok (.iload_n 1, 1) := by decide +kernel
theorem dX9_rule_49 : decode cX9_rule 49 = .ok (.ifCond .ne 10, 3) := by decide +kernel
theorem dX9_rule_52 : decode cX9_rule 52 = .ok (.iload 4, 2) := by decide +kernel
theorem dX9_rule_54 : decode cX9_rule 54 = .ok (.ifCond .eq 5, 3) := by decide +kernel
theorem dX9_rule_57 : decode cX9_rule 57 = .ok (.iconst (-1), 1) := by decide +kernel
theorem dX9_rule_58 : decode cX9_rule 58 = .ok (.ireturn, 1) := by decide +kernel
theorem dX9_rule_59 : decode cX9_rule 59 = .ok (.aload_n 0, 1) := by decide +kernel
theorem dX9_rule_60 : decode cX9_rule 60 = .ok (.getfield 77, 3) := by decide +kernel
theorem dX9_rule_63 : decode cX9_rule 63 = .ok (.bipush 16, 2) := by decide +kernel
theorem dX9_rule_65 : decode cX9_rule 65 = .ok (.if_icmp .ne 8, 3) := by decide +kernel
theorem dX9_rule_68 : decode cX9_rule 68 = .ok (.bipush (-3), 2) := by decide +kernel
theorem dX9_rule_70 : decode cX9_rule 70 = .ok (.goto 14, 3) := by decide +kernel
theorem dX9_rule_73 : decode cX9_rule 73 = .ok (.aload_n 0, 1) := by decide +kernel
theorem dX9_rule_74 : decode cX9_rule 74 = .ok (.iload_n 1, 1) := by decide +kernel
theorem dX9_rule_75 : decode cX9_rule 75 = .ok (.iload_n 2, 1) := by decide +kernel
theorem dX9_rule_76 : decode cX9_rule 76 = .ok (.iload_n 3, 1) := by decide +kernel
theorem dX9_rule_77 : decode cX9_rule 77 = .ok (.iload 4, 2) := by decide +kernel
theorem dX9_rule_79 : decode cX9_rule 79 = .ok (.iload 5, 2) := by decide +kernel
theorem dX9_rule_81 : decode cX9_rule 81 = .ok (.invokevirtual 116, 3) := by decide +kernel
theorem dX9_rule_84 : decode cX9_rule 84 = .ok (.ireturn, 1) := by decide +kernel
set_option maxRecDepth 20000 in
theorem ggX9_off_X9_isRule : GoodIn wsX9_off wsX9_isRule := goodIn_r _ [6, 7, 8, 9, 5, 10, 32, 33, 34, 35, 36, 37, 38, 39, 40, 41, 42, 43, 44, 45, 46, 47, 48, 49, 50, 51, 52, 53, 54, 55, 56, 57, 58, 59, 60, 61, 62, 63, 64, 65, 66, 67, 68, 69, 70, 71] (by decide +kernel) (by decide +kernel)
set_option maxRecDepth 20000 in
theorem gX9_off_X9_isRule : GoodIn wsX9_off (wsV RX9 119 RX9 yX9_isRule wsX9_isRule) := goodIn_app (goodIn_of _ (by decide +kernel)) ggX9_off_X9_isRule
set_option maxRecDepth 20000 in
theorem ggX9_off_X9_isBit : GoodIn wsX9_off wsX9_isBit := goodIn_r _ [13, 8, 9, 5, 10] (by decide +kernel) (by decide +kernel)
set_option maxRecDepth 20000 in
theorem gX9_off_X9_isBit : GoodIn wsX9_off (va_wsS RX9 108 yX9_isBit wsX9_isBit) := goodIn_app (goodIn_of _ (by decide +kernel)) ggX9_off_X9_isBit
set_option maxRecDepth 20000 in
theorem ggX9_off_X9_does : GoodIn wsX9_off wsX9_does := goodIn_r _ [17, 18, 19, 20, 5, 21, 22, 7, 1, 23, 24, 25, 26, 27, 28, 29, 30, 31, 32, 33, 34, 35, 36, 37, 38, 39, 40, 41, 42, 43, 44, 45, 46, 47, 48, 49, 50, 51, 52, 53, 54, 55, 56, 57, 58, 59, 60, 61, 62, 63, 64, 65, 66, 67, 68, 69, 70, 71] (by decide +kernel) (by decide +kernel)
set_option maxRecDepth 20000 in
theorem gX9_off_X9_does : GoodIn wsX9_off (wsV RX9 111 RX9 yX9_does wsX9_does) := goodIn_app (goodIn_of _ (by decide +kernel)) ggX9_off_X9_does
theorem dX9_off_0 : decode cX9_off 0 = .ok (.aload_n 0, 1) := by decide +kernel
theorem dX9_off_1 : decode cX9_off 1 = .ok (.iload_n 1, 1) := by decide +kernel
theorem dX9_off_2 : decode cX9_off 2 = .ok (.invokevirtual 119, 3) := by decide +kernel
theorem dX9_off_5 : decode cX9_off 5 = .ok (.ifCond .eq 10, 3) := by decide +kernel
theorem dX9_off_8 : decode cX9_off 8 = .ok (.iload_n 2, 1) := by decide +kernel
theorem dX9_off_9 : decode cX9_off 9 = .ok (.invokestatic 108, 3) := by decide +kernel
theorem dX9_off_12 : decode cX9_off 12 = .ok (.ifCond .ne 5, 3) := by decide +kernel
theorem dX9_off_15 : decode cX9_off 15 = .ok (.iconst (-1), 1) := by decide +kernel
theorem dX9_off_16 : decode cX9_off 16 = .ok (.ireturn, 1) := by decide +kernel
theorem dX9_off_17 : decode cX9_off 17 = .ok (.aload_n 0, 1) := by decide +kernel
theorem dX9_off_18 : decode cX9_off 18 = .ok (.iconst 2, 1) := by decide +kernel
theorem dX9_off_19 : decode cX9_off 19 = .ok (.iload_n 1, 1) := by decide +kernel
theorem dX9_off_20 : decode cX9_off 20 = .ok (.iconst 0, 1) := by decide +kernel
theorem dX9_off_21 : decode cX9_off 21 = .ok (.aload_n 0, 1) := by decide +kernel
theorem dX9_off_22 : decode cX9_off 22 = .ok (.getfield 25, 3) := by decide +kernel
theorem dX9_off_25 : decode cX9_off 25 = .ok (.iload_n 1, 1) := by decide +kernel
theorem dX9_off_26 : decode cX9_off 26 = .ok (.iaload, 1) := by decide +kernel
theorem dX9_off_27 : decode cX9_off 27 = .ok (.iload_n 2, 1) := by decide +kernel
theorem dX9_off_28 : decode cX9_off 28 = .ok (.invokevirtual 111, 3) := by decide +kernel
theorem dX9_off_31 : decode cX9_off 31 = .ok (.ireturn, 1) := by decide +kernel
set_option maxRecDepth 20000 in
theorem ggX9_strength_X9_isRule : GoodIn wsX9_strength wsX9_isRule := goodIn_r _ [6, 7, 8, 9, 5, 10, 29, 30, 31, 32, 33, 34, 35, 36, 37, 38, 39, 40, 41, 42, 43, 44, 45, 46, 47, 48, 49, 50, 51, 52, 53, 54, 55, 56, 57, 58, 59, 60, 61, 62, 63, 64, 65, 66, 67, 68] (by decide +kernel) (by decide +kernel)
set_option maxRecDepth 20000 in
theorem gX9_strength_X9_isRule : GoodIn wsX9_strength (wsV RX9 119 RX9 yX9_isRule wsX9_isRule) := goodIn_app (goodIn_of _ (by decide +kernel)) ggX9_strength_X9_isRule
set_option maxRecDepth 20000 in
theorem ggX9_strength_X9_in : GoodIn wsX9_strength wsX9_in := goodIn_r _ [10] (by decide +kernel) (by decide +kernel)
set_option maxRecDepth 20000 in
theorem gX9_strength_X9_in : GoodIn wsX9_strength (va_wsS RX9 73 yX9_in wsX9_in) := goodIn_app (goodIn_of _ (by decide +kernel)) ggX9_strength_X9_in
set_option maxRecDepth 20000 in
theorem ggX9_strength_X9_does : GoodIn wsX9_strength wsX9_does := goodIn_r _ [14, 15, 16, 17, 5, 18, 19, 7, 20, 1, 21, 22, 23, 24, 25, 26, 27, 28, 29, 30, 31, 32, 33, 34, 35, 36, 37, 38, 39, 40, 41, 42, 43, 44, 45, 46, 47, 48, 49, 50, 51, 52, 53, 54, 55, 56, 57, 58, 59, 60, 61, 62, 63, 64, 65, 66, 67, 68] (by decide +kernel) (by decide +kernel)
set_option maxRecDepth 20000 in
theorem gX9_strength_X9_does : GoodIn wsX9_strength (wsV RX9 111 RX9 yX9_does wsX9_does) := goodIn_app (goodIn_of _ (by decide +kernel)) ggX9_strength_X9_does
theorem dX9_strength_0 : decode cX9_strength 0 = .ok (.aload_n 0, 1) := by decide +kernel
theorem dX9_strength_1 : decode cX9_strength 1 = .ok (.iload_n 1, 1) := by decide +kernel
theorem dX9_strength_2 : decode cX9_strength 2 = .ok (.invokevirtual 119, 3) := by decide +kernel
theorem dX9_strength_5 : decode cX9_strength 5 = .ok (.ifCond .eq 13, 3) := by decide +kernel
theorem dX9_strength_8 : decode cX9_strength 8 = .ok (.iload_n 2, 1) := by decide +kernel
theorem dX9_strength_9 : decode cX9_strength 9 = .ok (.iconst 0, 1) := by decide +kernel
theorem dX9_strength_10 : decode cX9_strength 10 = .ok (.bipush 9, 2) := by decide +kernel
theorem dX9_strength_12 : decode cX9_strength 12 = .ok (.invokestatic 73, 3) := by decide +kernel
theorem dX9_strength_15 : decode cX9_strength 15 = .ok (.ifCond .ne 5, 3) := by decide +kernel
theorem dX9_strength_18 : decode cX9_strength 18 = .ok (.iconst (-1), 1) := by decide +kernel
theorem dX9_strength_19 : decode cX9_strength 19 = .ok (.ireturn, 1) := by decide +kernel
theorem dX9_strength_20 : decode cX9_strength 20 = .ok (.aload_n 0, 1) := by decide +kernel
theorem dX9_strength_21 : decode cX9_strength 21 = .ok (.iconst 3, 1) := by decide +kernel
theorem dX9_strength_22 : decode cX9_strength 22 = .ok (.iload_n 1, 1) := by decide +kernel
theorem dX9_strength_23 : decode cX9_strength 23 = .ok (.iconst 0, 1) := by decide +kernel
theorem dX9_strength_24 : decode cX9_strength 24 = .ok (.aload_n 0, 1) := by decide +kernel
theorem dX9_strength_25 : decode cX9_strength 25 = .ok (.getfield 22, 3) := by decide +kernel
theorem dX9_strength_28 : decode cX9_strength 28 = .ok (.iload_n 1, 1) := by decide +kernel
theorem dX9_strength_29 : decode cX9_strength 29 = .ok (.iaload, 1) := by decide +kernel
theorem dX9_strength_30 : decode cX9_strength 30 = .ok (.iload_n 2, 1) := by decide +kernel
theorem dX9_strength_31 : decode cX9_strength 31 = .ok (.invokevirtual 111, 3) := by decide +kernel
theorem dX9_strength_34 : decode cX9_strength 34 = .ok (.ireturn, 1) := by decide +kernel
set_option maxRecDepth 20000 in
theorem ggX9_over_X9_isRule : GoodIn wsX9_over wsX9_isRule := goodIn_r _ [6, 7, 8, 9, 5, 10, 35, 36, 37, 38, 39, 40, 41, 42, 43, 44, 45, 46, 47, 48, 49, 50, 51, 52, 53, 54, 55, 56, 57, 58, 59, 60, 61, 62, 63, 64, 65, 66, 67, 68, 69, 70, 71, 72, 73, 74] (by decide +kernel) (by decide +kernel)
set_option maxRecDepth 20000 in
theorem gX9_over_X9_isRule : GoodIn wsX9_over (wsV RX9 119 RX9 yX9_isRule wsX9_isRule) := goodIn_app (goodIn_of _ (by decide +kernel)) ggX9_over_X9_isRule
set_option maxRecDepth 20000 in
theorem ggX9_over_X9_isBit : GoodIn wsX9_over wsX9_isBit := goodIn_r _ [13, 8, 9, 5, 10] (by decide +kernel) (by decide +kernel)
set_option maxRecDepth 20000 in
theorem gX9_over_X9_isBit : GoodIn wsX9_over (va_wsS RX9 108 yX9_isBit wsX9_isBit) := goodIn_app (goodIn_of _ (by decide +kernel)) ggX9_over_X9_isBit
set_option maxRecDepth 20000 in
theorem ggX9_over_X9_has : GoodIn wsX9_over wsX9_has := goodIn_r _ [16] (by decide +kernel) (by decide +kernel)
set_option maxRecDepth 20000 in
theorem gX9_over_X9_has : GoodIn wsX9_over (va_wsS RX9 122 yX9_has wsX9_has) := goodIn_app (goodIn_of _ (by decide +kernel)) ggX9_over_X9_has
set_option maxRecDepth 20000 in
theorem ggX9_over_X9_does : GoodIn wsX9_over wsX9_does := goodIn_r _ [20, 21, 22, 23, 5, 24, 25, 7, 26, 27, 1, 28, 29, 30, 31, 32, 33, 34, 35, 36, 37, 38, 39, 40, 41, 42, 43, 44, 45, 46, 47, 48, 49, 50, 51, 52, 53, 54, 55, 56, 57, 58, 59, 60, 61, 62, 63, 64, 65, 66, 67, 68, 69, 70, 71, 72, 73, 74] (by decide +kernel) (by decide +kernel)
set_option maxRecDepth 20000 in
theorem gX9_over_X9_does : GoodIn wsX9_over (wsV RX9 111 RX9 yX9_does wsX9_does) := goodIn_app (goodIn_of _ (by decide +kernel)) ggX9_over_X9_does
theorem dX9_over_0 : decode cX9_over 0 = .ok (.aload_n 0, 1) := by decide +kernel
theorem dX9_over_1 : decode cX9_over 1 = .ok (.iload_n 1, 1) := by decide +kernel
theorem dX9_over_2 : decode cX9_over 2 = .ok (.invokevirtual 119, 3) := by decide +kernel
theorem dX9_over_5 : decode cX9_over 5 = .ok (.ifCond .eq 23, 3) := by decide +kernel
theorem dX9_over_8 : decode cX9_over 8 = .ok (.aload_n 0, 1) := by decide +kernel
theorem dX9_over_9 : decode cX9_over 9 = .ok (.iload_n 2, 1) := by decide +kernel
theorem dX9_over_10 : decode cX9_over 10 = .ok (.invokevirtual 119, 3) := by decide +kernel
theorem dX9_over_13 : decode cX9_over 13 = .ok (.ifCond .eq 15, 3) := by decide +kernel
theorem dX9_over_16 : decode cX9_over 16 = .ok (.iload_n 1, 1) := by decide +kernel
theorem dX9_over_17 : decode cX9_over 17 = .ok (.iload_n 2, 1) := by decide +kernel
theorem dX9_over_18 : decode cX9_over 18 = .ok (.if_icmp .eq 10, 3) := by decide +kernel
theorem dX9_over_21 : decode cX9_over 21 = .ok (.iload_n 3, 1) := by decide +kernel
theorem dX9_over_22 : decode cX9_over 22 = .ok (.invokestatic 108, 3) := by decide +kernel
theorem dX9_over_25 : decode cX9_over 25 = .ok (.ifCond .ne 5, 3) := by decide +kernel
theorem dX9_over_28 : decode cX9_over 28 = .ok (.iconst (-1), 1) := by decide +kernel
theorem dX9_over_29 : decode cX9_over 29 = .ok (.ireturn, 1) := by decide +kernel
theorem dX9_over_30 : decode cX9_over 30 = .ok (.iload_n 3, 1) := by decide +kernel
theorem dX9_over_31 : decode cX9_over 31 = .ok (.iconst 1, 1) := by decide +kernel
theorem dX9_over_32 : decode cX9_over 32 = .ok (.if_icmp .ne 19, 3) := by decide +kernel
theorem dX9_over_35 : decode cX9_over 35 = .ok (.aload_n 0, 1) := by decide +kernel
theorem dX9_over_36 : decode cX9_over 36 = .ok (.getfield 28, 3) := by decide +kernel
theorem dX9_over_39 : decode cX9_over 39 = .ok (.iload_n 2, 1) := by decide +kernel
theorem dX9_over_40 : decode cX9_over 40 = .ok (.iaload, 1) := by decide +kernel
theorem dX9_over_41 : decode cX9_over 41 = .ok (.iload_n 1, 1) := by decide +kernel
theorem dX9_over_42 : decode cX9_over 42 = .ok (.invokestatic 122, 3) := by decide +kernel
theorem dX9_over_45 : decode cX9_over 45 = .ok (.ifCond .eq 6, 3) := by decide +kernel
theorem dX9_over_48 : decode cX9_over 48 = .ok (.bipush (-5), 2) := by decide +kernel
theorem dX9_over_50 : decode cX9_over 50 = .ok (.ireturn, 1) := by decide +kernel
theorem dX9_over_51 : decode cX9_over 51 = .ok (.aload_n 0, 1) := by decide +kernel
theorem dX9_over_52 : decode cX9_over 52 = .ok (.iconst 4, 1) := by decide +kernel
theorem dX9_over_53 : decode cX9_over 53 = .ok (.iload_n 1, 1) := by decide +kernel
theorem dX9_over_54 : decode cX9_over 54 = .ok (.iload_n 2, 1) := by decide +kernel
theorem dX9_over_55 : decode cX9_over 55 = .ok (.aload_n 0, 1) := by decide +kernel
theorem dX9_over_56 : decode cX9_over 56 = .ok (.getfield 28, 3) := by decide +kernel
theorem dX9_over_59 : decode cX9_over 59 = .ok (.iload_n 1, 1) := by decide +kernel
theorem dX9_over_60 : decode cX9_over 60 = .ok (.iaload, 1) := by decide +kernel
theorem dX9_over_61 : decode cX9_over 61 = .ok (.iload_n 2, 1) := by decide +kernel
theorem dX9_over_62 : decode cX9_over 62 = .ok (.ishr, 1) := by decide +kernel
theorem dX9_over_63 : decode cX9_over 63 = .ok (.iconst 1, 1) := by decide +kernel
theorem dX9_over_64 : decode cX9_over 64 = .ok (.iand, 1) := by decide +kernel
theorem dX9_over_65 : decode cX9_over 65 = .ok (.iload_n 3, 1) := by decide +kernel
theorem dX9_over_66 : decode cX9_over 66 = .ok (.invokevirtual 111, 3) := by decide +kernel
theorem dX9_over_69 : decode cX9_over 69 = .ok (.ireturn, 1) := by decide +kernel
theorem dX9_isFor_0 : decode cX9_isFor 0 = .ok (.aload_n 0, 1) := by decide +kernel
theorem dX9_isFor_1 : decode cX9_isFor 1 = .ok (.getfield 25, 3) := by decide +kernel
theorem dX9_isFor_4 : decode cX9_isFor 4 = .ok (.iload_n 1, 1) := by decide +kernel
theorem dX9_isFor_5 : decode cX9_isFor 5 = .ok (.iaload, 1) := by decide +kernel
theorem dX9_isFor_6 : decode cX9_isFor 6 = .ok (.ifCond .ne 17, 3) := by decide +kernel
theorem dX9_isFor_9 : decode cX9_isFor 9 = .ok (.aload_n 0, 1) := by decide +kernel
theorem dX9_isFor_10 : decode cX9_isFor 10 = .ok (.getfield 13, 3) := by decide +kernel
theorem dX9_isFor_13 : decode cX9_isFor 13 = .ok (.iload_n 1, 1) := by decide +kernel
theorem dX9_isFor_14 : decode cX9_isFor 14 = .ok (.iaload, 1) := by decide +kernel
theorem dX9_isFor_15 : decode cX9_isFor 15 = .ok (.iload_n 2, 1) := by decide +kernel
theorem dX9_isFor_16 : decode cX9_isFor 16 = .ok (.if_icmp .ne 7, 3) := by decide +kernel
theorem dX9_isFor_19 : decode cX9_isFor 19 = .ok (.iconst 1, 1) := by decide +kernel
theorem dX9_isFor_20 : decode cX9_isFor 20 = .ok (.goto 4, 3) := by decide +kernel
theorem dX9_isFor_23 : decode cX9_isFor 23 = .ok (.iconst 0, 1) := by decide +kernel
theorem dX9_isFor_24 : decode cX9_isFor 24 = .ok (.ireturn, 1) := by decide +kernel
set_option maxRecDepth 20000 in
theorem ggX9_isForward_X9_isFor : GoodIn wsX9_isForward wsX9_isFor := goodIn_r _ [6, 7, 8, 9, 10, 11, 12, 13, 14, 15, 16, 17, 18, 19, 20, 21, 22, 23, 24, 25, 26, 27, 28, 29, 30, 31, 32, 33, 34, 35, 36, 37, 38, 39, 40, 41, 42, 43, 44, 45, 46, 47, 48] (by decide +kernel) (by decide +kernel)
set_option maxRecDepth 20000 in
theorem gX9_isForward_X9_isFor : GoodIn wsX9_isForward (wsV RX9 126 RX9 yX9_isFor wsX9_isFor) := goodIn_app (goodIn_of _ (by decide +kernel)) ggX9_isForward_X9_isFor
theorem dX9_isForward_0 : decode cX9_isForward 0 = .ok (.aload_n 0, 1) := by decide +kernel
theorem dX9_isForward_1 : decode cX9_isForward 1 = .ok (.iload_n 1, 1) := by decide +kernel
theorem dX9_isForward_2 : decode cX9_isForward 2 = .ok (.iload_n 2, 1) := by decide +kernel
theorem dX9_isForward_3 : decode cX9_isForward 3 = .ok (.invokevirtual 126, 3) := by decide +kernel
theorem dX9_isForward_6 : decode cX9_isForward 6 = .ok (.ifCond .eq 17, 3) := by decide +kernel
theorem dX9_isForward_9 : decode cX9_isForward 9 = .ok (.aload_n 0, 1) := by decide +kernel
theorem dX9_isForward_10 : decode cX9_isForward 10 = .ok (.getfield 7, 3) := by decide +kernel
theorem dX9_isForward_13 : decode cX9_isForward 13 = .ok (.iload_n 1, 1) := by decide +kernel
theorem dX9_isForward_14 : decode cX9_isForward 14 = .ok (.iaload, 1) := by decide +kernel
theorem dX9_isForward_15 : decode cX9_isForward 15 = .ok (.iconst 2, 1) := by decide +kernel
theorem dX9_isForward_16 : decode cX9_isForward 16 = .ok (.if_icmp .ge 7, 3) := by decide +kernel
theorem dX9_isForward_19 : decode cX9_isForward 19 = .ok (.iconst 1, 1) := by decide +kernel
theorem dX9_isForward_20 : decode cX9_isForward 20 = .ok (.goto 4, 3) := by decide +kernel
theorem dX9_isForward_23 : decode cX9_isForward 23 = .ok (.iconst 0, 1) := by decide +kernel
theorem dX9_isForward_24 : decode cX9_isForward 24 = .ok (.ireturn, 1) := by decide +kernel
set_option maxRecDepth 20000 in
theorem ggX9_isAbove_X9_has : GoodIn wsX9_isAbove wsX9_has := goodIn_r _ [6] (by decide +kernel) (by decide +kernel)
set_option maxRecDepth 20000 in
theorem gX9_isAbove_X9_has : GoodIn wsX9_isAbove (va_wsS RX9 122 yX9_has wsX9_has) := goodIn_app (goodIn_of _ (by decide +kernel)) ggX9_isAbove_X9_has
theorem dX9_isAbove_0 : decode cX9_isAbove 0 = .ok (.aload_n 0, 1) := by decide +kernel
theorem dX9_isAbove_1 : decode cX9_isAbove 1 = .ok (.getfield 28, 3) := by decide +kernel
theorem dX9_isAbove_4 : decode cX9_isAbove 4 = .ok (.iload_n 1, 1) := by decide +kernel
theorem dX9_isAbove_5 : decode cX9_isAbove 5 = .ok (.iaload, 1) := by decide +kernel
theorem dX9_isAbove_6 : decode cX9_isAbove 6 = .ok (.iload_n 2, 1) := by decide +kernel
theorem dX9_isAbove_7 : decode cX9_isAbove 7 = .ok (.invokestatic 122, 3) := by decide +kernel
theorem dX9_isAbove_10 : decode cX9_isAbove 10 = .ok (.ifCond .ne 16, 3) := by decide +kernel
theorem dX9_isAbove_13 : decode cX9_isAbove 13 = .ok (.aload_n 0, 1) := by decide +kernel
theorem dX9_isAbove_14 : decode cX9_isAbove 14 = .ok (.getfield 28, 3) := by decide +kernel
theorem dX9_isAbove_17 : decode cX9_isAbove 17 = .ok (.iload_n 2, 1) := by decide +kernel
theorem dX9_isAbove_18 : decode cX9_isAbove 18 = .ok (.iaload, 1) := by decide +kernel
theorem dX9_isAbove_19 : decode cX9_isAbove 19 = .ok (.iload_n 1, 1) := by decide +kernel
theorem dX9_isAbove_20 : decode cX9_isAbove 20 = .ok (.invokestatic 122, 3) := by decide +kernel
theorem dX9_isAbove_23 : decode cX9_isAbove 23 = .ok (.ifCond .eq 14, 3) := by decide +kernel
theorem dX9_isAbove_26 : decode cX9_isAbove 26 = .ok (.aload_n 0, 1) := by decide +kernel
theorem dX9_isAbove_27 : decode cX9_isAbove 27 = .ok (.getfield 28, 3) := by decide +kernel
theorem dX9_isAbove_30 : decode cX9_isAbove 30 = .ok (.iload_n 1, 1) := by decide +kernel
theorem dX9_isAbove_31 : decode cX9_isAbove 31 = .ok (.iaload, 1) := by decide +kernel
theorem dX9_isAbove_32 : decode cX9_isAbove 32 = .ok (.iload_n 2, 1) := by decide +kernel
theorem dX9_isAbove_33 : decode cX9_isAbove 33 = .ok (.invokestatic 122, 3) := by decide +kernel
theorem dX9_isAbove_36 : decode cX9_isAbove 36 = .ok (.ireturn, 1) := by decide +kernel
theorem dX9_isAbove_37 : decode cX9_isAbove 37 = .ok (.aload_n 0, 1) := by decide +kernel
theorem dX9_isAbove_38 : decode cX9_isAbove 38 = .ok (.getfield 22, 3) := by decide +kernel
theorem dX9_isAbove_41 : decode cX9_isAbove 41 = .ok (.iload_n 1, 1) := by decide +kernel
theorem dX9_isAbove_42 : decode cX9_isAbove 42 = .ok (.iaload, 1) := by decide +kernel
theorem dX9_isAbove_43 : decode cX9_isAbove 43 = .ok (.aload_n 0, 1) := by decide +kernel
theorem dX9_isAbove_44 : decode cX9_isAbove 44 = .ok (.getfield 22, 3) := by decide +kernel
theorem dX9_isAbove_47 : decode cX9_isAbove 47 = .ok (.iload_n 2, 1) := by decide +kernel
theorem dX9_isAbove_48 : decode cX9_isAbove 48 = .ok (.iaload, 1) := by decide +kernel
theorem dX9_isAbove_49 : decode cX9_isAbove 49 = .ok (.if_icmp .le 7, 3) := by decide +kernel
theorem dX9_isAbove_52 : decode cX9_isAbove 52 = .ok (.iconst 1, 1) := by decide +kernel
