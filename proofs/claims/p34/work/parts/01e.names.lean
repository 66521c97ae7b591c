theorem dX8_tag_0 : decode cX8_tag 0 = .ok (.iload_n 1, 1) := by decide +kernel
theorem dX8_tag_1 : decode cX8_tag 1 = .ok (.invokestatic 86, 3) := by decide +kernel
theorem dX8_tag_4 : decode cX8_tag 4 = .ok (.ifCond .eq 10, 3) := by decide +kernel
theorem dX8_tag_7 : decode cX8_tag 7 = .ok (.iload_n 2, 1) := by decide +kernel
theorem dX8_tag_8 : decode cX8_tag 8 = .ok (.invokestatic 215, 3) := by decide +kernel
theorem dX8_tag_11 : decode cX8_tag 11 = .ok (.ifCond .ne 5, 3) := by decide +kernel
theorem dX8_tag_14 : decode cX8_tag 14 = .ok (.iconst (-1), 1) := by decide +kernel
theorem dX8_tag_15 : decode cX8_tag 15 = .ok (.ireturn, 1) := by decide +kernel
theorem dX8_tag_16 : decode cX8_tag 16 = .ok (.aload_n 0, 1) := by decide +kernel
theorem dX8_tag_17 : decode cX8_tag 17 = .ok (.invokevirtual 176, 3) := by decide +kernel
theorem dX8_tag_20 : decode cX8_tag 20 = .ok (.iload_n 2, 1) := by decide +kernel
theorem dX8_tag_21 : decode cX8_tag 21 = .ok (.iload_n 1, 1) := by decide +kernel
theorem dX8_tag_22 : decode cX8_tag 22 = .ok (.invokevirtual 218, 3) := by decide +kernel
theorem dX8_tag_25 : decode cX8_tag 25 = .ok (.ireturn, 1) := by decide +kernel
set_option maxRecDepth 20000 in
theorem ggX8_tagged_X8_isTag : GoodIn wsX8_tagged wsX8_isTag := goodIn_r _ [6] (by decide +kernel) (by decide +kernel)
set_option maxRecDepth 20000 in
theorem gX8_tagged_X8_isTag : GoodIn wsX8_tagged (va_wsS RX8 215 yX8_isTag wsX8_isTag) := goodIn_app (goodIn_of _ (by decide +kernel)) ggX8_tagged_X8_isTag
set_option maxRecDepth 20000 in
theorem ggX8_tagged_X8_settled : GoodIn wsX8_tagged wsX8_settled := goodIn_r _ [10, 11, 12, 13, 14, 15, 16, 17, 18, 19, 20, 21, 22, 23, 24, 25, 26, 27, 28, 29, 30, 31, 32, 33, 34, 35, 36, 37, 38, 39, 40, 41, 42, 43, 44, 45, 46, 47, 48, 49, 50, 51, 52, 53, 54, 55, 5, 56, 57, 58, 59, 60, 61, 62, 63, 64, 65, 66, 67, 68, 69, 70, 71, 72, 73, 74, 75, 76, 77, 78, 79, 80, 81, 82, 83, 84, 85, 86, 87, 88, 89, 90, 91, 92, 93, 94, 95, 96, 97, 98, 99, 100, 101, 102, 103, 104, 105, 106, 107, 108, 109, 110, 111, 112, 113, 114, 115, 116, 117, 118, 119, 120, 121, 122, 123, 147, 148, 149, 150, 151, 152, 153, 154, 155, 156, 157, 158, 132, 133, 134, 135, 136, 137, 138, 139, 140, 141, 142, 143, 144, 145, 146, 159, 160, 161, 162, 163, 164, 165, 166, 167] (by decide +kernel) (by decide +kernel)
set_option maxRecDepth 20000 in
theorem gX8_tagged_X8_settled : GoodIn wsX8_tagged (wsV RX8 176 RX8 yX8_settled wsX8_settled) := goodIn_app (goodIn_of _ (by decide +kernel)) ggX8_tagged_X8_settled
set_option maxRecDepth 20000 in
theorem ggX8_tagged_X4_broughtBy : GoodIn wsX8_tagged wsX4_broughtBy := goodIn_r _ [127, 128, 129, 130, 17, 131, 19, 132, 133, 134] (by decide +kernel) (by decide +kernel)
set_option maxRecDepth 20000 in
theorem gX8_tagged_X4_broughtBy : GoodIn wsX8_tagged (wsV RX8 224 RX4 yX4_broughtBy wsX4_broughtBy) := goodIn_app (goodIn_of _ (by decide +kernel)) ggX8_tagged_X4_broughtBy
theorem dX8_tagged_0 : decode cX8_tagged 0 = .ok (.iload_n 1, 1) := by decide +kernel
theorem dX8_tagged_1 : decode cX8_tagged 1 = .ok (.invokestatic 215, 3) := by decide +kernel
theorem dX8_tagged_4 : decode cX8_tagged 4 = .ok (.ifCond .eq 7, 3) := by decide +kernel
theorem dX8_tagged_7 : decode cX8_tagged 7 = .ok (.iload_n 2, 1) := by decide +kernel
theorem dX8_tagged_8 : decode cX8_tagged 8 = .ok (.ifCond .ge 5, 3) := by decide +kernel
theorem dX8_tagged_11 : decode cX8_tagged 11 = .ok (.iconst (-1), 1) := by decide +kernel
theorem dX8_tagged_12 : decode cX8_tagged 12 = .ok (.ireturn, 1) := by decide +kernel
theorem dX8_tagged_13 : decode cX8_tagged 13 = .ok (.iload_n 2, 1) := by decide +kernel
theorem dX8_tagged_14 : decode cX8_tagged 14 = .ok (.ifCond .ne 16, 3) := by decide +kernel
theorem dX8_tagged_17 : decode cX8_tagged 17 = .ok (.aload_n 0, 1) := by decide +kernel
theorem dX8_tagged_18 : decode cX8_tagged 18 = .ok (.invokevirtual 176, 3) := by decide +kernel
theorem dX8_tagged_21 : decode cX8_tagged 21 = .ok (.getfield 180, 3) := by decide +kernel
theorem dX8_tagged_24 : decode cX8_tagged 24 = .ok (.getfield 221, 3) := by decide +kernel
theorem dX8_tagged_27 : decode cX8_tagged 27 = .ok (.iload_n 1, 1) := by decide +kernel
theorem dX8_tagged_28 : decode cX8_tagged 28 = .ok (.iaload, 1) := by decide +kernel
theorem dX8_tagged_29 : decode cX8_tagged 29 = .ok (.ireturn, 1) := by decide +kernel
theorem dX8_tagged_30 : decode cX8_tagged 30 = .ok (.aload_n 0, 1) := by decide +kernel
theorem dX8_tagged_31 : decode cX8_tagged 31 = .ok (.invokevirtual 176, 3) := by decide +kernel
theorem dX8_tagged_34 : decode cX8_tagged 34 = .ok (.iload_n 1, 1) := by decide +kernel
theorem dX8_tagged_35 : decode cX8_tagged 35 = .ok (.iload_n 2, 1) := by decide +kernel
theorem dX8_tagged_36 : decode cX8_tagged 36 = .ok (.invokevirtual 224, 3) := by decide +kernel
theorem dX8_tagged_39 : decode cX8_tagged 39 = .ok (.ireturn, 1) := by decide +kernel
set_option maxRecDepth 20000 in
theorem ggX8_state_X0_hasRule : GoodIn wsX8_state wsX0_hasRule := goodIn_r _ [9, 10, 156, 157, 158, 159, 160, 161, 162, 163, 164] (by decide +kernel) (by decide +kernel)
set_option maxRecDepth 20000 in
theorem gX8_state_X0_hasRule : GoodIn wsX8_state (wsV RX8 117 RX0 yX0_hasRule wsX0_hasRule) := goodIn_app (goodIn_of _ (by decide +kernel)) ggX8_state_X0_hasRule
set_option maxRecDepth 20000 in
theorem ggX8_state_X8_settled : GoodIn wsX8_state wsX8_settled := goodIn_r _ [15, 16, 17, 1, 18, 19, 20, 21, 22, 23, 24, 25, 26, 27, 28, 29, 30, 31, 32, 33, 34, 35, 36, 37, 38, 39, 40, 41, 42, 43, 44, 45, 46, 47, 48, 49, 8, 50, 51, 10, 52, 53, 54, 55, 56, 57, 14, 58, 59, 60, 61, 62, 63, 64, 65, 66, 67, 68, 69, 70, 71, 72, 73, 74, 75, 76, 77, 78, 79, 80, 81, 82, 83, 84, 85, 86, 87, 88, 89, 90, 91, 92, 93, 94, 95, 96, 97, 98, 99, 100, 101, 102, 103, 104, 105, 106, 107, 108, 109, 110, 111, 112, 113, 114, 115, 116, 117, 118, 119, 120, 121, 122, 123, 124, 125, 129, 130, 131, 132, 133, 134, 135, 136, 137, 138, 139, 140, 141, 142, 143, 144, 145, 146, 147, 148, 149, 150, 151, 152, 153, 154, 155, 156, 157, 158, 159, 160, 161, 162, 163, 164] (by decide +kernel) (by decide +kernel)
set_option maxRecDepth 20000 in
theorem gX8_state_X8_settled : GoodIn wsX8_state (wsV RX8 176 RX8 yX8_settled wsX8_settled) := goodIn_app (goodIn_of _ (by decide +kernel)) ggX8_state_X8_settled
set_option maxRecDepth 20000 in
theorem ggX8_state_X8_bit : GoodIn wsX8_state wsX8_bit := goodIn_r _ [128] (by decide +kernel) (by decide +kernel)
set_option maxRecDepth 20000 in
theorem gX8_state_X8_bit : GoodIn wsX8_state (va_wsS RX8 96 yX8_bit wsX8_bit) := goodIn_app (goodIn_of _ (by decide +kernel)) ggX8_state_X8_bit
theorem dX8_state_0 : decode cX8_state 0 = .ok (.aload_n 0, 1) := by decide +kernel
theorem dX8_state_1 : decode cX8_state 1 = .ok (.getfield 14, 3) := by decide +kernel
theorem dX8_state_4 : decode cX8_state 4 = .ok (.iload_n 1, 1) := by decide +kernel
theorem dX8_state_5 : decode cX8_state 5 = .ok (.invokevirtual 117, 3) := by decide +kernel
theorem dX8_state_8 : decode cX8_state 8 = .ok (.ifCond .ne 5, 3) := by decide +kernel
theorem dX8_state_11 : decode cX8_state 11 = .ok (.iconst (-1), 1) := by decide +kernel
theorem dX8_state_12 : decode cX8_state 12 = .ok (.ireturn, 1) := by decide +kernel
theorem dX8_state_13 : decode cX8_state 13 = .ok (.aload_n 0, 1) := by decide +kernel
theorem dX8_state_14 : decode cX8_state 14 = .ok (.invokevirtual 176, 3) := by decide +kernel
theorem dX8_state_17 : decode cX8_state 17 = .ok (.getfield 180, 3) := by decide +kernel
theorem dX8_state_20 : decode cX8_state 20 = .ok (.astore_n 2, 1) := by decide +kernel
theorem dX8_state_21 : decode cX8_state 21 = .ok (.aload_n 2, 1) := by decide +kernel
theorem dX8_state_22 : decode cX8_state 22 = .ok (.getfield 227, 3) := by decide +kernel
theorem dX8_state_25 : decode cX8_state 25 = .ok (.iload_n 1, 1) := by decide +kernel
theorem dX8_state_26 : decode cX8_state 26 = .ok (.invokestatic 96, 3) := by decide +kernel
theorem dX8_state_29 : decode cX8_state 29 = .ok (.iconst 2, 1) := by decide +kernel
theorem dX8_state_30 : decode cX8_state 30 = .ok (.aload_n 2, 1) := by decide +kernel
theorem dX8_state_31 : decode cX8_state 31 = .ok (.getfield 230, 3) := by decide +kernel
theorem dX8_state_34 : decode cX8_state 34 = .ok (.iload_n 1, 1) := by decide +kernel
theorem dX8_state_35 : decode cX8_state 35 = .ok (.invokestatic 96, 3) := by decide +kernel
theorem dX8_state_38 : decode cX8_state 38 = .ok (.imul, 1) := by decide +kernel
theorem dX8_state_39 : decode cX8_state 39 = .ok (.iadd, 1) := by decide +kernel
theorem dX8_state_40 : decode cX8_state 40 = .ok (.ireturn, 1) := by decide +kernel
set_option maxRecDepth 20000 in
theorem ggX8_sides_X8_isLiteral : GoodIn wsX8_sides wsX8_isLiteral := goodIn_r _ [5] (by decide +kernel) (by decide +kernel)
set_option maxRecDepth 20000 in
theorem gX8_sides_X8_isLiteral : GoodIn wsX8_sides (va_wsS RX8 86 yX8_isLiteral wsX8_isLiteral) := goodIn_app (goodIn_of _ (by decide +kernel)) ggX8_sides_X8_isLiteral
set_option maxRecDepth 20000 in
theorem ggX8_sides_X8_isYesOrNo : GoodIn wsX8_sides wsX8_isYesOrNo := goodIn_r _ [8] (by decide +kernel) (by decide +kernel)
set_option maxRecDepth 20000 in
theorem gX8_sides_X8_isYesOrNo : GoodIn wsX8_sides (va_wsS RX8 90 yX8_isYesOrNo wsX8_isYesOrNo) := goodIn_app (goodIn_of _ (by decide +kernel)) ggX8_sides_X8_isYesOrNo
set_option maxRecDepth 20000 in
theorem ggX8_sides_X8_settled : GoodIn wsX8_sides wsX8_settled := goodIn_r _ [12, 13, 14, 15, 16, 17, 18, 19, 20, 21, 22, 23, 24, 25, 26, 27, 28, 29, 30, 31, 32, 33, 34, 35, 36, 37, 38, 39, 40, 41, 42, 43, 44, 45, 46, 47, 48, 49, 50, 51, 52, 53, 54, 55, 56, 57, 4, 58, 59, 60, 61, 62, 63, 64, 65, 66, 67, 68, 69, 70, 71, 72, 73, 74, 75, 76, 77, 78, 79, 80, 81, 82, 83, 84, 85, 86, 87, 88, 89, 90, 91, 92, 93, 94, 95, 96, 97, 98, 99, 100, 101, 102, 103, 104, 105, 106, 107, 108, 109, 110, 111, 112, 113, 114, 115, 116, 117, 118, 119, 120, 121, 122, 123, 124, 125, 131, 132, 133, 134, 135, 136, 137, 138, 139, 140, 141, 142, 128, 129, 130, 143, 144, 145, 146, 147, 148, 149, 150, 151, 152, 153, 154, 155, 156, 157, 158, 159, 160, 161, 162, 163] (by decide +kernel) (by decide +kernel)
set_option maxRecDepth 20000 in
theorem gX8_sides_X8_settled : GoodIn wsX8_sides (wsV RX8 176 RX8 yX8_settled wsX8_settled) := goodIn_app (goodIn_of _ (by decide +kernel)) ggX8_sides_X8_settled
set_option maxRecDepth 20000 in
theorem ggX8_sides_X6_threats : GoodIn wsX8_sides wsX6_threats := goodIn_r _ [103, 36, 68, 98, 4, 99, 94, 95, 96, 31, 97, 35, 67, 104, 105, 106, 107, 37, 143, 144, 145, 146, 147, 148, 149, 150, 151, 152, 153, 154] (by decide +kernel) (by decide +kernel)
set_option maxRecDepth 20000 in
theorem gX8_sides_X6_threats : GoodIn wsX8_sides (wsV RX8 233 RX6 yX6_threats wsX6_threats) := goodIn_app (goodIn_of _ (by decide +kernel)) ggX8_sides_X6_threats
set_option maxRecDepth 20000 in
theorem ggX8_sides_X6_team : GoodIn wsX8_sides wsX6_team := goodIn_r _ [97, 35, 67, 143, 144, 145, 146, 147, 148, 149, 150, 151, 152, 153, 154] (by decide +kernel) (by decide +kernel)
set_option maxRecDepth 20000 in
theorem gX8_sides_X6_team : GoodIn wsX8_sides (wsV RX8 236 RX6 yX6_team wsX6_team) := goodIn_app (goodIn_of _ (by decide +kernel)) ggX8_sides_X6_team
theorem dX8_sides_0 : decode cX8_sides 0 = .ok (.iload_n 1, 1) := by decide +kernel
theorem dX8_sides_1 : decode cX8_sides 1 = .ok (.invokestatic 86, 3) := by decide +kernel
theorem dX8_sides_4 : decode cX8_sides 4 = .ok (.ifCond .eq 10, 3) := by decide +kernel
theorem dX8_sides_7 : decode cX8_sides 7 = .ok (.iload_n 2, 1) := by decide +kernel
theorem dX8_sides_8 : decode cX8_sides 8 = .ok (.invokestatic 90, 3) := by decide +kernel
theorem dX8_sides_11 : decode cX8_sides 11 = .ok (.ifCond .ne 5, 3) := by decide +kernel
theorem dX8_sides_14 : decode cX8_sides 14 = .ok (.iconst (-1), 1) := by decide +kernel
theorem dX8_sides_15 : decode cX8_sides 15 = .ok (.ireturn, 1) := by decide +kernel
theorem dX8_sides_16 : decode cX8_sides 16 = .ok (.aload_n 0, 1) := by decide +kernel
theorem dX8_sides_17 : decode cX8_sides 17 = .ok (.invokevirtual 176, 3) := by decide +kernel
theorem dX8_sides_20 : decode cX8_sides 20 = .ok (.getfield 180, 3) := by decide +kernel
theorem dX8_sides_23 : decode cX8_sides 23 = .ok (.astore_n 3, 1) := by decide +kernel
theorem dX8_sides_24 : decode cX8_sides 24 = .ok (.iload_n 2, 1) := by decide +kernel
theorem dX8_sides_25 : decode cX8_sides 25 = .ok (.ifCond .ne 11, 3) := by decide +kernel
theorem dX8_sides_28 : decode cX8_sides 28 = .ok (.aload_n 3, 1) := by decide +kernel
theorem dX8_sides_29 : decode cX8_sides 29 = .ok (.iload_n 1, 1) := by decide +kernel
theorem dX8_sides_30 : decode cX8_sides 30 = .ok (.invokevirtual 233, 3) := by decide +kernel
theorem dX8_sides_33 : decode cX8_sides 33 = .ok (.goto 8, 3) := by decide +kernel
theorem dX8_sides_36 : decode cX8_sides 36 = .ok (.aload_n 3, 1) := by decide +kernel
theorem dX8_sides_37 : decode cX8_sides 37 = .ok (.iload_n 1, 1) := by decide +kernel
theorem dX8_sides_38 : decode cX8_sides 38 = .ok (.invokevirtual 236, 3) := by decide +kernel
theorem dX8_sides_41 : decode cX8_sides 41 = .ok (.ireturn, 1) := by decide +kernel
set_option maxRecDepth 20000 in
theorem ggX8_changed_X1_keep : GoodIn wsX8_changed wsX1_keep := goodIn_r _ [8, 9, 10, 11, 12, 13, 14, 7, 15, 16, 17, 18, 19, 20, 21, 22, 23, 24, 25, 26, 27, 28, 29, 30, 31, 32, 33, 46, 47, 48, 49, 50, 51, 52, 53, 54, 55, 56, 57] (by decide +kernel) (by decide +kernel)
set_option maxRecDepth 20000 in
theorem gX8_changed_X1_keep : GoodIn wsX8_changed (wsV RX8 308 RX1 yX1_keep wsX1_keep) := goodIn_app (goodIn_of _ (by decide +kernel)) ggX8_changed_X1_keep
theorem dX8_changed_0 : decode cX8_changed 0 = .ok (.aload_n 0, 1) := by decide +kernel
theorem dX8_changed_1 : decode cX8_changed 1 = .ok (.getfield 41, 3) := by decide +kernel
theorem dX8_changed_4 : decode cX8_changed 4 = .ok (.aload_n 0, 1) := by decide +kernel
theorem dX8_changed_5 : decode cX8_changed 5 = .ok (.getfield 14, 3) := by decide +kernel
theorem dX8_changed_8 : decode cX8_changed 8 = .ok (.invokevirtual 308, 3) := by decide +kernel
theorem dX8_changed_11 : decode cX8_changed 11 = .ok (.aload_n 0, 1) := by decide +kernel
theorem dX8_changed_12 : decode cX8_changed 12 = .ok (.iconst 0, 1) := by decide +kernel
theorem dX8_changed_13 : decode cX8_changed 13 = .ok (.putfield 73, 3) := by decide +kernel
theorem dX8_changed_16 : decode cX8_changed 16 = .ok (.return_, 1) := by decide +kernel
set_option maxRecDepth 20000 in
theorem ggX8_settled_X4_come : GoodIn wsX8_settled wsX4_come := goodIn_r _ [8, 9, 10, 11, 12, 13, 14, 15, 16, 17, 18, 19, 20, 21, 22, 23, 24, 25, 26, 27, 28, 29, 30, 31, 32, 33, 34, 35, 36, 37, 38, 39, 40, 41, 42, 43, 44, 45, 46, 47, 48, 49, 50, 51, 52, 53, 54, 55, 56, 57, 58, 59, 60, 61, 62, 63, 64, 65, 66, 67, 68, 69, 70, 71, 72, 73, 74, 75, 76, 77, 78, 79, 80, 81, 82, 83, 84, 85, 86, 87, 88, 89, 90, 91, 92, 93, 94, 95, 96, 97, 98, 99, 100, 101, 102, 103, 104, 105, 106, 107, 108, 109, 110, 111, 7, 112, 113, 114, 127, 128, 129, 130, 131, 132, 133, 134, 135, 136, 137, 138, 139, 140, 141, 142, 143, 144, 145, 146, 147, 148, 149, 150] (by decide +kernel) (by decide +kernel)
set_option maxRecDepth 20000 in
theorem gX8_settled_X4_come : GoodIn wsX8_settled (wsV RX8 260 RX4 yX4_come wsX4_come) := goodIn_app (goodIn_of _ (by decide +kernel)) ggX8_settled_X4_come
theorem dX8_settled_0 : decode cX8_settled 0 = .ok (.aload_n 0, 1) := by decide +kernel
theorem dX8_settled_1 : decode cX8_settled 1 = .ok (.getfield 73, 3) := by decide +kernel
theorem dX8_settled_4 : decode cX8_settled 4 = .ok (.ifCond .ne 19, 3) := by decide +kernel
theorem dX8_settled_7 : decode cX8_settled 7 = .ok (.aload_n 0, 1) := by decide +kernel
theorem dX8_settled_8 : decode cX8_settled 8 = .ok (.getfield 21, 3) := by decide +kernel
theorem dX8_settled_11 : decode cX8_settled 11 = .ok (.aload_n 0, 1) := by decide +kernel
theorem dX8_settled_12 : decode cX8_settled 12 = .ok (.getfield 14, 3) := by decide +kernel
theorem dX8_settled_15 : decode cX8_settled 15 = .ok (.invokevirtual 260, 3) := by decide +kernel
theorem dX8_settled_18 : decode cX8_settled 18 = .ok (.aload_n 0, 1) := by decide +kernel
theorem dX8_settled_19 : decode cX8_settled 19 = .ok (.iconst 1, 1) := by decide +kernel
theorem dX8_settled_20 : decode cX8_settled 20 = .ok (.putfield 73, 3) := by decide +kernel
theorem dX8_settled_23 : decode cX8_settled 23 = .ok (.aload_n 0, 1) := by decide +kernel
theorem dX8_settled_24 : decode cX8_settled 24 = .ok (.getfield 21, 3) := by decide +kernel
theorem dX8_settled_27 : decode cX8_settled 27 = .ok (.areturn, 1) := by decide +kernel
theorem dX8_isLiteral_0 : decode cX8_isLiteral 0 = .ok (.iload_n 0, 1) := by decide +kernel
theorem dX8_isLiteral_1 : decode cX8_isLiteral 1 = .ok (.ifCond .lt 13, 3) := by decide +kernel
theorem dX8_isLiteral_4 : decode cX8_isLiteral 4 = .ok (.iload_n 0, 1) := by decide +kernel
theorem dX8_isLiteral_5 : decode cX8_isLiteral 5 = .ok (.bipush 20, 2) := by decide +kernel
theorem dX8_isLiteral_7 : decode cX8_isLiteral 7 = .ok (.if_icmp .ge 7, 3) := by decide +kernel
theorem dX8_isLiteral_10 : decode cX8_isLiteral 10 = .ok (.iconst 1, 1) := by decide +kernel
theorem dX8_isLiteral_11 : decode cX8_isLiteral 11 = .ok (.goto 4, 3) := by decide +kernel
theorem dX8_isLiteral_14 : decode cX8_isLiteral 14 = .ok (.iconst 0, 1) := by decide +kernel
theorem dX8_isLiteral_15 : decode cX8_isLiteral 15 = .ok (.ireturn, 1) := by decide +kernel
theorem dX8_areLiterals_0 : decode cX8_areLiterals 0 = .ok (.iload_n 0, 1) := by decide +kernel
theorem dX8_areLiterals_1 : decode cX8_areLiterals 1 = .ok (.ifCond .lt 14, 3) := by decide +kernel
theorem dX8_areLiterals_4 : decode cX8_areLiterals 4 = .ok (.iload_n 0, 1) := by decide +kernel
theorem dX8_areLiterals_5 : decode cX8_areLiterals 5 = .ok (.ldc_w 313, 3) := by decide +kernel
theorem dX8_areLiterals_8 : decode cX8_areLiterals 8 = .ok (.if_icmp .gt 7, 3) := by decide +kernel
theorem dX8_areLiterals_11 : decode cX8_areLiterals 11 = .ok (.iconst 1, 1) := by decide +kernel
theorem dX8_areLiterals_12 : decode cX8_areLiterals 12 = .ok (.goto 4, 3) := by decide +kernel
theorem dX8_areLiterals_15 : decode cX8_areLiterals 15 = .ok (.iconst 0, 1) := by decide +kernel
theorem dX8_areLiterals_16 : decode cX8_areLiterals 16 = .ok (.ireturn, 1) := by decide +kernel
theorem dX8_isTag_0 : decode cX8_isTag 0 = .ok (.iload_n 0, 1) := by decide +kernel
theorem dX8_isTag_1 : decode cX8_isTag 1 = .ok (.ifCond .lt 12, 3) := by decide +kernel
theorem dX8_isTag_4 : decode cX8_isTag 4 = .ok (.iload_n 0, 1) := by decide +kernel
theorem dX8_isTag_5 : decode cX8_isTag 5 = .ok (.iconst 4, 1) := by decide +kernel
theorem dX8_isTag_6 : decode cX8_isTag 6 = .ok (.if_icmp .ge 7, 3) := by decide +kernel
theorem dX8_isTag_9 : decode cX8_isTag 9 = .ok (.iconst 1, 1) := by decide +kernel
theorem dX8_isTag_10 : decode cX8_isTag 10 = .ok (.goto 4, 3) := by decide +kernel
theorem dX8_isTag_13 : decode cX8_isTag 13 = .ok (.iconst 0, 1) := by decide +kernel
theorem dX8_isTag_14 : decode cX8_isTag 14 = .ok (.ireturn, 1) := by decide +kernel
theorem dX8_isStrength_0 : decode cX8_isStrength 0 = .ok (.iload_n 0, 1) := by decide +kernel
theorem dX8_isStrength_1 : decode cX8_isStrength 1 = .ok (.ifCond .lt 13, 3) := by decide +kernel
theorem dX8_isStrength_4 : decode cX8_isStrength 4 = .ok (.iload_n 0, 1) := by decide +kernel
theorem dX8_isStrength_5 : decode cX8_isStrength 5 = .ok (.bipush 9, 2) := by decide +kernel
theorem dX8_isStrength_7 : decode cX8_isStrength 7 = .ok (.if_icmp .gt 7, 3) := by decide +kernel
theorem dX8_isStrength_10 : decode cX8_isStrength 10 = .ok (.iconst 1, 1) := by decide +kernel
theorem dX8_isStrength_11 : decode cX8_isStrength 11 = .ok (.goto 4, 3) := by decide +kernel
theorem dX8_isStrength_14 : decode cX8_isStrength 14 = .ok (.iconst 0, 1) := by decide +kernel
theorem dX8_isStrength_15 : decode cX8_isStrength 15 = .ok (.ireturn, 1) := by decide +kernel
theorem dX8_isYesOrNo_0 : decode cX8_isYesOrNo 0 = .ok (.iload_n 0, 1) := by decide +kernel
theorem dX8_isYesOrNo_1 : decode cX8_isYesOrNo 1 = .ok (.ifCond .eq 8, 3) := by decide +kernel
theorem dX8_isYesOrNo_4 : decode cX8_isYesOrNo 4 = .ok (.iload_n 0, 1) := by decide +kernel
theorem dX8_isYesOrNo_5 : decode cX8_isYesOrNo 5 = .ok (.iconst 1, 1) := by decide +kernel
theorem dX8_isYesOrNo_6 : decode cX8_isYesOrNo 6 = .ok (.if_icmp .ne 7, 3) := by decide +kernel
theorem dX8_isYesOrNo_9 : decode cX8_isYesOrNo 9 = .ok (.iconst 1, 1) := by decide +kernel
theorem dX8_isYesOrNo_10 : decode cX8_isYesOrNo 10 = .ok (.goto 4, 3) := by decide +kernel
theorem dX8_isYesOrNo_13 : decode cX8_isYesOrNo 13 = .ok (.iconst 0, 1) := by decide +kernel
theorem dX8_isYesOrNo_14 : decode cX8_isYesOrNo 14 = .ok (.ireturn, 1) := by decide +kernel
theorem dX8_otherOf_0 : decode cX8_otherOf 0 = .ok (.iload_n 0, 1) := by decide +kernel
theorem dX8_otherOf_1 : decode cX8_otherOf 1 = .ok (.bipush 10, 2) := by decide +kernel
theorem dX8_otherOf_3 : decode cX8_otherOf 3 = .ok (.if_icmp .ge 10, 3) := by decide +kernel
theorem dX8_otherOf_6 : decode cX8_otherOf 6 = .ok (.iload_n 0, 1) := by decide +kernel
theorem dX8_otherOf_7 : decode cX8_otherOf 7 = .ok (.bipush 10, 2) := by decide +kernel
theorem dX8_otherOf_9 : decode cX8_otherOf 9 = .ok (.iadd, 1) := by decide +kernel
theorem dX8_otherOf_10 : decode cX8_otherOf 10 = .ok (.goto 7, 3) := by decide +kernel
theorem dX8_otherOf_13 : decode cX8_otherOf 13 = .ok (.iload_n 0, 1) := by decide +kernel
theorem dX8_otherOf_14 : decode cX8_otherOf 14 = .ok (.bipush 10, 2) := by decide +kernel
theorem dX8_otherOf_16 : decode cX8_otherOf 16 = .ok (.isub, 1) := by decide +kernel
theorem dX8_otherOf_17 : decode cX8_otherOf 17 = .ok (.ireturn, 1) := by decide +kernel
theorem dX8_has_0 : decode cX8_has 0 = .ok (.iload_n 0, 1) := by decide +kernel
theorem dX8_has_1 : decode cX8_has 1 = .ok (.iload_n 1, 1) := by decide +kernel
theorem dX8_has_2 : decode cX8_has 2 = .ok (.ishr, 1) := by decide +kernel
theorem dX8_has_3 : decode cX8_has 3 = .ok (.iconst 1, 1) := by decide +kernel
theorem dX8_has_4 : decode cX8_has 4 = .ok (.iand, 1) := by decide +kernel
theorem dX8_has_5 : decode cX8_has 5 = .ok (.iconst 1, 1) := by decide +kernel
theorem dX8_has_6 : decode cX8_has 6 = .ok (.if_icmp .ne 7, 3) := by decide +kernel
theorem dX8_has_9 : decode cX8_has 9 = .ok (.iconst 1, 1) := by decide +kernel
theorem dX8_has_10 : decode cX8_has 10 = .ok (.goto 4, 3) := by decide +kernel
theorem dX8_has_13 : decode cX8_has 13 = .ok (.iconst 0, 1) := by decide +kernel
theorem dX8_has_14 : decode cX8_has 14 = .ok (.ireturn, 1) := by decide +kernel
theorem dX8_bit_0 : decode cX8_bit 0 = .ok (.iload_n 0, 1) := by decide +kernel
theorem dX8_bit_1 : decode cX8_bit 1 = .ok (.iload_n 1, 1) := by decide +kernel
theorem dX8_bit_2 : decode cX8_bit 2 = .ok (.ishr, 1) := by decide +kernel
theorem dX8_bit_3 : decode cX8_bit 3 = .ok (.iconst 1, 1) := by decide +kernel
theorem dX8_bit_4 : decode cX8_bit 4 = .ok (.iand, 1) := by decide +kernel
theorem dX8_bit_5 : decode cX8_bit 5 = .ok (.ireturn, 1) := by decide +kernel
theorem dX8_withBit_0 : decode cX8_withBit 0 = .ok (.iload_n 2, 1) := by decide +kernel
theorem dX8_withBit_1 : decode cX8_withBit 1 = .ok (.iconst 1, 1) := by decide +kernel
theorem dX8_withBit_2 : decode cX8_withBit 2 = .ok (.if_icmp .ne 11, 3) := by decide +kernel
theorem dX8_withBit_5 : decode cX8_withBit 5 = .ok (.iload_n 0, 1) := by decide +kernel
theorem dX8_withBit_6 : decode cX8_withBit 6 = .ok (.iconst 1, 1) := by decide +kernel
theorem dX8_withBit_7 : decode cX8_withBit 7 = .ok (.iload_n 1, 1) := by decide +kernel
theorem dX8_withBit_8 : decode cX8_withBit 8 = .ok (.ishl, 1) := by decide +kernel
theorem dX8_withBit_9 : decode cX8_withBit 9 = .ok (.ior, 1) := by decide +kernel
theorem dX8_withBit_10 : decode cX8_withBit 10 = .ok (.goto 10, 3) := by decide +kernel
theorem dX8_withBit_13 : decode cX8_withBit 13 = .ok (.iload_n 0, 1) := by decide +kernel
theorem dX8_withBit_14 : decode cX8_withBit 14 = .ok (.iconst 1, 1) := by decide +kernel
theorem dX8_withBit_15 : decode cX8_withBit 15 = .ok (.iload_n 1, 1) := by decide +kernel
theorem dX8_withBit_16 : decode cX8_withBit 16 = .ok (.ishl, 1) := by decide +kernel
theorem dX8_withBit_17 : decode cX8_withBit 17 = .ok (.iconst (-1), 1) := by decide +kernel
theorem dX8_withBit_18 : decode cX8_withBit 18 = .ok (.ixor, 1) := by decide +kernel
theorem dX8_withBit_19 : decode cX8_withBit 19 = .ok (.iand, 1) := by decide +kernel
theorem dX8_withBit_20 : decode cX8_withBit 20 = .ok (.ireturn, 1) := by decide +kernel
theorem dJ6_bitCount_0f7a4_0 : decode cJ6_bitCount_0f7a4 0 = .ok (.iload_n 0, 1) := by decide +kernel
theorem dJ6_bitCount_0f7a4_1 : decode cJ6_bitCount_0f7a4 1 = .ok (.iload_n 0, 1) := by decide +kernel
theorem dJ6_bitCount_0f7a4_2 : decode cJ6_bitCount_0f7a4 2 = .ok (.iconst 1, 1) := by decide +kernel
theorem dJ6_bitCount_0f7a4_3 : decode cJ6_bitCount_0f7a4 3 = .ok (.iushr, 1) := by decide +kernel
theorem dJ6_bitCount_0f7a4_4 : decode cJ6_bitCount_0f7a4 4 = .ok (.ldc_w 265, 3) := by decide +kernel
theorem dJ6_bitCount_0f7a4_7 : decode cJ6_bitCount_0f7a4 7 = .ok (.iand, 1) := by decide +kernel
theorem dJ6_bitCount_0f7a4_8 : decode cJ6_bitCount_0f7a4 8 = .ok (.isub, 1) := by decide +kernel
theorem dJ6_bitCount_0f7a4_9 : decode cJ6_bitCount_0f7a4 9 = .ok (.istore_n 0, 1) := by decide +kernel
theorem dJ6_bitCount_0f7a4_10 : decode cJ6_bitCount_0f7a4 10 = .ok (.iload_n 0, 1) := by decide +kernel
theorem dJ6_bitCount_0f7a4_11 : decode cJ6_bitCount_0f7a4 11 = .ok (.ldc_w 266, 3) := by decide +kernel
theorem dJ6_bitCount_0f7a4_14 : decode cJ6_bitCount_0f7a4 14 = .ok (.iand, 1) := by decide +kernel
theorem dJ6_bitCount_0f7a4_15 : decode cJ6_bitCount_0f7a4 15 = .ok (.iload_n 0, 1) := by decide +kernel
theorem dJ6_bitCount_0f7a4_16 : decode cJ6_bitCount_0f7a4 16 = .ok (.iconst 2, 1) := by decide +kernel
theorem dJ6_bitCount_0f7a4_17 : decode cJ6_bitCount_0f7a4 17 = .ok (.iushr, 1) := by decide +kernel
theorem dJ6_bitCount_0f7a4_18 : decode cJ6_bitCount_0f7a4 18 = .ok (.ldc_w 266, 3) := by decide +kernel
theorem dJ6_bitCount_0f7a4_21 : decode cJ6_bitCount_0f7a4 21 = .ok (.iand, 1) := by decide +kernel
theorem dJ6_bitCount_0f7a4_22 : decode cJ6_bitCount_0f7a4 22 = .ok (.iadd, 1) := by decide +kernel
theorem dJ6_bitCount_0f7a4_23 : decode cJ6_bitCount_0f7a4 23 = .ok (.istore_n 0, 1) := by decide +kernel
theorem dJ6_bitCount_0f7a4_24 : decode cJ6_bitCount_0f7a4 24 = .ok (.iload_n 0, 1) := by decide +kernel
theorem dJ6_bitCount_0f7a4_25 : decode cJ6_bitCount_0f7a4 25 = .ok (.iload_n 0, 1) := by decide +kernel
theorem dJ6_bitCount_0f7a4_26 : decode cJ6_bitCount_0f7a4 26 = .ok (.iconst 4, 1) := by decide +kernel
theorem dJ6_bitCount_0f7a4_27 : decode cJ6_bitCount_0f7a4 27 = .ok (.iushr, 1) := by decide +kernel
theorem dJ6_bitCount_0f7a4_28 : decode cJ6_bitCount_0f7a4 28 = .ok (.iadd, 1) := by decide +kernel
theorem dJ6_bitCount_0f7a4_29 : decode cJ6_bitCount_0f7a4 29 = .ok (.ldc_w 267, 3) := by decide +kernel
theorem dJ6_bitCount_0f7a4_32 : decode cJ6_bitCount_0f7a4 32 = .ok (.iand, 1) := by decide +kernel
theorem dJ6_bitCount_0f7a4_33 : decode cJ6_bitCount_0f7a4 33 = .ok (.istore_n 0, 1) := by decide +kernel
theorem dJ6_bitCount_0f7a4_34 : decode cJ6_bitCount_0f7a4 34 = .ok (.iload_n 0, 1) := by decide +kernel
theorem dJ6_bitCount_0f7a4_35 : decode cJ6_bitCount_0f7a4 35 = .ok (.iload_n 0, 1) := by decide +kernel
theorem dJ6_bitCount_0f7a4_36 : decode cJ6_bitCount_0f7a4 36 = .ok (.bipush 8, 2) := by decide +kernel
theorem dJ6_bitCount_0f7a4_38 : decode cJ6_bitCount_0f7a4 38 = .ok (.iushr, 1) := by decide +kernel
theorem dJ6_bitCount_0f7a4_39 : decode cJ6_bitCount_0f7a4 39 = .ok (.iadd, 1) := by decide +kernel
theorem dJ6_bitCount_0f7a4_40 : decode cJ6_bitCount_0f7a4 40 = .ok (.istore_n 0, 1) := by decide +kernel
theorem dJ6_bitCount_0f7a4_41 : decode cJ6_bitCount_0f7a4 41 = .ok (.iload_n 0, 1) := by decide +kernel
theorem dJ6_bitCount_0f7a4_42 : decode cJ6_bitCount_0f7a4 42 = .ok (.iload_n 0, 1) := by decide +kernel
theorem dJ6_bitCount_0f7a4_43 : decode cJ6_bitCount_0f7a4 43 = .ok (.bipush 16, 2) := by decide +kernel
theorem dJ6_bitCount_0f7a4_45 : decode cJ6_bitCount_0f7a4 45 = .ok (.iushr, 1) := by decide +kernel
theorem dJ6_bitCount_0f7a4_46 : decode cJ6_bitCount_0f7a4 46 = .ok (.iadd, 1) := by decide +kernel
theorem dJ6_bitCount_0f7a4_47 : decode cJ6_bitCount_0f7a4 47 = .ok (.istore_n 0, 1) := by decide +kernel
theorem dJ6_bitCount_0f7a4_48 : decode cJ6_bitCount_0f7a4 48 = .ok (.iload_n 0, 1) := by decide +kernel
theorem dJ6_bitCount_0f7a4_49 : decode cJ6_bitCount_0f7a4 49 = .ok (.bipush 63, 2) := by decide +kernel
theorem dJ6_bitCount_0f7a4_51 : decode cJ6_bitCount_0f7a4 51 = .ok (.iand, 1) := by decide +kernel
theorem dJ6_bitCount_0f7a4_52 : decode cJ6_bitCount_0f7a4 52 = .ok (.ireturn, 1) := by decide +kernel
theorem dJ7_fill_53178_0 : decode cJ7_fill_53178 0 = .ok (.iconst 0, 1) := by decide +kernel
theorem dJ7_fill_53178_1 : decode cJ7_fill_53178 1 = .ok (.istore_n 2, 1) := by decide +kernel
theorem dJ7_fill_53178_2 : decode cJ7_fill_53178 2 = .ok (.aload_n 0, 1) := by decide +kernel
theorem dJ7_fill_53178_3 : decode cJ7_fill_53178 3 = .ok (.arraylength, 1) := by decide +kernel
theorem dJ7_fill_53178_4 : decode cJ7_fill_53178 4 = .ok (.istore_n 3, 1) := by decide +kernel
theorem dJ7_fill_53178_5 : decode cJ7_fill_53178 5 = .ok (.iload_n 2, 1) := by decide +kernel
theorem dJ7_fill_53178_6 : decode cJ7_fill_53178 6 = .ok (.iload_n 3, 1) := by decide +kernel
theorem dJ7_fill_53178_7 : decode cJ7_fill_53178 7 = .ok (.if_icmp .ge 13, 3) := by decide +kernel
theorem dJ7_fill_53178_10 : decode cJ7_fill_53178 10 = .ok (.aload_n 0, 1) := by decide +kernel
theorem dJ7_fill_53178_11 : decode cJ7_fill_53178 11 = .ok (.iload_n 2, 1) := by decide +kernel
theorem dJ7_fill_53178_12 : decode cJ7_fill_53178 12 = .ok (.iload_n 1, 1) := by decide +kernel
theorem dJ7_fill_53178_13 : decode cJ7_fill_53178 13 = .ok (.iastore, 1) := by decide +kernel
theorem dJ7_fill_53178_14 : decode cJ7_fill_53178 14 = .ok (.iinc 2 1, 3) := by decide +kernel
theorem dJ7_fill_53178_17 : decode cJ7_fill_53178 17 = .ok (.goto (-12), 3) := by decide +kernel
theorem dJ7_fill_53178_20 : decode cJ7_fill_53178 20 = .ok (.return_, 1) := by decide +kernel
theorem dL_cell_0 : decode cL_cell 0 = .ok (.iload_n 1, 1) := by decide +kernel
theorem dL_cell_1 : decode cL_cell 1 = .ok (.aload_n 0, 1) := by decide +kernel
theorem dL_cell_2 : decode cL_cell 2 = .ok (.arraylength, 1) := by decide +kernel
theorem dL_cell_3 : decode cL_cell 3 = .ok (.if_icmp .ge 9, 3) := by decide +kernel
theorem dL_cell_6 : decode cL_cell 6 = .ok (.aload_n 0, 1) := by decide +kernel
theorem dL_cell_7 : decode cL_cell 7 = .ok (.iload_n 1, 1) := by decide +kernel
theorem dL_cell_8 : decode cL_cell 8 = .ok (.iaload, 1) := by decide +kernel
theorem dL_cell_9 : decode cL_cell 9 = .ok (.goto 7, 3) := by decide +kernel
theorem dL_cell_12 : decode cL_cell 12 = .ok (.ldc 7, 2) := by decide +kernel
theorem dL_cell_14 : decode cL_cell 14 = .ok (.iload_n 1, 1) := by decide +kernel
theorem dL_cell_15 : decode cL_cell 15 = .ok (.imul, 1) := by decide +kernel
theorem dL_cell_16 : decode cL_cell 16 = .ok (.ireturn, 1) := by decide +kernel
theorem dL_has_0 : decode cL_has 0 = .ok (.iload_n 0, 1) := by decide +kernel
theorem dL_has_1 : decode cL_has 1 = .ok (.iload_n 1, 1) := by decide +kernel
theorem dL_has_2 : decode cL_has 2 = .ok (.ishr, 1) := by decide +kernel
theorem dL_has_3 : decode cL_has 3 = .ok (.iconst 1, 1) := by decide +kernel
theorem dL_has_4 : decode cL_has 4 = .ok (.iand, 1) := by decide +kernel
theorem dL_has_5 : decode cL_has 5 = .ok (.iconst 1, 1) := by decide +kernel
theorem dL_has_6 : decode cL_has 6 = .ok (.if_icmp .ne 7, 3) := by decide +kernel
theorem dL_has_9 : decode cL_has 9 = .ok (.iconst 1, 1) := by decide +kernel
theorem dL_has_10 : decode cL_has 10 = .ok (.goto 4, 3) := by decide +kernel
theorem dL_has_13 : decode cL_has 13 = .ok (.iconst 0, 1) := by decide +kernel
theorem dL_has_14 : decode cL_has 14 = .ok (.ireturn, 1) := by decide +kernel
theorem dL_some_0 : decode cL_some 0 = .ok (.iconst 0, 1) := by decide +kernel
theorem dL_some_1 : decode cL_some 1 = .ok (.istore_n 2, 1) := by decide +kernel
theorem dL_some_2 : decode cL_some 2 = .ok (.iconst 0, 1) := by decide +kernel
theorem dL_some_3 : decode cL_some 3 = .ok (.istore_n 3, 1) := by decide +kernel
theorem dL_some_4 : decode cL_some 4 = .ok (.iload_n 3, 1) := by decide +kernel
theorem dL_some_5 : decode cL_some 5 = .ok (.iload_n 1, 1) := by decide +kernel
theorem dL_some_6 : decode cL_some 6 = .ok (.if_icmp .ge 46, 3) := by decide +kernel
theorem dL_some_9 : decode cL_some 9 = .ok (.iload_n 2, 1) := by decide +kernel
theorem dL_some_10 : decode cL_some 10 = .ok (.iconst 1, 1) := by decide +kernel
theorem dL_some_11 : decode cL_some 11 = .ok (.iload_n 0, 1) := by decide +kernel
theorem dL_some_12 : decode cL_some 12 = .ok (.iconst 5, 1) := by decide +kernel
theorem dL_some_13 : decode cL_some 13 = .ok (.iload_n 3, 1) := by decide +kernel
theorem dL_some_14 : decode cL_some 14 = .ok (.imul, 1) := by decide +kernel
theorem dL_some_15 : decode cL_some 15 = .ok (.iushr, 1) := by decide +kernel
theorem dL_some_16 : decode cL_some 16 = .ok (.bipush 31, 2) := by decide +kernel
theorem dL_some_18 : decode cL_some 18 = .ok (.iand, 1) := by decide +kernel
theorem dL_some_19 : decode cL_some 19 = .ok (.bipush 12, 2) := by decide +kernel
theorem dL_some_21 : decode cL_some 21 = .ok (.irem, 1) := by decide +kernel
theorem dL_some_22 : decode cL_some 22 = .ok (.iload_n 0, 1) := by decide +kernel
theorem dL_some_23 : decode cL_some 23 = .ok (.iconst 5, 1) := by decide +kernel
theorem dL_some_24 : decode cL_some 24 = .ok (.iload_n 3, 1) := by decide +kernel
theorem dL_some_25 : decode cL_some 25 = .ok (.imul, 1) := by decide +kernel
theorem dL_some_26 : decode cL_some 26 = .ok (.iushr, 1) := by decide +kernel
theorem dL_some_27 : decode cL_some 27 = .ok (.bipush 31, 2) := by decide +kernel
theorem dL_some_29 : decode cL_some 29 = .ok (.iand, 1) := by decide +kernel
theorem dL_some_30 : decode cL_some 30 = .ok (.bipush 12, 2) := by decide +kernel
theorem dL_some_32 : decode cL_some 32 = .ok (.irem, 1) := by decide +kernel
theorem dL_some_33 : decode cL_some 33 = .ok (.iconst 5, 1) := by decide +kernel
theorem dL_some_34 : decode cL_some 34 = .ok (.if_icmp .le 7, 3) := by decide +kernel
theorem dL_some_37 : decode cL_some 37 = .ok (.iconst 4, 1) := by decide +kernel
theorem dL_some_38 : decode cL_some 38 = .ok (.goto 4, 3) := by decide +kernel
theorem dL_some_41 : decode cL_some 41 = .ok (.iconst 0, 1) := by decide +kernel
theorem dL_some_42 : decode cL_some 42 = .ok (.iadd, 1) := by decide +kernel
theorem dL_some_43 : decode cL_some 43 = .ok (.ishl, 1) := by decide +kernel
theorem dL_some_44 : decode cL_some 44 = .ok (.ior, 1) := by decide +kernel
theorem dL_some_45 : decode cL_some 45 = .ok (.istore_n 2, 1) := by decide +kernel
theorem dL_some_46 : decode cL_some 46 = .ok (.iinc 3 1, 3) := by decide +kernel
theorem dL_some_49 : decode cL_some 49 = .ok (.goto (-45), 3) := by decide +kernel
theorem dL_some_52 : decode cL_some 52 = .ok (.iload_n 2, 1) := by decide +kernel
theorem dL_some_53 : decode cL_some 53 = .ok (.ireturn, 1) := by decide +kernel
set_option maxRecDepth 20000 in
theorem ggL_made_X8_init : GoodIn wsL_made wsX8_init := goodIn_r _ [6, 7, 8, 9, 10, 11, 12, 13, 14, 15, 16, 17, 18, 19, 20, 21, 22, 23, 24, 25, 26, 27, 28, 29, 30, 31, 32, 33, 34, 35, 36, 37, 38, 39, 40, 41, 42, 43, 44, 45, 46, 47, 48, 49, 50, 51, 52, 53, 54, 55, 56, 57, 58, 59, 60, 61, 62, 63, 64, 65, 66, 67, 68, 69, 70, 71, 72, 73, 74, 75, 76, 77, 78, 79, 80, 81, 82, 83, 84, 85, 86, 87, 88, 89, 90, 91, 92, 93, 94, 95, 96, 97, 98, 99, 100, 101, 102, 103, 104, 105, 106, 107, 108, 109, 110, 111, 112, 113, 114, 115, 116, 117, 118, 119, 210, 211, 212, 213, 214, 215, 216, 217, 218, 198, 199, 200, 201, 202, 203, 204, 205, 206, 207, 208, 209, 219, 220, 221, 222, 223, 224, 225, 226, 227, 228, 229, 230, 231, 232, 233, 234, 235, 236, 237, 238, 239, 240, 241, 242, 243, 244, 245, 246, 247, 248, 249, 250, 251, 252, 253, 254] (by decide +kernel) (by decide +kernel)
set_option maxRecDepth 20000 in
theorem gL_made_X8_init : GoodIn wsL_made (wsX8_init) := ggL_made_X8_init
set_option maxRecDepth 20000 in
theorem ggL_made_L_cell : GoodIn wsL_made wsL_cell := goodIn_r _ [123, 124] (by decide +kernel) (by decide +kernel)
set_option maxRecDepth 20000 in
theorem gL_made_L_cell : GoodIn wsL_made (va_wsS RL 11 yL_cell wsL_cell) := goodIn_app (goodIn_of _ (by decide +kernel)) ggL_made_L_cell
set_option maxRecDepth 20000 in
theorem ggL_made_L_some : GoodIn wsL_made wsL_some := goodIn_r _ [127] (by decide +kernel) (by decide +kernel)
set_option maxRecDepth 20000 in
theorem gL_made_L_some : GoodIn wsL_made (va_wsS RL 17 yL_some wsL_some) := goodIn_app (goodIn_of _ (by decide +kernel)) ggL_made_L_some
set_option maxRecDepth 20000 in
theorem ggL_made_X8_rule : GoodIn wsL_made wsX8_rule := goodIn_r _ [131, 13, 132, 133, 134, 3, 135, 136, 137, 138, 139, 140, 141, 142, 143, 144, 145, 12, 146, 54, 47, 48, 49, 50, 51, 52, 147, 148, 149, 150, 27, 42, 151, 152, 153, 26, 154, 94, 95, 93, 155, 156, 157, 158, 159, 160, 161, 162, 163, 164, 165, 166, 53, 55, 198, 199, 200, 201, 202, 203, 204, 205, 206, 207, 208, 209, 210, 211, 212, 213, 214, 215, 216, 217, 218, 226, 227, 228] (by decide +kernel) (by decide +kernel)
set_option maxRecDepth 20000 in
theorem gL_made_X8_rule : GoodIn wsL_made (wsV RL 21 RX8 yX8_rule wsX8_rule) := goodIn_app (goodIn_of _ (by decide +kernel)) ggL_made_X8_rule
set_option maxRecDepth 20000 in
theorem ggL_made_X8_off : GoodIn wsL_made wsX8_off := goodIn_r _ [170, 13, 171, 172, 173, 174, 12, 175, 54, 176, 177, 3, 178, 179, 180, 181, 182, 183, 184, 147, 148, 149, 150, 27, 42, 151, 152, 153, 26, 154, 94, 95, 93, 155, 156, 157, 158, 159, 160, 161, 162, 47, 163, 164, 165, 166, 48, 49, 50, 51, 52, 53, 55, 198, 199, 200, 201, 202, 203, 204, 205, 206, 207, 208, 209, 210, 211, 212, 213, 214, 215, 216, 217, 218, 226, 227, 228] (by decide +kernel) (by decide +kernel)
set_option maxRecDepth 20000 in
theorem gL_made_X8_off : GoodIn wsL_made (wsV RL 25 RX8 yX8_off wsX8_off) := goodIn_app (goodIn_of _ (by decide +kernel)) ggL_made_X8_off
set_option maxRecDepth 20000 in
theorem ggL_made_X8_over : GoodIn wsL_made wsX8_over := goodIn_r _ [188, 13, 189, 172, 173, 174, 12, 175, 54, 176, 177, 3, 178, 190, 191, 192, 179, 180, 181, 182, 183, 184, 147, 148, 149, 150, 27, 42, 151, 152, 153, 26, 154, 94, 95, 93, 155, 156, 157, 158, 159, 160, 161, 162, 47, 163, 164, 165, 166, 48, 49, 50, 51, 52, 53, 55, 198, 199, 200, 201, 202, 203, 204, 205, 206, 207, 208, 209, 210, 211, 212, 213, 214, 215, 216, 217, 218, 226, 227, 228] (by decide +kernel) (by decide +kernel)
set_option maxRecDepth 20000 in
theorem gL_made_X8_over : GoodIn wsL_made (wsV RL 28 RX8 yX8_over wsX8_over) := goodIn_app (goodIn_of _ (by decide +kernel)) ggL_made_X8_over
set_option maxRecDepth 20000 in
theorem ggL_made_X8_fact : GoodIn wsL_made wsX8_fact := goodIn_r _ [196, 13, 197, 133, 134, 3, 135, 176, 177, 178, 179, 180, 181, 182, 183, 184, 147, 148, 149, 150, 27, 42, 151, 152, 153, 26, 154, 94, 95, 93, 155, 156, 157, 158, 159, 160, 161, 12, 162, 47, 163, 164, 165, 166, 48, 49, 50, 51, 52, 53, 54, 55, 198, 199, 200, 201, 202, 203, 204, 205, 206, 207, 208, 209, 210, 211, 212, 213, 214, 215, 216, 217, 218, 226, 227, 228] (by decide +kernel) (by decide +kernel)
set_option maxRecDepth 20000 in
theorem gL_made_X8_fact : GoodIn wsL_made (wsV RL 32 RX8 yX8_fact wsX8_fact) := goodIn_app (goodIn_of _ (by decide +kernel)) ggL_made_X8_fact
theorem dL_made_0 : decode cL_made 0 = .ok (.new 8, 3) := by decide +kernel
theorem dL_made_3 : decode cL_made 3 = .ok (.dup, 1) := by decide +kernel
theorem dL_made_4 : decode cL_made 4 = .ok (.invokespecial 10, 3) := by decide +kernel
theorem dL_made_7 : decode cL_made 7 = .ok (.astore_n 2, 1) := by decide +kernel
theorem dL_made_8 : decode cL_made 8 = .ok (.iconst 0, 1) := by decide +kernel
theorem dL_made_9 : decode cL_made 9 = .ok (.istore_n 3, 1) := by decide +kernel
theorem dL_made_10 : decode cL_made 10 = .ok (.iload_n 3, 1) := by decide +kernel
theorem dL_made_11 : decode cL_made 11 = .ok (.iload_n 1, 1) := by decide +kernel
theorem dL_made_12 : decode cL_made 12 = .ok (.if_icmp .ge 165, 3) := by decide +kernel
theorem dL_made_15 : decode cL_made 15 = .ok (.aload_n 0, 1) := by decide +kernel
theorem dL_made_16 : decode cL_made 16 = .ok (.iconst 2, 1) := by decide +kernel
theorem dL_made_17 : decode cL_made 17 = .ok (.iload_n 3, 1) := by decide +kernel
theorem dL_made_18 : decode cL_made 18 = .ok (.imul, 1) := by decide +kernel
theorem dL_made_19 : decode cL_made 19 = .ok (.invokestatic 11, 3) := by decide +kernel
theorem dL_made_22 : decode cL_made 22 = .ok (.iconst 1, 1) := by decide +kernel
theorem dL_made_23 : decode cL_made 23 = .ok (.iushr, 1) := by decide +kernel
theorem dL_made_24 : decode cL_made 24 = .ok (.istore 4, 2) := by decide +kernel
theorem dL_made_26 : decode cL_made 26 = .ok (.aload_n 0, 1) := by decide +kernel
theorem dL_made_27 : decode cL_made 27 = .ok (.iconst 2, 1) := by decide +kernel
theorem dL_made_28 : decode cL_made 28 = .ok (.iload_n 3, 1) := by decide +kernel
theorem dL_made_29 : decode cL_made 29 = .ok (.imul, 1) := by decide +kernel
theorem dL_made_30 : decode cL_made 30 = .ok (.iconst 1, 1) := by decide +kernel
theorem dL_made_31 : decode cL_made 31 = .ok (.iadd, 1) := by decide +kernel
theorem dL_made_32 : decode cL_made 32 = .ok (.invokestatic 11, 3) := by decide +kernel
theorem dL_made_35 : decode cL_made 35 = .ok (.iconst 1, 1) := by decide +kernel
theorem dL_made_36 : decode cL_made 36 = .ok (.iushr, 1) := by decide +kernel
theorem dL_made_37 : decode cL_made 37 = .ok (.istore 5, 2) := by decide +kernel
theorem dL_made_39 : decode cL_made 39 = .ok (.iload 4, 2) := by decide +kernel
theorem dL_made_41 : decode cL_made 41 = .ok (.iconst 4, 1) := by decide +kernel
theorem dL_made_42 : decode cL_made 42 = .ok (.irem, 1) := by decide +kernel
theorem dL_made_43 : decode cL_made 43 = .ok (.iconst 3, 1) := by decide +kernel
theorem dL_made_44 : decode cL_made 44 = .ok (.if_icmp .ne 7, 3) := by decide +kernel
theorem dL_made_47 : decode cL_made 47 = .ok (.iconst 1, 1) := by decide +kernel
theorem dL_made_48 : decode cL_made 48 = .ok (.goto 7, 3) := by decide +kernel
theorem dL_made_51 : decode cL_made 51 = .ok (.iload 4, 2) := by decide +kernel
theorem dL_made_53 : decode cL_made 53 = .ok (.iconst 4, 1) := by decide +kernel
theorem dL_made_54 : decode cL_made 54 = .ok (.irem, 1) := by decide +kernel
theorem dL_made_55 : decode cL_made 55 = .ok (.istore 6, 2) := by decide +kernel
theorem dL_made_57 : decode cL_made 57 = .ok (.iload 4, 2) := by decide +kernel
theorem dL_made_59 : decode cL_made 59 = .ok (.iconst 3, 1) := by decide +kernel
theorem dL_made_60 : decode cL_made 60 = .ok (.iushr, 1) := by decide +kernel
theorem dL_made_61 : decode cL_made 61 = .ok (.bipush 6, 2) := by decide +kernel
theorem dL_made_63 : decode cL_made 63 = .ok (.irem, 1) := by decide +kernel
theorem dL_made_64 : decode cL_made 64 = .ok (.iload 4, 2) := by decide +kernel
theorem dL_made_66 : decode cL_made 66 = .ok (.bipush 7, 2) := by decide +kernel
theorem dL_made_68 : decode cL_made 68 = .ok (.iushr, 1) := by decide +kernel
theorem dL_made_69 : decode cL_made 69 = .ok (.iconst 1, 1) := by decide +kernel
theorem dL_made_70 : decode cL_made 70 = .ok (.iand, 1) := by decide +kernel
theorem dL_made_71 : decode cL_made 71 = .ok (.iconst 1, 1) := by decide +kernel
theorem dL_made_72 : decode cL_made 72 = .ok (.if_icmp .ne 8, 3) := by decide +kernel
theorem dL_made_75 : decode cL_made 75 = .ok (.bipush 10, 2) := by decide +kernel
theorem dL_made_77 : decode cL_made 77 = .ok (.goto 4, 3) := by decide +kernel
theorem dL_made_80 : decode cL_made 80 = .ok (.iconst 0, 1) := by decide +kernel
theorem dL_made_81 : decode cL_made 81 = .ok (.iadd, 1) := by decide +kernel
theorem dL_made_82 : decode cL_made 82 = .ok (.istore 7, 2) := by decide +kernel
theorem dL_made_84 : decode cL_made 84 = .ok (.iload 6, 2) := by decide +kernel
theorem dL_made_86 : decode cL_made 86 = .ok (.ifCond .eq 13, 3) := by decide +kernel
theorem dL_made_89 : decode cL_made 89 = .ok (.iload 4, 2) := by decide +kernel
theorem dL_made_91 : decode cL_made 91 = .ok (.bipush 9, 2) := by decide +kernel
theorem dL_made_93 : decode cL_made 93 = .ok (.iushr, 1) := by decide +kernel
theorem dL_made_94 : decode cL_made 94 = .ok (.iconst 3, 1) := by decide +kernel
theorem dL_made_95 : decode cL_made 95 = .ok (.irem, 1) := by decide +kernel
theorem dL_made_96 : decode cL_made 96 = .ok (.ifCond .le 7, 3) := by decide +kernel
theorem dL_made_99 : decode cL_made 99 = .ok (.iconst 0, 1) := by decide +kernel
theorem dL_made_100 : decode cL_made 100 = .ok (.goto 12, 3) := by decide +kernel
theorem dL_made_103 : decode cL_made 103 = .ok (.iload 5, 2) := by decide +kernel
theorem dL_made_105 : decode cL_made 105 = .ok (.bipush 12, 2) := by decide +kernel
theorem dL_made_107 : decode cL_made 107 = .ok (.iushr, 1) := by decide +kernel
theorem dL_made_108 : decode cL_made 108 = .ok (.iconst 1, 1) := by decide +kernel
theorem dL_made_109 : decode cL_made 109 = .ok (.invokestatic 17, 3) := by decide +kernel
theorem dL_made_112 : decode cL_made 112 = .ok (.istore 8, 2) := by decide +kernel
theorem dL_made_114 : decode cL_made 114 = .ok (.aload_n 2, 1) := by decide +kernel
theorem dL_made_115 : decode cL_made 115 = .ok (.iload 6, 2) := by decide +kernel
theorem dL_made_117 : decode cL_made 117 = .ok (.iload 7, 2) := by decide +kernel
theorem dL_made_119 : decode cL_made 119 = .ok (.iload 5, 2) := by decide +kernel
theorem dL_made_121 : decode cL_made 121 = .ok (.iload 4, 2) := by decide +kernel
theorem dL_made_123 : decode cL_made 123 = .ok (.bipush 11, 2) := by decide +kernel
theorem dL_made_125 : decode cL_made 125 = .ok (.iushr, 1) := by decide +kernel
theorem dL_made_126 : decode cL_made 126 = .ok (.iconst 3, 1) := by decide +kernel
theorem dL_made_127 : decode cL_made 127 = .ok (.irem, 1) := by decide +kernel
theorem dL_made_128 : decode cL_made 128 = .ok (.invokestatic 17, 3) := by decide +kernel
theorem dL_made_131 : decode cL_made 131 = .ok (.iload 8, 2) := by decide +kernel
theorem dL_made_133 : decode cL_made 133 = .ok (.iload 4, 2) := by decide +kernel
theorem dL_made_135 : decode cL_made 135 = .ok (.bipush 14, 2) := by decide +kernel
theorem dL_made_137 : decode cL_made 137 = .ok (.iushr, 1) := by decide +kernel
theorem dL_made_138 : decode cL_made 138 = .ok (.iconst 4, 1) := by decide +kernel
theorem dL_made_139 : decode cL_made 139 = .ok (.irem, 1) := by decide +kernel
theorem dL_made_140 : decode cL_made 140 = .ok (.invokevirtual 21, 3) := by decide +kernel
theorem dL_made_143 : decode cL_made 143 = .ok (.iload_n 3, 1) := by decide +kernel
theorem dL_made_144 : decode cL_made 144 = .ok (.if_icmp .eq 5, 3) := by decide +kernel
theorem dL_made_147 : decode cL_made 147 = .ok (.aconst_null, 1) := by decide +kernel
theorem dL_made_148 : decode cL_made 148 = .ok (.areturn, 1) := by decide +kernel
theorem dL_made_149 : decode cL_made 149 = .ok (.iload 4, 2) := by decide +kernel
theorem dL_made_151 : decode cL_made 151 = .ok (.bipush 20, 2) := by decide +kernel
theorem dL_made_153 : decode cL_made 153 = .ok (.iushr, 1) := by decide +kernel
theorem dL_made_154 : decode cL_made 154 = .ok (.bipush 9, 2) := by decide +kernel
theorem dL_made_156 : decode cL_made 156 = .ok (.irem, 1) := by decide +kernel
theorem dL_made_157 : decode cL_made 157 = .ok (.ifCond .ne 14, 3) := by decide +kernel
theorem dL_made_160 : decode cL_made 160 = .ok (.aload_n 2, 1) := by decide +kernel
theorem dL_made_161 : decode cL_made 161 = .ok (.iload_n 3, 1) := by decide +kernel
theorem dL_made_162 : decode cL_made 162 = .ok (.iconst 1, 1) := by decide +kernel
theorem dL_made_163 : decode cL_made 163 = .ok (.invokevirtual 25, 3) := by decide +kernel
theorem dL_made_166 : decode cL_made 166 = .ok (.ifCond .eq 5, 3) := by decide +kernel
theorem dL_made_169 : decode cL_made 169 = .ok (.aconst_null, 1) := by decide +kernel
theorem dL_made_170 : decode cL_made 170 = .ok (.areturn, 1) := by decide +kernel
theorem dL_made_171 : decode cL_made 171 = .ok (.iinc 3 1, 3) := by decide +kernel
theorem dL_made_174 : decode cL_made 174 = .ok (.goto (-164), 3) := by decide +kernel
theorem dL_made_177 : decode cL_made 177 = .ok (.iconst 0, 1) := by decide +kernel
theorem dL_made_178 : decode cL_made 178 = .ok (.istore_n 3, 1) := by decide +kernel
theorem dL_made_179 : decode cL_made 179 = .ok (.iload_n 3, 1) := by decide +kernel
theorem dL_made_180 : decode cL_made 180 = .ok (.iconst 3, 1) := by decide +kernel
theorem dL_made_181 : decode cL_made 181 = .ok (.if_icmp .ge 98, 3) := by decide +kernel
theorem dL_made_184 : decode cL_made 184 = .ok (.iload_n 1, 1) := by decide +kernel
theorem dL_made_185 : decode cL_made 185 = .ok (.iconst 1, 1) := by decide +kernel
theorem dL_made_186 : decode cL_made 186 = .ok (.if_icmp .le 93, 3) := by decide +kernel
theorem dL_made_189 : decode cL_made 189 = .ok (.aload_n 0, 1) := by decide +kernel
theorem dL_made_190 : decode cL_made 190 = .ok (.iconst 2, 1) := by decide +kernel
theorem dL_made_191 : decode cL_made 191 = .ok (.iload_n 1, 1) := by decide +kernel
theorem dL_made_192 : decode cL_made 192 = .ok (.imul, 1) := by decide +kernel
theorem dL_made_193 : decode cL_made 193 = .ok (.iload_n 3, 1) := by decide +kernel
theorem dL_made_194 : decode cL_made 194 = .ok (.iadd, 1) := by decide +kernel
theorem dL_made_195 : decode cL_made 195 = .ok (.invokestatic 11, 3) := by decide +kernel
theorem dL_made_198 : decode cL_made 198 = .ok (.iconst 1, 1) := by decide +kernel
theorem dL_made_199 : decode cL_made 199 = .ok (.iushr, 1) := by decide +kernel
theorem dL_made_200 : decode cL_made 200 = .ok (.istore 4, 2) := by decide +kernel
theorem dL_made_202 : decode cL_made 202 = .ok (.iload 4, 2) := by decide +kernel
theorem dL_made_204 : decode cL_made 204 = .ok (.iload_n 1, 1) := by decide +kernel
theorem dL_made_205 : decode cL_made 205 = .ok (.irem, 1) := by decide +kernel
theorem dL_made_206 : decode cL_made 206 = .ok (.istore 5, 2) := by decide +kernel
theorem dL_made_208 : decode cL_made 208 = .ok (.iload 4, 2) := by decide +kernel
theorem dL_made_210 : decode cL_made 210 = .ok (.bipush 6, 2) := by decide +kernel
theorem dL_made_212 : decode cL_made 212 = .ok (.iushr, 1) := by decide +kernel
theorem dL_made_213 : decode cL_made 213 = .ok (.iload_n 1, 1) := by decide +kernel
theorem dL_made_214 : decode cL_made 214 = .ok (.irem, 1) := by decide +kernel
theorem dL_made_215 : decode cL_made 215 = .ok (.istore 6, 2) := by decide +kernel
theorem dL_made_217 : decode cL_made 217 = .ok (.iload 4, 2) := by decide +kernel
theorem dL_made_219 : decode cL_made 219 = .ok (.bipush 12, 2) := by decide +kernel
theorem dL_made_221 : decode cL_made 221 = .ok (.iushr, 1) := by decide +kernel
theorem dL_made_222 : decode cL_made 222 = .ok (.iconst 2, 1) := by decide +kernel
theorem dL_made_223 : decode cL_made 223 = .ok (.irem, 1) := by decide +kernel
theorem dL_made_224 : decode cL_made 224 = .ok (.ifCond .ne 6, 3) := by decide +kernel
theorem dL_made_227 : decode cL_made 227 = .ok (.goto 46, 3) := by decide +kernel
theorem dL_made_230 : decode cL_made 230 = .ok (.aload_n 2, 1) := by decide +kernel
theorem dL_made_231 : decode cL_made 231 = .ok (.iload 5, 2) := by decide +kernel
theorem dL_made_233 : decode cL_made 233 = .ok (.iload 6, 2) := by decide +kernel
theorem dL_made_235 : decode cL_made 235 = .ok (.iconst 1, 1) := by decide +kernel
theorem dL_made_236 : decode cL_made 236 = .ok (.invokevirtual 28, 3) := by decide +kernel
theorem dL_made_239 : decode cL_made 239 = .ok (.istore 7, 2) := by decide +kernel
theorem dL_made_241 : decode cL_made 241 = .ok (.iload 7, 2) := by decide +kernel
theorem dL_made_243 : decode cL_made 243 = .ok (.iload 5, 2) := by decide +kernel
theorem dL_made_245 : decode cL_made 245 = .ok (.iload 6, 2) := by decide +kernel
theorem dL_made_247 : decode cL_made 247 = .ok (.if_icmp .ne 7, 3) := by decide +kernel
theorem dL_made_250 : decode cL_made 250 = .ok (.iconst (-1), 1) := by decide +kernel
theorem dL_made_251 : decode cL_made 251 = .ok (.goto 4, 3) := by decide +kernel
theorem dL_made_254 : decode cL_made 254 = .ok (.iconst 0, 1) := by decide +kernel
theorem dL_made_255 : decode cL_made 255 = .ok (.if_icmp .eq 18, 3) := by decide +kernel
theorem dL_made_258 : decode cL_made 258 = .ok (.iload 7, 2) := by decide +kernel
theorem dL_made_260 : decode cL_made 260 = .ok (.iconst 1, 1) := by decide +kernel
theorem dL_made_261 : decode cL_made 261 = .ok (.if_icmp .eq 12, 3) := by decide +kernel
theorem dL_made_264 : decode cL_made 264 = .ok (.iload 7, 2) := by decide +kernel
theorem dL_made_266 : decode cL_made 266 = .ok (.bipush (-5), 2) := by decide +kernel
theorem dL_made_268 : decode cL_made 268 = .ok (.if_icmp .eq 5, 3) := by decide +kernel
theorem dL_made_271 : decode cL_made 271 = .ok (.aconst_null, 1) := by decide +kernel
theorem dL_made_272 : decode cL_made 272 = .ok (.areturn, 1) := by decide +kernel
theorem dL_made_273 : decode cL_made 273 = .ok (.iinc 3 1, 3) := by decide +kernel
theorem dL_made_276 : decode cL_made 276 = .ok (.goto (-97), 3) := by decide +kernel
theorem dL_made_279 : decode cL_made 279 = .ok (.aload_n 0, 1) := by decide +kernel
theorem dL_made_280 : decode cL_made 280 = .ok (.iconst 2, 1) := by decide +kernel
theorem dL_made_281 : decode cL_made 281 = .ok (.iload_n 1, 1) := by decide +kernel
theorem dL_made_282 : decode cL_made 282 = .ok (.imul, 1) := by decide +kernel
theorem dL_made_283 : decode cL_made 283 = .ok (.iconst 4, 1) := by decide +kernel
theorem dL_made_284 : decode cL_made 284 = .ok (.iadd, 1) := by decide +kernel
theorem dL_made_285 : decode cL_made 285 = .ok (.invokestatic 11, 3) := by decide +kernel
theorem dL_made_288 : decode cL_made 288 = .ok (.iconst 1, 1) := by decide +kernel
theorem dL_made_289 : decode cL_made 289 = .ok (.iushr, 1) := by decide +kernel
theorem dL_made_290 : decode cL_made 290 = .ok (.istore_n 3, 1) := by decide +kernel
theorem dL_made_291 : decode cL_made 291 = .ok (.iconst 0, 1) := by decide +kernel
theorem dL_made_292 : decode cL_made 292 = .ok (.istore 4, 2) := by decide +kernel
theorem dL_made_294 : decode cL_made 294 = .ok (.iload 4, 2) := by decide +kernel
theorem dL_made_296 : decode cL_made 296 = .ok (.bipush 6, 2) := by decide +kernel
theorem dL_made_298 : decode cL_made 298 = .ok (.if_icmp .ge 43, 3) := by decide +kernel
theorem dL_made_301 : decode cL_made 301 = .ok (.iload_n 3, 1) := by decide +kernel
theorem dL_made_302 : decode cL_made 302 = .ok (.iconst 2, 1) := by decide +kernel
theorem dL_made_303 : decode cL_made 303 = .ok (.iload 4, 2) := by decide +kernel
theorem dL_made_305 : decode cL_made 305 = .ok (.imul, 1) := by decide +kernel
theorem dL_made_306 : decode cL_made 306 = .ok (.iushr, 1) := by decide +kernel
theorem dL_made_307 : decode cL_made 307 = .ok (.iconst 3, 1) := by decide +kernel
theorem dL_made_308 : decode cL_made 308 = .ok (.iand, 1) := by decide +kernel
theorem dL_made_309 : decode cL_made 309 = .ok (.istore 5, 2) := by decide +kernel
theorem dL_made_311 : decode cL_made 311 = .ok (.iload 5, 2) := by decide +kernel
theorem dL_made_313 : decode cL_made 313 = .ok (.iconst 2, 1) := by decide +kernel
theorem dL_made_314 : decode cL_made 314 = .ok (.if_icmp .ge 21, 3) := by decide +kernel
theorem dL_made_317 : decode cL_made 317 = .ok (.aload_n 2, 1) := by decide +kernel
theorem dL_made_318 : decode cL_made 318 = .ok (.iload 4, 2) := by decide +kernel
theorem dL_made_320 : decode cL_made 320 = .ok (.bipush 10, 2) := by decide +kernel
theorem dL_made_322 : decode cL_made 322 = .ok (.iload 5, 2) := by decide +kernel
theorem dL_made_324 : decode cL_made 324 = .ok (.imul, 1) := by decide +kernel
theorem dL_made_325 : decode cL_made 325 = .ok (.iadd, 1) := by decide +kernel
theorem dL_made_326 : decode cL_made 326 = .ok (.iconst 1, 1) := by decide +kernel
theorem dL_made_327 : decode cL_made 327 = .ok (.invokevirtual 32, 3) := by decide +kernel
theorem dL_made_330 : decode cL_made 330 = .ok (.ifCond .eq 5, 3) := by decide +kernel
theorem dL_made_333 : decode cL_made 333 = .ok (.aconst_null, 1) := by decide +kernel
theorem dL_made_334 : decode cL_made 334 = .ok (.areturn, 1) := by decide +kernel
theorem dL_made_335 : decode cL_made 335 = .ok (.iinc 4 1, 3) := by decide +kernel
theorem dL_made_338 : decode cL_made 338 = .ok (.goto (-44), 3) := by decide +kernel
theorem dL_made_341 : decode cL_made 341 = .ok (.aload_n 2, 1) := by decide +kernel
theorem dL_made_342 : decode cL_made 342 = .ok (.areturn, 1) := by decide +kernel
set_option maxRecDepth 20000 in
theorem ggL_applies_X8_ruleOf : GoodIn wsL_applies wsX8_ruleOf := goodIn_r _ [5, 6, 7, 8, 9, 10, 11, 12, 13, 14, 15, 16, 17, 18, 19, 20, 21, 4, 22, 23, 24, 25, 26, 27, 28, 29, 30, 31, 32, 33, 34, 35, 36, 37, 38, 39, 40, 41, 42, 43, 44, 45, 46, 47, 48, 49, 50, 51, 52, 53, 54, 55] (by decide +kernel) (by decide +kernel)
set_option maxRecDepth 20000 in
theorem gL_applies_X8_ruleOf : GoodIn wsL_applies (wsV RL 35 RX8 yX8_ruleOf wsX8_ruleOf) := goodIn_app (goodIn_of _ (by decide +kernel)) ggL_applies_X8_ruleOf
theorem dL_applies_0 : decode cL_applies 0 = .ok (.aload_n 0, 1) := by decide +kernel
theorem dL_applies_1 : decode cL_applies 1 = .ok (.iload_n 1, 1) := by decide +kernel
theorem dL_applies_2 : decode cL_applies 2 = .ok (.iconst 2, 1) := by decide +kernel
theorem dL_applies_3 : decode cL_applies 3 = .ok (.invokevirtual 35, 3) := by decide +kernel
theorem dL_applies_6 : decode cL_applies 6 = .ok (.aload_n 2, 1) := by decide +kernel
theorem dL_applies_7 : decode cL_applies 7 = .ok (.iconst 2, 1) := by decide +kernel
theorem dL_applies_8 : decode cL_applies 8 = .ok (.iaload, 1) := by decide +kernel
theorem dL_applies_9 : decode cL_applies 9 = .ok (.iconst (-1), 1) := by decide +kernel
theorem dL_applies_10 : decode cL_applies 10 = .ok (.ixor, 1) := by decide +kernel
theorem dL_applies_11 : decode cL_applies 11 = .ok (.iand, 1) := by decide +kernel
theorem dL_applies_12 : decode cL_applies 12 = .ok (.ifCond .ne 22, 3) := by decide +kernel
theorem dL_applies_15 : decode cL_applies 15 = .ok (.aload_n 0, 1) := by decide +kernel
theorem dL_applies_16 : decode cL_applies 16 = .ok (.iload_n 1, 1) := by decide +kernel
theorem dL_applies_17 : decode cL_applies 17 = .ok (.iconst 3, 1) := by decide +kernel
theorem dL_applies_18 : decode cL_applies 18 = .ok (.invokevirtual 35, 3) := by decide +kernel
theorem dL_applies_21 : decode cL_applies 21 = .ok (.aload_n 2, 1) := by decide +kernel
theorem dL_applies_22 : decode cL_applies 22 = .ok (.iconst 3, 1) := by decide +kernel
theorem dL_applies_23 : decode cL_applies 23 = .ok (.iaload, 1) := by decide +kernel
theorem dL_applies_24 : decode cL_applies 24 = .ok (.iconst (-1), 1) := by decide +kernel
theorem dL_applies_25 : decode cL_applies 25 = .ok (.ixor, 1) := by decide +kernel
theorem dL_applies_26 : decode cL_applies 26 = .ok (.iand, 1) := by decide +kernel
theorem dL_applies_27 : decode cL_applies 27 = .ok (.ifCond .ne 7, 3) := by decide +kernel
theorem dL_applies_30 : decode cL_applies 30 = .ok (.iconst 1, 1) := by decide +kernel
theorem dL_applies_31 : decode cL_applies 31 = .ok (.goto 4, 3) := by decide +kernel
theorem dL_applies_34 : decode cL_applies 34 = .ok (.iconst 0, 1) := by decide +kernel
theorem dL_applies_35 : decode cL_applies 35 = .ok (.ireturn, 1) := by decide +kernel
set_option maxRecDepth 20000 in
theorem ggL_falls_X8_ruleOf : GoodIn wsL_falls wsX8_ruleOf := goodIn_r _ [5, 6, 7, 8, 9, 10, 11, 12, 13, 14, 15, 16, 17, 18, 19, 20, 21, 4, 22, 23, 24, 25, 26, 27, 28, 29, 30, 31, 32, 33, 34, 35, 36, 37, 38, 39, 40, 41, 42, 43, 44, 45, 46, 47, 48, 49, 50, 51, 52, 53, 54, 55] (by decide +kernel) (by decide +kernel)
set_option maxRecDepth 20000 in
theorem gL_falls_X8_ruleOf : GoodIn wsL_falls (wsV RL 35 RX8 yX8_ruleOf wsX8_ruleOf) := goodIn_app (goodIn_of _ (by decide +kernel)) ggL_falls_X8_ruleOf
theorem dL_falls_0 : decode cL_falls 0 = .ok (.aload_n 0, 1) := by decide +kernel
theorem dL_falls_1 : decode cL_falls 1 = .ok (.iload_n 1, 1) := by decide +kernel
theorem dL_falls_2 : decode cL_falls 2 = .ok (.iconst 2, 1) := by decide +kernel
theorem dL_falls_3 : decode cL_falls 3 = .ok (.invokevirtual 35, 3) := by decide +kernel
theorem dL_falls_6 : decode cL_falls 6 = .ok (.aload_n 2, 1) := by decide +kernel
theorem dL_falls_7 : decode cL_falls 7 = .ok (.iconst 3, 1) := by decide +kernel
theorem dL_falls_8 : decode cL_falls 8 = .ok (.iaload, 1) := by decide +kernel
theorem dL_falls_9 : decode cL_falls 9 = .ok (.iand, 1) := by decide +kernel
theorem dL_falls_10 : decode cL_falls 10 = .ok (.ifCond .ne 16, 3) := by decide +kernel
theorem dL_falls_13 : decode cL_falls 13 = .ok (.aload_n 0, 1) := by decide +kernel
theorem dL_falls_14 : decode cL_falls 14 = .ok (.iload_n 1, 1) := by decide +kernel
theorem dL_falls_15 : decode cL_falls 15 = .ok (.iconst 3, 1) := by decide +kernel
theorem dL_falls_16 : decode cL_falls 16 = .ok (.invokevirtual 35, 3) := by decide +kernel
theorem dL_falls_19 : decode cL_falls 19 = .ok (.aload_n 2, 1) := by decide +kernel
theorem dL_falls_20 : decode cL_falls 20 = .ok (.iconst 2, 1) := by decide +kernel
theorem dL_falls_21 : decode cL_falls 21 = .ok (.iaload, 1) := by decide +kernel
theorem dL_falls_22 : decode cL_falls 22 = .ok (.iand, 1) := by decide +kernel
theorem dL_falls_23 : decode cL_falls 23 = .ok (.ifCond .eq 7, 3) := by decide +kernel
theorem dL_falls_26 : decode cL_falls 26 = .ok (.iconst 1, 1) := by decide +kernel
theorem dL_falls_27 : decode cL_falls 27 = .ok (.goto 4, 3) := by decide +kernel
theorem dL_falls_30 : decode cL_falls 30 = .ok (.iconst 0, 1) := by decide +kernel
theorem dL_falls_31 : decode cL_falls 31 = .ok (.ireturn, 1) := by decide +kernel
set_option maxRecDepth 20000 in
theorem ggL_holds_X8_count : GoodIn wsL_holds wsX8_count := goodIn_r _ [5, 6, 7, 8, 9, 10, 11, 12, 13, 14, 15, 16, 17, 18, 19, 20, 4, 21, 22, 23, 24, 25, 26, 27, 28, 29, 30, 31, 32, 33, 34, 35, 36, 37, 38, 39, 40, 41, 42, 43, 44, 45, 46, 47, 48, 49, 50, 51, 52, 53, 54, 55, 56, 57, 58, 59, 60, 61, 62, 63, 64, 65, 66, 67, 68, 69, 70, 71, 72, 73, 74, 75, 76, 77, 78, 79, 80, 81, 82, 83, 84, 85, 86, 87, 88, 89, 90, 91, 92, 93, 94, 95, 96, 97, 98, 99, 100, 101, 102, 103, 104, 105, 106, 107, 108, 109, 110, 111, 112, 113, 114, 115, 116, 117, 118, 119, 120, 121, 122, 123, 124, 125, 126, 127, 128, 129, 130, 131, 132, 133, 134, 135, 136, 137, 138, 139, 140, 141, 142, 143, 144, 145, 146, 147, 148, 149, 150, 151, 152, 153, 154, 155, 156, 157, 158, 159, 160, 161, 162, 163, 164, 165, 166, 167, 205, 206, 207, 208, 209, 210, 211, 212, 213, 214, 215, 216, 217, 218, 219, 220, 221, 222, 223, 224, 225, 226, 227, 228, 229, 230, 231, 232, 233, 234, 235, 236, 237, 238, 239, 240, 241, 242, 243, 244, 245, 246, 247, 248, 249, 250, 251, 252, 253, 254, 255] (by decide +kernel) (by decide +kernel)
set_option maxRecDepth 20000 in
theorem gL_holds_X8_count : GoodIn wsL_holds (wsV RL 38 RX8 yX8_count wsX8_count) := goodIn_app (goodIn_of _ (by decide +kernel)) ggL_holds_X8_count
set_option maxRecDepth 20000 in
theorem ggL_holds_L_has : GoodIn wsL_holds wsL_has := goodIn_r _ [171] (by decide +kernel) (by decide +kernel)
set_option maxRecDepth 20000 in
theorem gL_holds_L_has : GoodIn wsL_holds (va_wsS RL 42 yL_has wsL_has) := goodIn_app (goodIn_of _ (by decide +kernel)) ggL_holds_L_has
set_option maxRecDepth 20000 in
theorem ggL_holds_X8_rulesFor : GoodIn wsL_holds wsX8_rulesFor := goodIn_r _ [175, 8, 176, 177, 178, 4, 179, 18, 19, 20, 21, 22, 23, 6, 24, 25, 26, 27, 28, 29, 30, 31, 32, 33, 34, 35, 36, 37, 38, 39, 40, 41, 42, 43, 44, 45, 46, 47, 48, 49, 50, 51, 52, 53, 54, 55, 56, 57, 58, 59, 60, 61, 62, 63, 64, 65, 66, 67, 68, 69, 70, 71, 72, 73, 74, 75, 76, 77, 78, 79, 80, 81, 82, 83, 84, 85, 86, 87, 88, 89, 90, 91, 92, 93, 94, 95, 96, 97, 98, 99, 100, 101, 102, 103, 104, 105, 106, 107, 108, 109, 110, 111, 112, 113, 114, 115, 116, 117, 118, 119, 120, 121, 122, 123, 124, 125, 126, 127, 128, 129, 130, 131, 132, 133, 226, 227, 228, 244, 245, 246, 247, 248, 249, 250, 251, 252, 253, 254, 255, 205, 206, 207, 208, 209, 210, 211, 212, 213, 214, 215, 216, 217, 218, 219, 220, 221, 222, 223, 224, 225] (by decide +kernel) (by decide +kernel)
set_option maxRecDepth 20000 in
theorem gL_holds_X8_rulesFor : GoodIn wsL_holds (wsV RL 46 RX8 yX8_rulesFor wsX8_rulesFor) := goodIn_app (goodIn_of _ (by decide +kernel)) ggL_holds_X8_rulesFor
set_option maxRecDepth 20000 in
theorem ggL_holds_X8_ruleOf : GoodIn wsL_holds wsX8_ruleOf := goodIn_r _ [183, 6, 184, 185, 186, 187, 188, 189, 190, 191, 192, 193, 56, 194, 59, 195, 196, 4, 197, 198, 54, 55, 57, 58, 60, 61, 62, 63, 64, 65, 66, 205, 206, 207, 208, 209, 210, 211, 212, 213, 214, 215, 216, 217, 218, 219, 220, 221, 222, 223, 224, 225] (by decide +kernel) (by decide +kernel)
set_option maxRecDepth 20000 in
theorem gL_holds_X8_ruleOf : GoodIn wsL_holds (wsV RL 35 RX8 yX8_ruleOf wsX8_ruleOf) := goodIn_app (goodIn_of _ (by decide +kernel)) ggL_holds_X8_ruleOf
set_option maxRecDepth 20000 in
theorem ggL_holds_L_applies : GoodIn wsL_holds wsL_applies := goodIn_r _ [201, 180, 181, 182, 4, 183, 6, 184, 185, 186, 187, 188, 189, 190, 191, 192, 193, 56, 194, 59, 195, 196, 197, 198, 54, 55, 57, 58, 60, 61, 62, 63, 64, 65, 66, 205, 206, 207, 208, 209, 210, 211, 212, 213, 214, 215, 216, 217, 218, 219, 220, 221, 222, 223, 224, 225] (by decide +kernel) (by decide +kernel)
set_option maxRecDepth 20000 in
theorem gL_holds_L_applies : GoodIn wsL_holds (va_wsS RL 49 yL_applies wsL_applies) := goodIn_app (goodIn_of _ (by decide +kernel)) ggL_holds_L_applies
set_option maxRecDepth 20000 in
theorem ggL_holds_L_falls : GoodIn wsL_holds wsL_falls := goodIn_r _ [204, 180, 181, 182, 4, 183, 6, 184, 185, 186, 187, 188, 189, 190, 191, 192, 193, 56, 194, 59, 195, 196, 197, 198, 54, 55, 57, 58, 60, 61, 62, 63, 64, 65, 66, 205, 206, 207, 208, 209, 210, 211, 212, 213, 214, 215, 216, 217, 218, 219, 220, 221, 222, 223, 224, 225] (by decide +kernel) (by decide +kernel)
set_option maxRecDepth 20000 in
theorem gL_holds_L_falls : GoodIn wsL_holds (va_wsS RL 53 yL_falls wsL_falls) := goodIn_app (goodIn_of _ (by decide +kernel)) ggL_holds_L_falls
theorem dL_holds_0 : decode cL_holds 0 = .ok (.aload_n 0, 1) := by decide +kernel
theorem dL_holds_1 : decode cL_holds 1 = .ok (.iconst 0, 1) := by decide +kernel
theorem dL_holds_2 : decode cL_holds 2 = .ok (.invokevirtual 38, 3) := by decide +kernel
theorem dL_holds_5 : decode cL_holds 5 = .ok (.iload_n 2, 1) := by decide +kernel
theorem dL_holds_6 : decode cL_holds 6 = .ok (.invokestatic 42, 3) := by decide +kernel
theorem dL_holds_9 : decode cL_holds 9 = .ok (.istore 4, 2) := by decide +kernel
theorem dL_holds_11 : decode cL_holds 11 = .ok (.iload_n 2, 1) := by decide +kernel
theorem dL_holds_12 : decode cL_holds 12 = .ok (.bipush 10, 2) := by decide +kernel
theorem dL_holds_14 : decode cL_holds 14 = .ok (.iadd, 1) := by decide +kernel
theorem dL_holds_15 : decode cL_holds 15 = .ok (.bipush 20, 2) := by decide +kernel
theorem dL_holds_17 : decode cL_holds 17 = .ok (.irem, 1) := by decide +kernel
theorem dL_holds_18 : decode cL_holds 18 = .ok (.istore 5, 2) := by decide +kernel
theorem dL_holds_20 : decode cL_holds 20 = .ok (.aload_n 0, 1) := by decide +kernel
theorem dL_holds_21 : decode cL_holds 21 = .ok (.iload_n 2, 1) := by decide +kernel
theorem dL_holds_22 : decode cL_holds 22 = .ok (.invokevirtual 46, 3) := by decide +kernel
theorem dL_holds_25 : decode cL_holds 25 = .ok (.istore 6, 2) := by decide +kernel
theorem dL_holds_27 : decode cL_holds 27 = .ok (.aload_n 0, 1) := by decide +kernel
theorem dL_holds_28 : decode cL_holds 28 = .ok (.iload 5, 2) := by decide +kernel
theorem dL_holds_30 : decode cL_holds 30 = .ok (.invokevirtual 46, 3) := by decide +kernel
theorem dL_holds_33 : decode cL_holds 33 = .ok (.istore 7, 2) := by decide +kernel
theorem dL_holds_35 : decode cL_holds 35 = .ok (.iload 4, 2) := by decide +kernel
theorem dL_holds_37 : decode cL_holds 37 = .ok (.istore 8, 2) := by decide +kernel
theorem dL_holds_39 : decode cL_holds 39 = .ok (.iload 4, 2) := by decide +kernel
theorem dL_holds_41 : decode cL_holds 41 = .ok (.ifCond .ne 7, 3) := by decide +kernel
theorem dL_holds_44 : decode cL_holds 44 = .ok (.iconst 1, 1) := by decide +kernel
theorem dL_holds_45 : decode cL_holds 45 = .ok (.goto 4, 3) := by decide +kernel
theorem dL_holds_48 : decode cL_holds 48 = .ok (.iconst 0, 1) := by decide +kernel
theorem dL_holds_49 : decode cL_holds 49 = .ok (.istore 9, 2) := by decide +kernel
theorem dL_holds_51 : decode cL_holds 51 = .ok (.iconst 0, 1) := by decide +kernel
theorem dL_holds_52 : decode cL_holds 52 = .ok (.istore 10, 2) := by decide +kernel
theorem dL_holds_54 : decode cL_holds 54 = .ok (.iconst 1, 1) := by decide +kernel
theorem dL_holds_55 : decode cL_holds 55 = .ok (.istore 11, 2) := by decide +kernel
theorem dL_holds_57 : decode cL_holds 57 = .ok (.iconst 0, 1) := by decide +kernel
theorem dL_holds_58 : decode cL_holds 58 = .ok (.istore 12, 2) := by decide +kernel
theorem dL_holds_60 : decode cL_holds 60 = .ok (.iload 12, 2) := by decide +kernel
theorem dL_holds_62 : decode cL_holds 62 = .ok (.aload_n 0, 1) := by decide +kernel
theorem dL_holds_63 : decode cL_holds 63 = .ok (.iconst 4, 1) := by decide +kernel
theorem dL_holds_64 : decode cL_holds 64 = .ok (.invokevirtual 38, 3) := by decide +kernel
theorem dL_holds_67 : decode cL_holds 67 = .ok (.if_icmp .ge 120, 3) := by decide +kernel
theorem dL_holds_70 : decode cL_holds 70 = .ok (.iload 6, 2) := by decide +kernel
theorem dL_holds_72 : decode cL_holds 72 = .ok (.iload 12, 2) := by decide +kernel
theorem dL_holds_74 : decode cL_holds 74 = .ok (.invokestatic 42, 3) := by decide +kernel
theorem dL_holds_77 : decode cL_holds 77 = .ok (.ifCond .ne 6, 3) := by decide +kernel
theorem dL_holds_80 : decode cL_holds 80 = .ok (.goto 101, 3) := by decide +kernel
theorem dL_holds_83 : decode cL_holds 83 = .ok (.aload_n 0, 1) := by decide +kernel
theorem dL_holds_84 : decode cL_holds 84 = .ok (.iload 12, 2) := by decide +kernel
theorem dL_holds_86 : decode cL_holds 86 = .ok (.iconst 0, 1) := by decide +kernel
theorem dL_holds_87 : decode cL_holds 87 = .ok (.invokevirtual 35, 3) := by decide +kernel
theorem dL_holds_90 : decode cL_holds 90 = .ok (.ifCond .ne 53, 3) := by decide +kernel
theorem dL_holds_93 : decode cL_holds 93 = .ok (.iload 8, 2) := by decide +kernel
theorem dL_holds_95 : decode cL_holds 95 = .ok (.aload_n 0, 1) := by decide +kernel
theorem dL_holds_96 : decode cL_holds 96 = .ok (.iload 12, 2) := by decide +kernel
theorem dL_holds_98 : decode cL_holds 98 = .ok (.iconst 2, 1) := by decide +kernel
theorem dL_holds_99 : decode cL_holds 99 = .ok (.invokevirtual 35, 3) := by decide +kernel
theorem dL_holds_102 : decode cL_holds 102 = .ok (.aload_n 3, 1) := by decide +kernel
theorem dL_holds_103 : decode cL_holds 103 = .ok (.iconst 0, 1) := by decide +kernel
theorem dL_holds_104 : decode cL_holds 104 = .ok (.iaload, 1) := by decide +kernel
theorem dL_holds_105 : decode cL_holds 105 = .ok (.iconst (-1), 1) := by decide +kernel
theorem dL_holds_106 : decode cL_holds 106 = .ok (.ixor, 1) := by decide +kernel
theorem dL_holds_107 : decode cL_holds 107 = .ok (.iand, 1) := by decide +kernel
theorem dL_holds_108 : decode cL_holds 108 = .ok (.ifCond .ne 7, 3) := by decide +kernel
theorem dL_holds_111 : decode cL_holds 111 = .ok (.iconst 1, 1) := by decide +kernel
theorem dL_holds_112 : decode cL_holds 112 = .ok (.goto 4, 3) := by decide +kernel
theorem dL_holds_115 : decode cL_holds 115 = .ok (.iconst 0, 1) := by decide +kernel
theorem dL_holds_116 : decode cL_holds 116 = .ok (.ior, 1) := by decide +kernel
theorem dL_holds_117 : decode cL_holds 117 = .ok (.istore 8, 2) := by decide +kernel
theorem dL_holds_119 : decode cL_holds 119 = .ok (.iload 9, 2) := by decide +kernel
theorem dL_holds_121 : decode cL_holds 121 = .ok (.aload_n 0, 1) := by decide +kernel
theorem dL_holds_122 : decode cL_holds 122 = .ok (.iload 12, 2) := by decide +kernel
theorem dL_holds_124 : decode cL_holds 124 = .ok (.iconst 2, 1) := by decide +kernel
theorem dL_holds_125 : decode cL_holds 125 = .ok (.invokevirtual 35, 3) := by decide +kernel
theorem dL_holds_128 : decode cL_holds 128 = .ok (.aload_n 3, 1) := by decide +kernel
theorem dL_holds_129 : decode cL_holds 129 = .ok (.iconst 1, 1) := by decide +kernel
theorem dL_holds_130 : decode cL_holds 130 = .ok (.iaload, 1) := by decide +kernel
theorem dL_holds_131 : decode cL_holds 131 = .ok (.iand, 1) := by decide +kernel
theorem dL_holds_132 : decode cL_holds 132 = .ok (.ifCond .eq 7, 3) := by decide +kernel
theorem dL_holds_135 : decode cL_holds 135 = .ok (.iconst 1, 1) := by decide +kernel
theorem dL_holds_136 : decode cL_holds 136 = .ok (.goto 4, 3) := by decide +kernel
theorem dL_holds_139 : decode cL_holds 139 = .ok (.iconst 0, 1) := by decide +kernel
theorem dL_holds_140 : decode cL_holds 140 = .ok (.iand, 1) := by decide +kernel
theorem dL_holds_141 : decode cL_holds 141 = .ok (.istore 9, 2) := by decide +kernel
theorem dL_holds_143 : decode cL_holds 143 = .ok (.aload_n 0, 1) := by decide +kernel
theorem dL_holds_144 : decode cL_holds 144 = .ok (.iload 12, 2) := by decide +kernel
theorem dL_holds_146 : decode cL_holds 146 = .ok (.iconst 0, 1) := by decide +kernel
theorem dL_holds_147 : decode cL_holds 147 = .ok (.invokevirtual 35, 3) := by decide +kernel
theorem dL_holds_150 : decode cL_holds 150 = .ok (.iconst 2, 1) := by decide +kernel
theorem dL_holds_151 : decode cL_holds 151 = .ok (.if_icmp .ne 6, 3) := by decide +kernel
theorem dL_holds_154 : decode cL_holds 154 = .ok (.goto 27, 3) := by decide +kernel
theorem dL_holds_157 : decode cL_holds 157 = .ok (.iload 10, 2) := by decide +kernel
theorem dL_holds_159 : decode cL_holds 159 = .ok (.aload_n 0, 1) := by decide +kernel
theorem dL_holds_160 : decode cL_holds 160 = .ok (.iload 12, 2) := by decide +kernel
theorem dL_holds_162 : decode cL_holds 162 = .ok (.aload_n 3, 1) := by decide +kernel
theorem dL_holds_163 : decode cL_holds 163 = .ok (.invokestatic 49, 3) := by decide +kernel
theorem dL_holds_166 : decode cL_holds 166 = .ok (.ior, 1) := by decide +kernel
theorem dL_holds_167 : decode cL_holds 167 = .ok (.istore 10, 2) := by decide +kernel
theorem dL_holds_169 : decode cL_holds 169 = .ok (.iload 11, 2) := by decide +kernel
theorem dL_holds_171 : decode cL_holds 171 = .ok (.aload_n 0, 1) := by decide +kernel
theorem dL_holds_172 : decode cL_holds 172 = .ok (.iload 12, 2) := by decide +kernel
theorem dL_holds_174 : decode cL_holds 174 = .ok (.aload_n 3, 1) := by decide +kernel
theorem dL_holds_175 : decode cL_holds 175 = .ok (.invokestatic 53, 3) := by decide +kernel
theorem dL_holds_178 : decode cL_holds 178 = .ok (.iand, 1) := by decide +kernel
theorem dL_holds_179 : decode cL_holds 179 = .ok (.istore 11, 2) := by decide +kernel
