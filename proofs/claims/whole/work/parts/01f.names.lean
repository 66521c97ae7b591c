theorem dX9_least_29 : decode cX9_least 29 = .ok (.istore 5, 2) := by decide +kernel
theorem dX9_least_31 : decode cX9_least 31 = .ok (.iload 5, 2) := by decide +kernel
theorem dX9_least_33 : decode cX9_least 33 = .ok (.bipush 10, 2) := by decide +kernel
theorem dX9_least_35 : decode cX9_least 35 = .ok (.if_icmp .ge 42, 3) := by decide +kernel
theorem dX9_least_38 : decode cX9_least 38 = .ok (.iload 4, 2) := by decide +kernel
theorem dX9_least_40 : decode cX9_least 40 = .ok (.bipush (-2), 2) := by decide +kernel
theorem dX9_least_42 : decode cX9_least 42 = .ok (.if_icmp .ne 35, 3) := by decide +kernel
theorem dX9_least_45 : decode cX9_least 45 = .ok (.aload_n 0, 1) := by decide +kernel
theorem dX9_least_46 : decode cX9_least 46 = .ok (.getfield 22, 3) := by decide +kernel
theorem dX9_least_49 : decode cX9_least 49 = .ok (.iload_n 1, 1) := by decide +kernel
theorem dX9_least_50 : decode cX9_least 50 = .ok (.iload 5, 2) := by decide +kernel
theorem dX9_least_52 : decode cX9_least 52 = .ok (.iastore, 1) := by decide +kernel
theorem dX9_least_53 : decode cX9_least 53 = .ok (.aload_n 0, 1) := by decide +kernel
theorem dX9_least_54 : decode cX9_least 54 = .ok (.iload_n 2, 1) := by decide +kernel
theorem dX9_least_55 : decode cX9_least 55 = .ok (.iconst 2, 1) := by decide +kernel
theorem dX9_least_56 : decode cX9_least 56 = .ok (.invokevirtual 273, 3) := by decide +kernel
theorem dX9_least_59 : decode cX9_least 59 = .ok (.ifCond .eq 8, 3) := by decide +kernel
theorem dX9_least_62 : decode cX9_least 62 = .ok (.iload 5, 2) := by decide +kernel
theorem dX9_least_64 : decode cX9_least 64 = .ok (.goto 5, 3) := by decide +kernel
theorem dX9_least_67 : decode cX9_least 67 = .ok (.bipush (-2), 2) := by decide +kernel
theorem dX9_least_69 : decode cX9_least 69 = .ok (.istore 4, 2) := by decide +kernel
theorem dX9_least_71 : decode cX9_least 71 = .ok (.iinc 5 1, 3) := by decide +kernel
theorem dX9_least_74 : decode cX9_least 74 = .ok (.goto (-43), 3) := by decide +kernel
theorem dX9_least_77 : decode cX9_least 77 = .ok (.aload_n 0, 1) := by decide +kernel
theorem dX9_least_78 : decode cX9_least 78 = .ok (.getfield 22, 3) := by decide +kernel
theorem dX9_least_81 : decode cX9_least 81 = .ok (.iload_n 1, 1) := by decide +kernel
theorem dX9_least_82 : decode cX9_least 82 = .ok (.iload_n 3, 1) := by decide +kernel
theorem dX9_least_83 : decode cX9_least 83 = .ok (.iastore, 1) := by decide +kernel
theorem dX9_least_84 : decode cX9_least 84 = .ok (.iload 4, 2) := by decide +kernel
theorem dX9_least_86 : decode cX9_least 86 = .ok (.ireturn, 1) := by decide +kernel
set_option maxRecDepth 20000 in
theorem ggX9_lots_X9_isLiteral : GoodIn wsX9_lots wsX9_isLiteral := goodIn_r _ [8, 9, 10, 7, 11] (by decide +kernel) (by decide +kernel)
set_option maxRecDepth 20000 in
theorem gX9_lots_X9_isLiteral : GoodIn wsX9_lots (va_wsS RX9 104 yX9_isLiteral wsX9_isLiteral) := goodIn_app (goodIn_of _ (by decide +kernel)) ggX9_lots_X9_isLiteral
set_option maxRecDepth 20000 in
theorem ggX9_lots_X9_isTag : GoodIn wsX9_lots wsX9_isTag := goodIn_r _ [14, 9, 10, 7, 11] (by decide +kernel) (by decide +kernel)
set_option maxRecDepth 20000 in
theorem gX9_lots_X9_isTag : GoodIn wsX9_lots (va_wsS RX9 178 yX9_isTag wsX9_isTag) := goodIn_app (goodIn_of _ (by decide +kernel)) ggX9_lots_X9_isTag
set_option maxRecDepth 20000 in
theorem ggX9_lots_X9_in : GoodIn wsX9_lots wsX9_in := goodIn_r _ [11] (by decide +kernel) (by decide +kernel)
set_option maxRecDepth 20000 in
theorem gX9_lots_X9_in : GoodIn wsX9_lots (va_wsS RX9 73 yX9_in wsX9_in) := goodIn_app (goodIn_of _ (by decide +kernel)) ggX9_lots_X9_in
set_option maxRecDepth 20000 in
theorem ggX9_lots_X9_comes : GoodIn wsX9_lots wsX9_comes := goodIn_r _ [18, 19, 20, 21, 22, 7, 23, 24, 25, 26, 27, 28, 29, 30, 31, 32, 33, 34, 35, 36, 37, 1, 38, 39, 40, 41, 42, 43, 44, 45, 46, 47, 48, 49, 50, 51, 52, 53, 54, 55, 56, 57, 58, 59, 60, 61, 62, 63, 64, 65, 66, 67, 68, 69, 70, 71, 72, 73, 74, 75, 76, 77, 78, 79, 80, 81, 82, 83, 84, 85, 86, 87, 88, 89, 90, 91, 92, 93, 94, 95, 96, 97, 98, 99, 100, 101, 102, 103, 104, 105, 106, 107, 108, 109, 110, 111, 112, 113, 114, 115, 116, 117, 118, 119, 120, 121, 122, 123, 124, 125, 126, 127, 128, 129, 130, 131, 132, 133, 134, 135, 136] (by decide +kernel) (by decide +kernel)
set_option maxRecDepth 20000 in
theorem gX9_lots_X9_comes : GoodIn wsX9_lots (wsV RX9 273 RX9 yX9_comes wsX9_comes) := goodIn_app (goodIn_of _ (by decide +kernel)) ggX9_lots_X9_comes
theorem dX9_lots_0 : decode cX9_lots 0 = .ok (.iload_n 1, 1) := by decide +kernel
theorem dX9_lots_1 : decode cX9_lots 1 = .ok (.invokestatic 104, 3) := by decide +kernel
theorem dX9_lots_4 : decode cX9_lots 4 = .ok (.ifCond .eq 20, 3) := by decide +kernel
theorem dX9_lots_7 : decode cX9_lots 7 = .ok (.iload_n 2, 1) := by decide +kernel
theorem dX9_lots_8 : decode cX9_lots 8 = .ok (.invokestatic 178, 3) := by decide +kernel
theorem dX9_lots_11 : decode cX9_lots 11 = .ok (.ifCond .eq 13, 3) := by decide +kernel
theorem dX9_lots_14 : decode cX9_lots 14 = .ok (.iload_n 3, 1) := by decide +kernel
theorem dX9_lots_15 : decode cX9_lots 15 = .ok (.iconst 1, 1) := by decide +kernel
theorem dX9_lots_16 : decode cX9_lots 16 = .ok (.bipush 12, 2) := by decide +kernel
theorem dX9_lots_18 : decode cX9_lots 18 = .ok (.invokestatic 73, 3) := by decide +kernel
theorem dX9_lots_21 : decode cX9_lots 21 = .ok (.ifCond .ne 5, 3) := by decide +kernel
theorem dX9_lots_24 : decode cX9_lots 24 = .ok (.iconst (-1), 1) := by decide +kernel
theorem dX9_lots_25 : decode cX9_lots 25 = .ok (.ireturn, 1) := by decide +kernel
theorem dX9_lots_26 : decode cX9_lots 26 = .ok (.aload_n 0, 1) := by decide +kernel
theorem dX9_lots_27 : decode cX9_lots 27 = .ok (.getfield 93, 3) := by decide +kernel
theorem dX9_lots_30 : decode cX9_lots 30 = .ok (.istore 5, 2) := by decide +kernel
theorem dX9_lots_32 : decode cX9_lots 32 = .ok (.iload 4, 2) := by decide +kernel
theorem dX9_lots_34 : decode cX9_lots 34 = .ok (.istore 6, 2) := by decide +kernel
theorem dX9_lots_36 : decode cX9_lots 36 = .ok (.iconst 0, 1) := by decide +kernel
theorem dX9_lots_37 : decode cX9_lots 37 = .ok (.istore 7, 2) := by decide +kernel
theorem dX9_lots_39 : decode cX9_lots 39 = .ok (.iconst 0, 1) := by decide +kernel
theorem dX9_lots_40 : decode cX9_lots 40 = .ok (.istore 8, 2) := by decide +kernel
theorem dX9_lots_42 : decode cX9_lots 42 = .ok (.iload 8, 2) := by decide +kernel
theorem dX9_lots_44 : decode cX9_lots 44 = .ok (.iload_n 3, 1) := by decide +kernel
theorem dX9_lots_45 : decode cX9_lots 45 = .ok (.if_icmp .ge 113, 3) := by decide +kernel
theorem dX9_lots_48 : decode cX9_lots 48 = .ok (.aload_n 0, 1) := by decide +kernel
theorem dX9_lots_49 : decode cX9_lots 49 = .ok (.iconst 0, 1) := by decide +kernel
theorem dX9_lots_50 : decode cX9_lots 50 = .ok (.putfield 93, 3) := by decide +kernel
theorem dX9_lots_53 : decode cX9_lots 53 = .ok (.iconst 0, 1) := by decide +kernel
theorem dX9_lots_54 : decode cX9_lots 54 = .ok (.istore 9, 2) := by decide +kernel
theorem dX9_lots_56 : decode cX9_lots 56 = .ok (.iload 9, 2) := by decide +kernel
theorem dX9_lots_58 : decode cX9_lots 58 = .ok (.bipush 10, 2) := by decide +kernel
theorem dX9_lots_60 : decode cX9_lots 60 = .ok (.if_icmp .ge 73, 3) := by decide +kernel
theorem dX9_lots_63 : decode cX9_lots 63 = .ok (.iload 6, 2) := by decide +kernel
theorem dX9_lots_65 : decode cX9_lots 65 = .ok (.ldc_w 276, 3) := by decide +kernel
theorem dX9_lots_68 : decode cX9_lots 68 = .ok (.imul, 1) := by decide +kernel
theorem dX9_lots_69 : decode cX9_lots 69 = .ok (.sipush 12345, 3) := by decide +kernel
theorem dX9_lots_72 : decode cX9_lots 72 = .ok (.iadd, 1) := by decide +kernel
theorem dX9_lots_73 : decode cX9_lots 73 = .ok (.istore 6, 2) := by decide +kernel
theorem dX9_lots_75 : decode cX9_lots 75 = .ok (.iload 6, 2) := by decide +kernel
theorem dX9_lots_77 : decode cX9_lots 77 = .ok (.ldc_w 277, 3) := by decide +kernel
theorem dX9_lots_80 : decode cX9_lots 80 = .ok (.iand, 1) := by decide +kernel
theorem dX9_lots_81 : decode cX9_lots 81 = .ok (.ldc_w 278, 3) := by decide +kernel
theorem dX9_lots_84 : decode cX9_lots 84 = .ok (.idiv, 1) := by decide +kernel
theorem dX9_lots_85 : decode cX9_lots 85 = .ok (.iconst 3, 1) := by decide +kernel
theorem dX9_lots_86 : decode cX9_lots 86 = .ok (.irem, 1) := by decide +kernel
theorem dX9_lots_87 : decode cX9_lots 87 = .ok (.istore 10, 2) := by decide +kernel
theorem dX9_lots_89 : decode cX9_lots 89 = .ok (.aload_n 0, 1) := by decide +kernel
theorem dX9_lots_90 : decode cX9_lots 90 = .ok (.dup, 1) := by decide +kernel
theorem dX9_lots_91 : decode cX9_lots 91 = .ok (.getfield 93, 3) := by decide +kernel
theorem dX9_lots_94 : decode cX9_lots 94 = .ok (.iload 10, 2) := by decide +kernel
theorem dX9_lots_96 : decode cX9_lots 96 = .ok (.ifCond .ne 10, 3) := by decide +kernel
theorem dX9_lots_99 : decode cX9_lots 99 = .ok (.iconst 1, 1) := by decide +kernel
theorem dX9_lots_100 : decode cX9_lots 100 = .ok (.iload 9, 2) := by decide +kernel
theorem dX9_lots_102 : decode cX9_lots 102 = .ok (.ishl, 1) := by decide +kernel
theorem dX9_lots_103 : decode cX9_lots 103 = .ok (.goto 20, 3) := by decide +kernel
theorem dX9_lots_106 : decode cX9_lots 106 = .ok (.iload 10, 2) := by decide +kernel
theorem dX9_lots_108 : decode cX9_lots 108 = .ok (.iconst 1, 1) := by decide +kernel
theorem dX9_lots_109 : decode cX9_lots 109 = .ok (.if_icmp .ne 13, 3) := by decide +kernel
theorem dX9_lots_112 : decode cX9_lots 112 = .ok (.iconst 1, 1) := by decide +kernel
theorem dX9_lots_113 : decode cX9_lots 113 = .ok (.iload 9, 2) := by decide +kernel
theorem dX9_lots_115 : decode cX9_lots 115 = .ok (.bipush 10, 2) := by decide +kernel
theorem dX9_lots_117 : decode cX9_lots 117 = .ok (.iadd, 1) := by decide +kernel
theorem dX9_lots_118 : decode cX9_lots 118 = .ok (.ishl, 1) := by decide +kernel
theorem dX9_lots_119 : decode cX9_lots 119 = .ok (.goto 4, 3) := by decide +kernel
theorem dX9_lots_122 : decode cX9_lots 122 = .ok (.iconst 0, 1) := by decide +kernel
theorem dX9_lots_123 : decode cX9_lots 123 = .ok (.ior, 1) := by decide +kernel
theorem dX9_lots_124 : decode cX9_lots 124 = .ok (.putfield 93, 3) := by decide +kernel
theorem dX9_lots_127 : decode cX9_lots 127 = .ok (.iinc 9 1, 3) := by decide +kernel
theorem dX9_lots_130 : decode cX9_lots 130 = .ok (.goto (-74), 3) := by decide +kernel
theorem dX9_lots_133 : decode cX9_lots 133 = .ok (.iload 7, 2) := by decide +kernel
theorem dX9_lots_135 : decode cX9_lots 135 = .ok (.aload_n 0, 1) := by decide +kernel
theorem dX9_lots_136 : decode cX9_lots 136 = .ok (.iload_n 1, 1) := by decide +kernel
theorem dX9_lots_137 : decode cX9_lots 137 = .ok (.iload_n 2, 1) := by decide +kernel
theorem dX9_lots_138 : decode cX9_lots 138 = .ok (.invokevirtual 273, 3) := by decide +kernel
theorem dX9_lots_141 : decode cX9_lots 141 = .ok (.ifCond .eq 7, 3) := by decide +kernel
theorem dX9_lots_144 : decode cX9_lots 144 = .ok (.iconst 1, 1) := by decide +kernel
theorem dX9_lots_145 : decode cX9_lots 145 = .ok (.goto 4, 3) := by decide +kernel
theorem dX9_lots_148 : decode cX9_lots 148 = .ok (.iconst 0, 1) := by decide +kernel
theorem dX9_lots_149 : decode cX9_lots 149 = .ok (.iadd, 1) := by decide +kernel
theorem dX9_lots_150 : decode cX9_lots 150 = .ok (.istore 7, 2) := by decide +kernel
theorem dX9_lots_152 : decode cX9_lots 152 = .ok (.iinc 8 1, 3) := by decide +kernel
theorem dX9_lots_155 : decode cX9_lots 155 = .ok (.goto (-113), 3) := by decide +kernel
theorem dX9_lots_158 : decode cX9_lots 158 = .ok (.aload_n 0, 1) := by decide +kernel
theorem dX9_lots_159 : decode cX9_lots 159 = .ok (.iload 5, 2) := by decide +kernel
theorem dX9_lots_161 : decode cX9_lots 161 = .ok (.putfield 93, 3) := by decide +kernel
theorem dX9_lots_164 : decode cX9_lots 164 = .ok (.iload 7, 2) := by decide +kernel
theorem dX9_lots_166 : decode cX9_lots 166 = .ok (.ireturn, 1) := by decide +kernel
set_option maxRecDepth 20000 in
theorem ggX9_isList_X9_in : GoodIn wsX9_isList wsX9_in := goodIn_r _ [4] (by decide +kernel) (by decide +kernel)
set_option maxRecDepth 20000 in
theorem gX9_isList_X9_in : GoodIn wsX9_isList (va_wsS RX9 73 yX9_in wsX9_in) := goodIn_app (goodIn_of _ (by decide +kernel)) ggX9_isList_X9_in
theorem dX9_isList_0 : decode cX9_isList 0 = .ok (.iload_n 0, 1) := by decide +kernel
theorem dX9_isList_1 : decode cX9_isList 1 = .ok (.iconst 0, 1) := by decide +kernel
theorem dX9_isList_2 : decode cX9_isList 2 = .ok (.iconst 3, 1) := by decide +kernel
theorem dX9_isList_3 : decode cX9_isList 3 = .ok (.invokestatic 73, 3) := by decide +kernel
theorem dX9_isList_6 : decode cX9_isList 6 = .ok (.ireturn, 1) := by decide +kernel
set_option maxRecDepth 20000 in
theorem ggX9_judge_X9_isList : GoodIn wsX9_judge wsX9_isList := goodIn_r _ [7, 8, 9, 6, 10] (by decide +kernel) (by decide +kernel)
set_option maxRecDepth 20000 in
theorem gX9_judge_X9_isList : GoodIn wsX9_judge (va_wsS RX9 279 yX9_isList wsX9_isList) := goodIn_app (goodIn_of _ (by decide +kernel)) ggX9_judge_X9_isList
set_option maxRecDepth 20000 in
theorem ggX9_judge_X9_isTag : GoodIn wsX9_judge wsX9_isTag := goodIn_r _ [13, 8, 9, 6, 10] (by decide +kernel) (by decide +kernel)
set_option maxRecDepth 20000 in
theorem gX9_judge_X9_isTag : GoodIn wsX9_judge (va_wsS RX9 178 yX9_isTag wsX9_isTag) := goodIn_app (goodIn_of _ (by decide +kernel)) ggX9_judge_X9_isTag
set_option maxRecDepth 20000 in
theorem ggX9_judge_X9_tags : GoodIn wsX9_judge wsX9_tags := goodIn_r _ [17, 3, 18, 19, 20, 21, 22, 6, 23, 24, 25, 26, 27, 28, 29, 30, 31, 32, 33, 34, 35, 36, 37, 38, 39, 40, 41, 42, 43, 44, 45, 46, 47, 48, 49, 50, 51, 52, 53, 54, 55, 56, 57, 58, 59, 60, 61, 62, 63, 64, 65, 66, 67, 68, 69, 70, 71, 72, 73, 74, 75, 76, 77, 78, 79, 80, 81, 82, 83, 84, 85, 86, 87, 88, 89, 90, 91, 92, 93, 94, 95, 96, 97, 98, 99, 100, 101, 102, 103, 104, 105, 106, 107, 108, 109, 110, 111, 112, 113, 114, 115, 116, 117, 118, 119, 120, 121, 122, 123, 124, 125, 126, 127, 128, 129, 130, 131] (by decide +kernel) (by decide +kernel)
set_option maxRecDepth 20000 in
theorem gX9_judge_X9_tags : GoodIn wsX9_judge (wsV RX9 181 RX9 yX9_tags wsX9_tags) := goodIn_app (goodIn_of _ (by decide +kernel)) ggX9_judge_X9_tags
theorem dX9_judge_0 : decode cX9_judge 0 = .ok (.iload_n 1, 1) := by decide +kernel
theorem dX9_judge_1 : decode cX9_judge 1 = .ok (.invokestatic 279, 3) := by decide +kernel
theorem dX9_judge_4 : decode cX9_judge 4 = .ok (.ifCond .eq 14, 3) := by decide +kernel
theorem dX9_judge_7 : decode cX9_judge 7 = .ok (.iload_n 3, 1) := by decide +kernel
theorem dX9_judge_8 : decode cX9_judge 8 = .ok (.invokestatic 178, 3) := by decide +kernel
theorem dX9_judge_11 : decode cX9_judge 11 = .ok (.ifCond .eq 7, 3) := by decide +kernel
theorem dX9_judge_14 : decode cX9_judge 14 = .ok (.iload_n 2, 1) := by decide +kernel
theorem dX9_judge_15 : decode cX9_judge 15 = .ok (.ifCond .ge 5, 3) := by decide +kernel
theorem dX9_judge_18 : decode cX9_judge 18 = .ok (.iconst (-1), 1) := by decide +kernel
theorem dX9_judge_19 : decode cX9_judge 19 = .ok (.ireturn, 1) := by decide +kernel
theorem dX9_judge_20 : decode cX9_judge 20 = .ok (.aload_n 0, 1) := by decide +kernel
theorem dX9_judge_21 : decode cX9_judge 21 = .ok (.getfield 40, 3) := by decide +kernel
theorem dX9_judge_24 : decode cX9_judge 24 = .ok (.iload_n 1, 1) := by decide +kernel
theorem dX9_judge_25 : decode cX9_judge 25 = .ok (.iaload, 1) := by decide +kernel
theorem dX9_judge_26 : decode cX9_judge 26 = .ok (.ifCond .ge 6, 3) := by decide +kernel
theorem dX9_judge_29 : decode cX9_judge 29 = .ok (.bipush (-11), 2) := by decide +kernel
theorem dX9_judge_31 : decode cX9_judge 31 = .ok (.ireturn, 1) := by decide +kernel
theorem dX9_judge_32 : decode cX9_judge 32 = .ok (.aload_n 0, 1) := by decide +kernel
theorem dX9_judge_33 : decode cX9_judge 33 = .ok (.invokevirtual 181, 3) := by decide +kernel
theorem dX9_judge_36 : decode cX9_judge 36 = .ok (.iconst 0, 1) := by decide +kernel
theorem dX9_judge_37 : decode cX9_judge 37 = .ok (.istore 4, 2) := by decide +kernel
theorem dX9_judge_39 : decode cX9_judge 39 = .ok (.iload 4, 2) := by decide +kernel
theorem dX9_judge_41 : decode cX9_judge 41 = .ok (.bipush 20, 2) := by decide +kernel
theorem dX9_judge_43 : decode cX9_judge 43 = .ok (.if_icmp .ge 64, 3) := by decide +kernel
theorem dX9_judge_46 : decode cX9_judge 46 = .ok (.iload_n 2, 1) := by decide +kernel
theorem dX9_judge_47 : decode cX9_judge 47 = .ok (.i2l, 1) := by decide +kernel
theorem dX9_judge_48 : decode cX9_judge 48 = .ok (.iload 4, 2) := by decide +kernel
theorem dX9_judge_50 : decode cX9_judge 50 = .ok (.i2l, 1) := by decide +kernel
theorem dX9_judge_51 : decode cX9_judge 51 = .ok (.ladd, 1) := by decide +kernel
theorem dX9_judge_52 : decode cX9_judge 52 = .ok (.aload_n 0, 1) := by decide +kernel
theorem dX9_judge_53 : decode cX9_judge 53 = .ok (.getfield 40, 3) := by decide +kernel
theorem dX9_judge_56 : decode cX9_judge 56 = .ok (.iload_n 1, 1) := by decide +kernel
theorem dX9_judge_57 : decode cX9_judge 57 = .ok (.iaload, 1) := by decide +kernel
theorem dX9_judge_58 : decode cX9_judge 58 = .ok (.i2l, 1) := by decide +kernel
theorem dX9_judge_59 : decode cX9_judge 59 = .ok (.lcmp, 1) := by decide +kernel
theorem dX9_judge_60 : decode cX9_judge 60 = .ok (.ifCond .lt 9, 3) := by decide +kernel
theorem dX9_judge_63 : decode cX9_judge 63 = .ok (.bipush 100, 2) := by decide +kernel
theorem dX9_judge_65 : decode cX9_judge 65 = .ok (.iload 4, 2) := by decide +kernel
theorem dX9_judge_67 : decode cX9_judge 67 = .ok (.iadd, 1) := by decide +kernel
theorem dX9_judge_68 : decode cX9_judge 68 = .ok (.ireturn, 1) := by decide +kernel
theorem dX9_judge_69 : decode cX9_judge 69 = .ok (.aload_n 0, 1) := by decide +kernel
theorem dX9_judge_70 : decode cX9_judge 70 = .ok (.getfield 43, 3) := by decide +kernel
theorem dX9_judge_73 : decode cX9_judge 73 = .ok (.bipush 24, 2) := by decide +kernel
theorem dX9_judge_75 : decode cX9_judge 75 = .ok (.iload_n 1, 1) := by decide +kernel
theorem dX9_judge_76 : decode cX9_judge 76 = .ok (.imul, 1) := by decide +kernel
theorem dX9_judge_77 : decode cX9_judge 77 = .ok (.iload_n 2, 1) := by decide +kernel
theorem dX9_judge_78 : decode cX9_judge 78 = .ok (.iadd, 1) := by decide +kernel
theorem dX9_judge_79 : decode cX9_judge 79 = .ok (.iload 4, 2) := by decide +kernel
theorem dX9_judge_81 : decode cX9_judge 81 = .ok (.iadd, 1) := by decide +kernel
theorem dX9_judge_82 : decode cX9_judge 82 = .ok (.iaload, 1) := by decide +kernel
theorem dX9_judge_83 : decode cX9_judge 83 = .ok (.aload_n 0, 1) := by decide +kernel
theorem dX9_judge_84 : decode cX9_judge 84 = .ok (.getfield 58, 3) := by decide +kernel
theorem dX9_judge_87 : decode cX9_judge 87 = .ok (.bipush 20, 2) := by decide +kernel
theorem dX9_judge_89 : decode cX9_judge 89 = .ok (.iload_n 3, 1) := by decide +kernel
theorem dX9_judge_90 : decode cX9_judge 90 = .ok (.imul, 1) := by decide +kernel
theorem dX9_judge_91 : decode cX9_judge 91 = .ok (.iload 4, 2) := by decide +kernel
theorem dX9_judge_93 : decode cX9_judge 93 = .ok (.iadd, 1) := by decide +kernel
theorem dX9_judge_94 : decode cX9_judge 94 = .ok (.iaload, 1) := by decide +kernel
theorem dX9_judge_95 : decode cX9_judge 95 = .ok (.if_icmp .eq 6, 3) := by decide +kernel
theorem dX9_judge_98 : decode cX9_judge 98 = .ok (.iload 4, 2) := by decide +kernel
theorem dX9_judge_100 : decode cX9_judge 100 = .ok (.ireturn, 1) := by decide +kernel
theorem dX9_judge_101 : decode cX9_judge 101 = .ok (.iinc 4 1, 3) := by decide +kernel
theorem dX9_judge_104 : decode cX9_judge 104 = .ok (.goto (-65), 3) := by decide +kernel
theorem dX9_judge_107 : decode cX9_judge 107 = .ok (.bipush (-2), 2) := by decide +kernel
theorem dX9_judge_109 : decode cX9_judge 109 = .ok (.ireturn, 1) := by decide +kernel
set_option maxRecDepth 20000 in
theorem ggX9_list_X9_isList : GoodIn wsX9_list wsX9_isList := goodIn_r _ [6, 7, 8, 5, 9] (by decide +kernel) (by decide +kernel)
set_option maxRecDepth 20000 in
theorem gX9_list_X9_isList : GoodIn wsX9_list (va_wsS RX9 279 yX9_isList wsX9_isList) := goodIn_app (goodIn_of _ (by decide +kernel)) ggX9_list_X9_isList
theorem dX9_list_0 : decode cX9_list 0 = .ok (.iload_n 1, 1) := by decide +kernel
theorem dX9_list_1 : decode cX9_list 1 = .ok (.invokestatic 279, 3) := by decide +kernel
theorem dX9_list_4 : decode cX9_list 4 = .ok (.ifCond .eq 9, 3) := by decide +kernel
theorem dX9_list_7 : decode cX9_list 7 = .ok (.iload_n 2, 1) := by decide +kernel
theorem dX9_list_8 : decode cX9_list 8 = .ok (.bipush 24, 2) := by decide +kernel
theorem dX9_list_10 : decode cX9_list 10 = .ok (.if_icmp .le 5, 3) := by decide +kernel
theorem dX9_list_13 : decode cX9_list 13 = .ok (.iconst (-1), 1) := by decide +kernel
theorem dX9_list_14 : decode cX9_list 14 = .ok (.ireturn, 1) := by decide +kernel
theorem dX9_list_15 : decode cX9_list 15 = .ok (.iload_n 2, 1) := by decide +kernel
theorem dX9_list_16 : decode cX9_list 16 = .ok (.ifCond .ge 6, 3) := by decide +kernel
theorem dX9_list_19 : decode cX9_list 19 = .ok (.bipush (-14), 2) := by decide +kernel
theorem dX9_list_21 : decode cX9_list 21 = .ok (.ireturn, 1) := by decide +kernel
theorem dX9_list_22 : decode cX9_list 22 = .ok (.aload_n 0, 1) := by decide +kernel
theorem dX9_list_23 : decode cX9_list 23 = .ok (.getfield 40, 3) := by decide +kernel
theorem dX9_list_26 : decode cX9_list 26 = .ok (.iload_n 1, 1) := by decide +kernel
theorem dX9_list_27 : decode cX9_list 27 = .ok (.iload_n 2, 1) := by decide +kernel
theorem dX9_list_28 : decode cX9_list 28 = .ok (.iastore, 1) := by decide +kernel
theorem dX9_list_29 : decode cX9_list 29 = .ok (.iconst 0, 1) := by decide +kernel
theorem dX9_list_30 : decode cX9_list 30 = .ok (.istore_n 3, 1) := by decide +kernel
theorem dX9_list_31 : decode cX9_list 31 = .ok (.iload_n 3, 1) := by decide +kernel
theorem dX9_list_32 : decode cX9_list 32 = .ok (.bipush 24, 2) := by decide +kernel
theorem dX9_list_34 : decode cX9_list 34 = .ok (.if_icmp .ge 21, 3) := by decide +kernel
theorem dX9_list_37 : decode cX9_list 37 = .ok (.aload_n 0, 1) := by decide +kernel
theorem dX9_list_38 : decode cX9_list 38 = .ok (.getfield 43, 3) := by decide +kernel
theorem dX9_list_41 : decode cX9_list 41 = .ok (.bipush 24, 2) := by decide +kernel
theorem dX9_list_43 : decode cX9_list 43 = .ok (.iload_n 1, 1) := by decide +kernel
theorem dX9_list_44 : decode cX9_list 44 = .ok (.imul, 1) := by decide +kernel
theorem dX9_list_45 : decode cX9_list 45 = .ok (.iload_n 3, 1) := by decide +kernel
theorem dX9_list_46 : decode cX9_list 46 = .ok (.iadd, 1) := by decide +kernel
theorem dX9_list_47 : decode cX9_list 47 = .ok (.iconst 0, 1) := by decide +kernel
theorem dX9_list_48 : decode cX9_list 48 = .ok (.iastore, 1) := by decide +kernel
theorem dX9_list_49 : decode cX9_list 49 = .ok (.iinc 3 1, 3) := by decide +kernel
theorem dX9_list_52 : decode cX9_list 52 = .ok (.goto (-21), 3) := by decide +kernel
theorem dX9_list_55 : decode cX9_list 55 = .ok (.iconst 1, 1) := by decide +kernel
theorem dX9_list_56 : decode cX9_list 56 = .ok (.ireturn, 1) := by decide +kernel
set_option maxRecDepth 20000 in
theorem ggX9_set_X9_isList : GoodIn wsX9_set wsX9_isList := goodIn_r _ [6, 7, 8, 5, 9] (by decide +kernel) (by decide +kernel)
set_option maxRecDepth 20000 in
theorem gX9_set_X9_isList : GoodIn wsX9_set (va_wsS RX9 279 yX9_isList wsX9_isList) := goodIn_app (goodIn_of _ (by decide +kernel)) ggX9_set_X9_isList
set_option maxRecDepth 20000 in
theorem ggX9_set_X9_in : GoodIn wsX9_set wsX9_in := goodIn_r _ [9] (by decide +kernel) (by decide +kernel)
set_option maxRecDepth 20000 in
theorem gX9_set_X9_in : GoodIn wsX9_set (va_wsS RX9 73 yX9_in wsX9_in) := goodIn_app (goodIn_of _ (by decide +kernel)) ggX9_set_X9_in
theorem dX9_set_0 : decode cX9_set 0 = .ok (.iload_n 1, 1) := by decide +kernel
theorem dX9_set_1 : decode cX9_set 1 = .ok (.invokestatic 279, 3) := by decide +kernel
theorem dX9_set_4 : decode cX9_set 4 = .ok (.ifCond .ne 5, 3) := by decide +kernel
theorem dX9_set_7 : decode cX9_set 7 = .ok (.iconst (-1), 1) := by decide +kernel
theorem dX9_set_8 : decode cX9_set 8 = .ok (.ireturn, 1) := by decide +kernel
theorem dX9_set_9 : decode cX9_set 9 = .ok (.aload_n 0, 1) := by decide +kernel
theorem dX9_set_10 : decode cX9_set 10 = .ok (.getfield 40, 3) := by decide +kernel
theorem dX9_set_13 : decode cX9_set 13 = .ok (.iload_n 1, 1) := by decide +kernel
theorem dX9_set_14 : decode cX9_set 14 = .ok (.iaload, 1) := by decide +kernel
theorem dX9_set_15 : decode cX9_set 15 = .ok (.ifCond .ge 6, 3) := by decide +kernel
theorem dX9_set_18 : decode cX9_set 18 = .ok (.bipush (-11), 2) := by decide +kernel
theorem dX9_set_20 : decode cX9_set 20 = .ok (.ireturn, 1) := by decide +kernel
theorem dX9_set_21 : decode cX9_set 21 = .ok (.iload_n 2, 1) := by decide +kernel
theorem dX9_set_22 : decode cX9_set 22 = .ok (.iconst 0, 1) := by decide +kernel
theorem dX9_set_23 : decode cX9_set 23 = .ok (.aload_n 0, 1) := by decide +kernel
theorem dX9_set_24 : decode cX9_set 24 = .ok (.getfield 40, 3) := by decide +kernel
theorem dX9_set_27 : decode cX9_set 27 = .ok (.iload_n 1, 1) := by decide +kernel
theorem dX9_set_28 : decode cX9_set 28 = .ok (.iaload, 1) := by decide +kernel
theorem dX9_set_29 : decode cX9_set 29 = .ok (.iconst 1, 1) := by decide +kernel
theorem dX9_set_30 : decode cX9_set 30 = .ok (.isub, 1) := by decide +kernel
theorem dX9_set_31 : decode cX9_set 31 = .ok (.invokestatic 73, 3) := by decide +kernel
theorem dX9_set_34 : decode cX9_set 34 = .ok (.ifCond .ne 6, 3) := by decide +kernel
theorem dX9_set_37 : decode cX9_set 37 = .ok (.bipush (-13), 2) := by decide +kernel
theorem dX9_set_39 : decode cX9_set 39 = .ok (.ireturn, 1) := by decide +kernel
theorem dX9_set_40 : decode cX9_set 40 = .ok (.aload_n 0, 1) := by decide +kernel
theorem dX9_set_41 : decode cX9_set 41 = .ok (.getfield 43, 3) := by decide +kernel
theorem dX9_set_44 : decode cX9_set 44 = .ok (.bipush 24, 2) := by decide +kernel
theorem dX9_set_46 : decode cX9_set 46 = .ok (.iload_n 1, 1) := by decide +kernel
theorem dX9_set_47 : decode cX9_set 47 = .ok (.imul, 1) := by decide +kernel
theorem dX9_set_48 : decode cX9_set 48 = .ok (.iload_n 2, 1) := by decide +kernel
theorem dX9_set_49 : decode cX9_set 49 = .ok (.iadd, 1) := by decide +kernel
theorem dX9_set_50 : decode cX9_set 50 = .ok (.iload_n 3, 1) := by decide +kernel
theorem dX9_set_51 : decode cX9_set 51 = .ok (.iastore, 1) := by decide +kernel
theorem dX9_set_52 : decode cX9_set 52 = .ok (.iconst 1, 1) := by decide +kernel
theorem dX9_set_53 : decode cX9_set 53 = .ok (.ireturn, 1) := by decide +kernel
set_option maxRecDepth 20000 in
theorem ggX9_get_X9_isList : GoodIn wsX9_get wsX9_isList := goodIn_r _ [7, 8, 9, 6, 10] (by decide +kernel) (by decide +kernel)
set_option maxRecDepth 20000 in
theorem gX9_get_X9_isList : GoodIn wsX9_get (va_wsS RX9 279 yX9_isList wsX9_isList) := goodIn_app (goodIn_of _ (by decide +kernel)) ggX9_get_X9_isList
set_option maxRecDepth 20000 in
theorem ggX9_get_X9_in : GoodIn wsX9_get wsX9_in := goodIn_r _ [10] (by decide +kernel) (by decide +kernel)
set_option maxRecDepth 20000 in
theorem gX9_get_X9_in : GoodIn wsX9_get (va_wsS RX9 73 yX9_in wsX9_in) := goodIn_app (goodIn_of _ (by decide +kernel)) ggX9_get_X9_in
theorem dX9_get_0 : decode cX9_get 0 = .ok (.iload_n 1, 1) := by decide +kernel
theorem dX9_get_1 : decode cX9_get 1 = .ok (.invokestatic 279, 3) := by decide +kernel
theorem dX9_get_4 : decode cX9_get 4 = .ok (.ifCond .eq 34, 3) := by decide +kernel
theorem dX9_get_7 : decode cX9_get 7 = .ok (.iload_n 2, 1) := by decide +kernel
theorem dX9_get_8 : decode cX9_get 8 = .ok (.iconst 0, 1) := by decide +kernel
theorem dX9_get_9 : decode cX9_get 9 = .ok (.aload_n 0, 1) := by decide +kernel
theorem dX9_get_10 : decode cX9_get 10 = .ok (.getfield 40, 3) := by decide +kernel
theorem dX9_get_13 : decode cX9_get 13 = .ok (.iload_n 1, 1) := by decide +kernel
theorem dX9_get_14 : decode cX9_get 14 = .ok (.iaload, 1) := by decide +kernel
theorem dX9_get_15 : decode cX9_get 15 = .ok (.iconst 1, 1) := by decide +kernel
theorem dX9_get_16 : decode cX9_get 16 = .ok (.isub, 1) := by decide +kernel
theorem dX9_get_17 : decode cX9_get 17 = .ok (.invokestatic 73, 3) := by decide +kernel
theorem dX9_get_20 : decode cX9_get 20 = .ok (.ifCond .eq 18, 3) := by decide +kernel
theorem dX9_get_23 : decode cX9_get 23 = .ok (.aload_n 0, 1) := by decide +kernel
theorem dX9_get_24 : decode cX9_get 24 = .ok (.getfield 43, 3) := by decide +kernel
theorem dX9_get_27 : decode cX9_get 27 = .ok (.bipush 24, 2) := by decide +kernel
theorem dX9_get_29 : decode cX9_get 29 = .ok (.iload_n 1, 1) := by decide +kernel
theorem dX9_get_30 : decode cX9_get 30 = .ok (.imul, 1) := by decide +kernel
theorem dX9_get_31 : decode cX9_get 31 = .ok (.iload_n 2, 1) := by decide +kernel
theorem dX9_get_32 : decode cX9_get 32 = .ok (.iadd, 1) := by decide +kernel
theorem dX9_get_33 : decode cX9_get 33 = .ok (.iaload, 1) := by decide +kernel
theorem dX9_get_34 : decode cX9_get 34 = .ok (.i2l, 1) := by decide +kernel
theorem dX9_get_35 : decode cX9_get 35 = .ok (.goto 6, 3) := by decide +kernel
theorem dX9_get_38 : decode cX9_get 38 = .ok (.ldc2_w 284, 3) := by decide +kernel
theorem dX9_get_41 : decode cX9_get 41 = .ok (.lreturn, 1) := by decide +kernel
set_option maxRecDepth 20000 in
theorem ggX9_feed_X9_in : GoodIn wsX9_feed wsX9_in := goodIn_r _ [6] (by decide +kernel) (by decide +kernel)
set_option maxRecDepth 20000 in
theorem gX9_feed_X9_in : GoodIn wsX9_feed (va_wsS RX9 73 yX9_in wsX9_in) := goodIn_app (goodIn_of _ (by decide +kernel)) ggX9_feed_X9_in
theorem dX9_feed_0 : decode cX9_feed 0 = .ok (.iload_n 1, 1) := by decide +kernel
theorem dX9_feed_1 : decode cX9_feed 1 = .ok (.iconst 1, 1) := by decide +kernel
theorem dX9_feed_2 : decode cX9_feed 2 = .ok (.bipush 127, 2) := by decide +kernel
theorem dX9_feed_4 : decode cX9_feed 4 = .ok (.invokestatic 73, 3) := by decide +kernel
theorem dX9_feed_7 : decode cX9_feed 7 = .ok (.ifCond .ne 5, 3) := by decide +kernel
theorem dX9_feed_10 : decode cX9_feed 10 = .ok (.iconst (-1), 1) := by decide +kernel
theorem dX9_feed_11 : decode cX9_feed 11 = .ok (.ireturn, 1) := by decide +kernel
theorem dX9_feed_12 : decode cX9_feed 12 = .ok (.aload_n 0, 1) := by decide +kernel
theorem dX9_feed_13 : decode cX9_feed 13 = .ok (.getfield 266, 3) := by decide +kernel
theorem dX9_feed_16 : decode cX9_feed 16 = .ok (.bipush 120, 2) := by decide +kernel
theorem dX9_feed_18 : decode cX9_feed 18 = .ok (.if_icmp .ne 6, 3) := by decide +kernel
theorem dX9_feed_21 : decode cX9_feed 21 = .ok (.bipush (-3), 2) := by decide +kernel
theorem dX9_feed_23 : decode cX9_feed 23 = .ok (.ireturn, 1) := by decide +kernel
theorem dX9_feed_24 : decode cX9_feed 24 = .ok (.aload_n 0, 1) := by decide +kernel
theorem dX9_feed_25 : decode cX9_feed 25 = .ok (.getfield 34, 3) := by decide +kernel
theorem dX9_feed_28 : decode cX9_feed 28 = .ok (.aload_n 0, 1) := by decide +kernel
theorem dX9_feed_29 : decode cX9_feed 29 = .ok (.getfield 266, 3) := by decide +kernel
theorem dX9_feed_32 : decode cX9_feed 32 = .ok (.iload_n 1, 1) := by decide +kernel
theorem dX9_feed_33 : decode cX9_feed 33 = .ok (.iastore, 1) := by decide +kernel
theorem dX9_feed_34 : decode cX9_feed 34 = .ok (.aload_n 0, 1) := by decide +kernel
theorem dX9_feed_35 : decode cX9_feed 35 = .ok (.dup, 1) := by decide +kernel
theorem dX9_feed_36 : decode cX9_feed 36 = .ok (.getfield 266, 3) := by decide +kernel
theorem dX9_feed_39 : decode cX9_feed 39 = .ok (.iconst 1, 1) := by decide +kernel
theorem dX9_feed_40 : decode cX9_feed 40 = .ok (.iadd, 1) := by decide +kernel
theorem dX9_feed_41 : decode cX9_feed 41 = .ok (.putfield 266, 3) := by decide +kernel
theorem dX9_feed_44 : decode cX9_feed 44 = .ok (.aload_n 0, 1) := by decide +kernel
theorem dX9_feed_45 : decode cX9_feed 45 = .ok (.getfield 266, 3) := by decide +kernel
theorem dX9_feed_48 : decode cX9_feed 48 = .ok (.ireturn, 1) := by decide +kernel
theorem dX9_here_0 : decode cX9_here 0 = .ok (.aload_n 0, 1) := by decide +kernel
theorem dX9_here_1 : decode cX9_here 1 = .ok (.getfield 286, 3) := by decide +kernel
theorem dX9_here_4 : decode cX9_here 4 = .ok (.aload_n 0, 1) := by decide +kernel
theorem dX9_here_5 : decode cX9_here 5 = .ok (.getfield 266, 3) := by decide +kernel
theorem dX9_here_8 : decode cX9_here 8 = .ok (.if_icmp .ge 15, 3) := by decide +kernel
theorem dX9_here_11 : decode cX9_here 11 = .ok (.aload_n 0, 1) := by decide +kernel
theorem dX9_here_12 : decode cX9_here 12 = .ok (.getfield 34, 3) := by decide +kernel
theorem dX9_here_15 : decode cX9_here 15 = .ok (.aload_n 0, 1) := by decide +kernel
theorem dX9_here_16 : decode cX9_here 16 = .ok (.getfield 286, 3) := by decide +kernel
theorem dX9_here_19 : decode cX9_here 19 = .ok (.iaload, 1) := by decide +kernel
theorem dX9_here_20 : decode cX9_here 20 = .ok (.goto 4, 3) := by decide +kernel
theorem dX9_here_23 : decode cX9_here 23 = .ok (.iconst (-1), 1) := by decide +kernel
theorem dX9_here_24 : decode cX9_here 24 = .ok (.ireturn, 1) := by decide +kernel
set_option maxRecDepth 20000 in
theorem ggX9_takes_X9_here : GoodIn wsX9_takes wsX9_here := goodIn_r _ [6, 1, 7, 8, 9, 10, 11, 12, 13, 14, 15, 16, 17, 18, 19, 20, 21, 22, 23, 24, 25, 26, 27, 28, 29, 30, 31, 32, 33, 34, 35, 36, 37, 38, 39, 40, 41, 42, 43, 44, 45, 46, 47, 48] (by decide +kernel) (by decide +kernel)
set_option maxRecDepth 20000 in
theorem gX9_takes_X9_here : GoodIn wsX9_takes (wsV RX9 289 RX9 yX9_here wsX9_here) := goodIn_app (goodIn_of _ (by decide +kernel)) ggX9_takes_X9_here
theorem dX9_takes_0 : decode cX9_takes 0 = .ok (.aload_n 0, 1) := by decide +kernel
theorem dX9_takes_1 : decode cX9_takes 1 = .ok (.invokevirtual 289, 3) := by decide +kernel
theorem dX9_takes_4 : decode cX9_takes 4 = .ok (.iload_n 1, 1) := by decide +kernel
theorem dX9_takes_5 : decode cX9_takes 5 = .ok (.if_icmp .eq 5, 3) := by decide +kernel
theorem dX9_takes_8 : decode cX9_takes 8 = .ok (.iconst 0, 1) := by decide +kernel
theorem dX9_takes_9 : decode cX9_takes 9 = .ok (.ireturn, 1) := by decide +kernel
theorem dX9_takes_10 : decode cX9_takes 10 = .ok (.aload_n 0, 1) := by decide +kernel
theorem dX9_takes_11 : decode cX9_takes 11 = .ok (.dup, 1) := by decide +kernel
theorem dX9_takes_12 : decode cX9_takes 12 = .ok (.getfield 286, 3) := by decide +kernel
theorem dX9_takes_15 : decode cX9_takes 15 = .ok (.iconst 1, 1) := by decide +kernel
theorem dX9_takes_16 : decode cX9_takes 16 = .ok (.iadd, 1) := by decide +kernel
theorem dX9_takes_17 : decode cX9_takes 17 = .ok (.putfield 286, 3) := by decide +kernel
theorem dX9_takes_20 : decode cX9_takes 20 = .ok (.iconst 1, 1) := by decide +kernel
theorem dX9_takes_21 : decode cX9_takes 21 = .ok (.ireturn, 1) := by decide +kernel
set_option maxRecDepth 20000 in
theorem ggX9_literal_X9_takes : GoodIn wsX9_literal wsX9_takes := goodIn_r _ [7, 2, 8, 9, 10, 6, 11, 12, 13, 17, 18, 19, 20, 21, 22, 23, 24, 25, 26, 27, 28, 29, 30, 31, 32, 33, 34, 35, 36, 37, 38, 39, 40, 41, 42, 43, 44, 45, 46, 47, 48, 49, 50, 51, 52, 53, 54, 55, 56] (by decide +kernel) (by decide +kernel)
set_option maxRecDepth 20000 in
theorem gX9_literal_X9_takes : GoodIn wsX9_literal (wsV RX9 292 RX9 yX9_takes wsX9_takes) := goodIn_app (goodIn_of _ (by decide +kernel)) ggX9_literal_X9_takes
set_option maxRecDepth 20000 in
theorem ggX9_literal_X9_here : GoodIn wsX9_literal wsX9_here := goodIn_r _ [11, 2, 12, 13, 17, 18, 19, 20, 21, 22, 23, 24, 25, 26, 27, 28, 29, 30, 31, 32, 33, 34, 35, 36, 37, 38, 39, 40, 41, 42, 43, 44, 45, 46, 47, 48, 49, 50, 51, 52, 53, 54, 55, 56] (by decide +kernel) (by decide +kernel)
set_option maxRecDepth 20000 in
theorem gX9_literal_X9_here : GoodIn wsX9_literal (wsV RX9 289 RX9 yX9_here wsX9_here) := goodIn_app (goodIn_of _ (by decide +kernel)) ggX9_literal_X9_here
set_option maxRecDepth 20000 in
theorem ggX9_literal_X9_in : GoodIn wsX9_literal wsX9_in := goodIn_r _ [16] (by decide +kernel) (by decide +kernel)
set_option maxRecDepth 20000 in
theorem gX9_literal_X9_in : GoodIn wsX9_literal (va_wsS RX9 73 yX9_in wsX9_in) := goodIn_app (goodIn_of _ (by decide +kernel)) ggX9_literal_X9_in
theorem dX9_literal_0 : decode cX9_literal 0 = .ok (.aload_n 0, 1) := by decide +kernel
theorem dX9_literal_1 : decode cX9_literal 1 = .ok (.aload_n 0, 1) := by decide +kernel
theorem dX9_literal_2 : decode cX9_literal 2 = .ok (.bipush 126, 2) := by decide +kernel
theorem dX9_literal_4 : decode cX9_literal 4 = .ok (.invokevirtual 292, 3) := by decide +kernel
theorem dX9_literal_7 : decode cX9_literal 7 = .ok (.ifCond .eq 8, 3) := by decide +kernel
theorem dX9_literal_10 : decode cX9_literal 10 = .ok (.bipush 10, 2) := by decide +kernel
theorem dX9_literal_12 : decode cX9_literal 12 = .ok (.goto 4, 3) := by decide +kernel
theorem dX9_literal_15 : decode cX9_literal 15 = .ok (.iconst 0, 1) := by decide +kernel
theorem dX9_literal_16 : decode cX9_literal 16 = .ok (.putfield 295, 3) := by decide +kernel
theorem dX9_literal_19 : decode cX9_literal 19 = .ok (.aload_n 0, 1) := by decide +kernel
theorem dX9_literal_20 : decode cX9_literal 20 = .ok (.invokevirtual 289, 3) := by decide +kernel
theorem dX9_literal_23 : decode cX9_literal 23 = .ok (.bipush 97, 2) := by decide +kernel
theorem dX9_literal_25 : decode cX9_literal 25 = .ok (.bipush 106, 2) := by decide +kernel
theorem dX9_literal_27 : decode cX9_literal 27 = .ok (.invokestatic 73, 3) := by decide +kernel
theorem dX9_literal_30 : decode cX9_literal 30 = .ok (.ifCond .ne 5, 3) := by decide +kernel
theorem dX9_literal_33 : decode cX9_literal 33 = .ok (.iconst 0, 1) := by decide +kernel
theorem dX9_literal_34 : decode cX9_literal 34 = .ok (.ireturn, 1) := by decide +kernel
theorem dX9_literal_35 : decode cX9_literal 35 = .ok (.aload_n 0, 1) := by decide +kernel
theorem dX9_literal_36 : decode cX9_literal 36 = .ok (.dup, 1) := by decide +kernel
theorem dX9_literal_37 : decode cX9_literal 37 = .ok (.getfield 295, 3) := by decide +kernel
theorem dX9_literal_40 : decode cX9_literal 40 = .ok (.aload_n 0, 1) := by decide +kernel
theorem dX9_literal_41 : decode cX9_literal 41 = .ok (.invokevirtual 289, 3) := by decide +kernel
theorem dX9_literal_44 : decode cX9_literal 44 = .ok (.bipush 97, 2) := by decide +kernel
theorem dX9_literal_46 : decode cX9_literal 46 = .ok (.isub, 1) := by decide +kernel
theorem dX9_literal_47 : decode cX9_literal 47 = .ok (.iadd, 1) := by decide +kernel
theorem dX9_literal_48 : decode cX9_literal 48 = .ok (.putfield 295, 3) := by decide +kernel
theorem dX9_literal_51 : decode cX9_literal 51 = .ok (.aload_n 0, 1) := by decide +kernel
theorem dX9_literal_52 : decode cX9_literal 52 = .ok (.dup, 1) := by decide +kernel
theorem dX9_literal_53 : decode cX9_literal 53 = .ok (.getfield 286, 3) := by decide +kernel
theorem dX9_literal_56 : decode cX9_literal 56 = .ok (.iconst 1, 1) := by decide +kernel
theorem dX9_literal_57 : decode cX9_literal 57 = .ok (.iadd, 1) := by decide +kernel
theorem dX9_literal_58 : decode cX9_literal 58 = .ok (.putfield 286, 3) := by decide +kernel
theorem dX9_literal_61 : decode cX9_literal 61 = .ok (.iconst 1, 1) := by decide +kernel
theorem dX9_literal_62 : decode cX9_literal 62 = .ok (.ireturn, 1) := by decide +kernel
set_option maxRecDepth 20000 in
theorem ggX9_literals_X9_literal : GoodIn wsX9_literals wsX9_literal := goodIn_r _ [6, 1, 7, 8, 9, 10, 5, 11, 12, 13, 14, 15, 16, 17, 18, 19, 20, 21, 22, 23, 24, 25, 26, 27, 28, 29, 30, 31, 32, 33, 34, 35, 36, 37, 38, 39, 40, 41, 42, 43, 44, 45, 46, 47, 48, 49, 50, 51, 52, 53, 54, 55, 56, 57, 58, 59, 60] (by decide +kernel) (by decide +kernel)
set_option maxRecDepth 20000 in
theorem gX9_literals_X9_literal : GoodIn wsX9_literals (wsV RX9 298 RX9 yX9_literal wsX9_literal) := goodIn_app (goodIn_of _ (by decide +kernel)) ggX9_literals_X9_literal
set_option maxRecDepth 20000 in
theorem ggX9_literals_X9_takes : GoodIn wsX9_literals wsX9_takes := goodIn_r _ [11, 7, 12, 13, 14, 5, 15, 16, 17, 21, 22, 23, 24, 25, 26, 27, 28, 29, 30, 31, 32, 33, 34, 35, 36, 37, 38, 39, 40, 41, 42, 43, 44, 45, 46, 47, 48, 49, 50, 51, 52, 53, 54, 55, 56, 57, 58, 59, 60] (by decide +kernel) (by decide +kernel)
set_option maxRecDepth 20000 in
theorem gX9_literals_X9_takes : GoodIn wsX9_literals (wsV RX9 292 RX9 yX9_takes wsX9_takes) := goodIn_app (goodIn_of _ (by decide +kernel)) ggX9_literals_X9_takes
theorem dX9_literals_0 : decode cX9_literals 0 = .ok (.iconst 0, 1) := by decide +kernel
theorem dX9_literals_1 : decode cX9_literals 1 = .ok (.istore_n 1, 1) := by decide +kernel
theorem dX9_literals_2 : decode cX9_literals 2 = .ok (.aload_n 0, 1) := by decide +kernel
theorem dX9_literals_3 : decode cX9_literals 3 = .ok (.invokevirtual 298, 3) := by decide +kernel
theorem dX9_literals_6 : decode cX9_literals 6 = .ok (.ifCond .ne 5, 3) := by decide +kernel
theorem dX9_literals_9 : decode cX9_literals 9 = .ok (.iconst 0, 1) := by decide +kernel
theorem dX9_literals_10 : decode cX9_literals 10 = .ok (.ireturn, 1) := by decide +kernel
theorem dX9_literals_11 : decode cX9_literals 11 = .ok (.iload_n 1, 1) := by decide +kernel
theorem dX9_literals_12 : decode cX9_literals 12 = .ok (.iconst 1, 1) := by decide +kernel
theorem dX9_literals_13 : decode cX9_literals 13 = .ok (.aload_n 0, 1) := by decide +kernel
theorem dX9_literals_14 : decode cX9_literals 14 = .ok (.getfield 295, 3) := by decide +kernel
theorem dX9_literals_17 : decode cX9_literals 17 = .ok (.ishl, 1) := by decide +kernel
theorem dX9_literals_18 : decode cX9_literals 18 = .ok (.ior, 1) := by decide +kernel
theorem dX9_literals_19 : decode cX9_literals 19 = .ok (.istore_n 1, 1) := by decide +kernel
theorem dX9_literals_20 : decode cX9_literals 20 = .ok (.aload_n 0, 1) := by decide +kernel
theorem dX9_literals_21 : decode cX9_literals 21 = .ok (.bipush 44, 2) := by decide +kernel
theorem dX9_literals_23 : decode cX9_literals 23 = .ok (.invokevirtual 292, 3) := by decide +kernel
theorem dX9_literals_26 : decode cX9_literals 26 = .ok (.ifCond .ne (-24), 3) := by decide +kernel
theorem dX9_literals_29 : decode cX9_literals 29 = .ok (.aload_n 0, 1) := by decide +kernel
theorem dX9_literals_30 : decode cX9_literals 30 = .ok (.iload_n 1, 1) := by decide +kernel
theorem dX9_literals_31 : decode cX9_literals 31 = .ok (.putfield 295, 3) := by decide +kernel
theorem dX9_literals_34 : decode cX9_literals 34 = .ok (.iconst 1, 1) := by decide +kernel
theorem dX9_literals_35 : decode cX9_literals 35 = .ok (.ireturn, 1) := by decide +kernel
set_option maxRecDepth 20000 in
theorem ggX9_number_X9_here : GoodIn wsX9_number wsX9_here := goodIn_r _ [7, 2, 8, 9, 13, 14, 15, 16, 17, 18, 19, 20, 21, 22, 23, 24, 25, 26, 27, 28, 29, 30, 31, 32, 33, 34, 35, 36, 37, 38, 39, 40, 41, 42, 43, 44, 45, 46, 47, 48, 49, 50, 51, 52] (by decide +kernel) (by decide +kernel)
set_option maxRecDepth 20000 in
theorem gX9_number_X9_here : GoodIn wsX9_number (wsV RX9 289 RX9 yX9_here wsX9_here) := goodIn_app (goodIn_of _ (by decide +kernel)) ggX9_number_X9_here
set_option maxRecDepth 20000 in
theorem ggX9_number_X9_in : GoodIn wsX9_number wsX9_in := goodIn_r _ [12] (by decide +kernel) (by decide +kernel)
set_option maxRecDepth 20000 in
theorem gX9_number_X9_in : GoodIn wsX9_number (va_wsS RX9 73 yX9_in wsX9_in) := goodIn_app (goodIn_of _ (by decide +kernel)) ggX9_number_X9_in
theorem dX9_number_0 : decode cX9_number 0 = .ok (.aload_n 0, 1) := by decide +kernel
theorem dX9_number_1 : decode cX9_number 1 = .ok (.invokevirtual 289, 3) := by decide +kernel
theorem dX9_number_4 : decode cX9_number 4 = .ok (.bipush 48, 2) := by decide +kernel
theorem dX9_number_6 : decode cX9_number 6 = .ok (.bipush 57, 2) := by decide +kernel
theorem dX9_number_8 : decode cX9_number 8 = .ok (.invokestatic 73, 3) := by decide +kernel
theorem dX9_number_11 : decode cX9_number 11 = .ok (.ifCond .ne 5, 3) := by decide +kernel
theorem dX9_number_14 : decode cX9_number 14 = .ok (.iconst 0, 1) := by decide +kernel
theorem dX9_number_15 : decode cX9_number 15 = .ok (.ireturn, 1) := by decide +kernel
theorem dX9_number_16 : decode cX9_number 16 = .ok (.aload_n 0, 1) := by decide +kernel
theorem dX9_number_17 : decode cX9_number 17 = .ok (.aload_n 0, 1) := by decide +kernel
theorem dX9_number_18 : decode cX9_number 18 = .ok (.invokevirtual 289, 3) := by decide +kernel
theorem dX9_number_21 : decode cX9_number 21 = .ok (.bipush 48, 2) := by decide +kernel
theorem dX9_number_23 : decode cX9_number 23 = .ok (.isub, 1) := by decide +kernel
theorem dX9_number_24 : decode cX9_number 24 = .ok (.putfield 295, 3) := by decide +kernel
theorem dX9_number_27 : decode cX9_number 27 = .ok (.aload_n 0, 1) := by decide +kernel
theorem dX9_number_28 : decode cX9_number 28 = .ok (.dup, 1) := by decide +kernel
theorem dX9_number_29 : decode cX9_number 29 = .ok (.getfield 286, 3) := by decide +kernel
theorem dX9_number_32 : decode cX9_number 32 = .ok (.iconst 1, 1) := by decide +kernel
theorem dX9_number_33 : decode cX9_number 33 = .ok (.iadd, 1) := by decide +kernel
theorem dX9_number_34 : decode cX9_number 34 = .ok (.putfield 286, 3) := by decide +kernel
theorem dX9_number_37 : decode cX9_number 37 = .ok (.aload_n 0, 1) := by decide +kernel
theorem dX9_number_38 : decode cX9_number 38 = .ok (.invokevirtual 289, 3) := by decide +kernel
theorem dX9_number_41 : decode cX9_number 41 = .ok (.bipush 48, 2) := by decide +kernel
theorem dX9_number_43 : decode cX9_number 43 = .ok (.bipush 57, 2) := by decide +kernel
theorem dX9_number_45 : decode cX9_number 45 = .ok (.invokestatic 73, 3) := by decide +kernel
theorem dX9_number_48 : decode cX9_number 48 = .ok (.ifCond .eq 32, 3) := by decide +kernel
theorem dX9_number_51 : decode cX9_number 51 = .ok (.aload_n 0, 1) := by decide +kernel
theorem dX9_number_52 : decode cX9_number 52 = .ok (.bipush 10, 2) := by decide +kernel
theorem dX9_number_54 : decode cX9_number 54 = .ok (.aload_n 0, 1) := by decide +kernel
theorem dX9_number_55 : decode cX9_number 55 = .ok (.getfield 295, 3) := by decide +kernel
theorem dX9_number_58 : decode cX9_number 58 = .ok (.imul, 1) := by decide +kernel
theorem dX9_number_59 : decode cX9_number 59 = .ok (.aload_n 0, 1) := by decide +kernel
theorem dX9_number_60 : decode cX9_number 60 = .ok (.invokevirtual 289, 3) := by decide +kernel
theorem dX9_number_63 : decode cX9_number 63 = .ok (.iadd, 1) := by decide +kernel
theorem dX9_number_64 : decode cX9_number 64 = .ok (.bipush 48, 2) := by decide +kernel
theorem dX9_number_66 : decode cX9_number 66 = .ok (.isub, 1) := by decide +kernel
theorem dX9_number_67 : decode cX9_number 67 = .ok (.putfield 295, 3) := by decide +kernel
theorem dX9_number_70 : decode cX9_number 70 = .ok (.aload_n 0, 1) := by decide +kernel
theorem dX9_number_71 : decode cX9_number 71 = .ok (.dup, 1) := by decide +kernel
theorem dX9_number_72 : decode cX9_number 72 = .ok (.getfield 286, 3) := by decide +kernel
theorem dX9_number_75 : decode cX9_number 75 = .ok (.iconst 1, 1) := by decide +kernel
theorem dX9_number_76 : decode cX9_number 76 = .ok (.iadd, 1) := by decide +kernel
theorem dX9_number_77 : decode cX9_number 77 = .ok (.putfield 286, 3) := by decide +kernel
theorem dX9_number_80 : decode cX9_number 80 = .ok (.iconst 1, 1) := by decide +kernel
theorem dX9_number_81 : decode cX9_number 81 = .ok (.ireturn, 1) := by decide +kernel
set_option maxRecDepth 20000 in
theorem ggX9_pair_X9_number : GoodIn wsX9_pair wsX9_number := goodIn_r _ [9, 2, 10, 11, 12, 13, 8, 14, 15, 16, 17, 18, 19, 24, 25, 26, 27, 28, 29, 30, 31, 32, 33, 34, 35, 36, 37, 38, 39, 40, 41, 42, 43, 44, 45, 46, 47, 48, 49, 50, 51, 52, 53, 54, 55, 56, 57, 58, 59, 60, 61, 62, 63] (by decide +kernel) (by decide +kernel)
set_option maxRecDepth 20000 in
theorem gX9_pair_X9_number : GoodIn wsX9_pair (wsV RX9 305 RX9 yX9_number wsX9_number) := goodIn_app (goodIn_of _ (by decide +kernel)) ggX9_pair_X9_number
set_option maxRecDepth 20000 in
theorem ggX9_pair_X9_takes : GoodIn wsX9_pair wsX9_takes := goodIn_r _ [23, 10, 11, 12, 13, 8, 14, 15, 16, 24, 25, 26, 27, 28, 29, 30, 31, 32, 33, 34, 35, 36, 37, 38, 39, 40, 41, 42, 43, 44, 45, 46, 47, 48, 49, 50, 51, 52, 53, 54, 55, 56, 57, 58, 59, 60, 61, 62, 63] (by decide +kernel) (by decide +kernel)
set_option maxRecDepth 20000 in
theorem gX9_pair_X9_takes : GoodIn wsX9_pair (wsV RX9 292 RX9 yX9_takes wsX9_takes) := goodIn_app (goodIn_of _ (by decide +kernel)) ggX9_pair_X9_takes
theorem dX9_pair_0 : decode cX9_pair 0 = .ok (.aload_n 0, 1) := by decide +kernel
theorem dX9_pair_1 : decode cX9_pair 1 = .ok (.iconst 2, 1) := by decide +kernel
theorem dX9_pair_2 : decode cX9_pair 2 = .ok (.putfield 302, 3) := by decide +kernel
theorem dX9_pair_5 : decode cX9_pair 5 = .ok (.aload_n 0, 1) := by decide +kernel
theorem dX9_pair_6 : decode cX9_pair 6 = .ok (.invokevirtual 305, 3) := by decide +kernel
theorem dX9_pair_9 : decode cX9_pair 9 = .ok (.ifCond .ne 5, 3) := by decide +kernel
theorem dX9_pair_12 : decode cX9_pair 12 = .ok (.iconst 0, 1) := by decide +kernel
theorem dX9_pair_13 : decode cX9_pair 13 = .ok (.ireturn, 1) := by decide +kernel
theorem dX9_pair_14 : decode cX9_pair 14 = .ok (.aload_n 0, 1) := by decide +kernel
theorem dX9_pair_15 : decode cX9_pair 15 = .ok (.aload_n 0, 1) := by decide +kernel
theorem dX9_pair_16 : decode cX9_pair 16 = .ok (.getfield 295, 3) := by decide +kernel
theorem dX9_pair_19 : decode cX9_pair 19 = .ok (.putfield 308, 3) := by decide +kernel
theorem dX9_pair_22 : decode cX9_pair 22 = .ok (.aload_n 0, 1) := by decide +kernel
theorem dX9_pair_23 : decode cX9_pair 23 = .ok (.bipush 62, 2) := by decide +kernel
theorem dX9_pair_25 : decode cX9_pair 25 = .ok (.invokevirtual 292, 3) := by decide +kernel
theorem dX9_pair_28 : decode cX9_pair 28 = .ok (.ifCond .eq 10, 3) := by decide +kernel
theorem dX9_pair_31 : decode cX9_pair 31 = .ok (.aload_n 0, 1) := by decide +kernel
theorem dX9_pair_32 : decode cX9_pair 32 = .ok (.invokevirtual 305, 3) := by decide +kernel
theorem dX9_pair_35 : decode cX9_pair 35 = .ok (.ifCond .ne 5, 3) := by decide +kernel
theorem dX9_pair_38 : decode cX9_pair 38 = .ok (.iconst 0, 1) := by decide +kernel
theorem dX9_pair_39 : decode cX9_pair 39 = .ok (.ireturn, 1) := by decide +kernel
theorem dX9_pair_40 : decode cX9_pair 40 = .ok (.aload_n 0, 1) := by decide +kernel
theorem dX9_pair_41 : decode cX9_pair 41 = .ok (.aload_n 0, 1) := by decide +kernel
theorem dX9_pair_42 : decode cX9_pair 42 = .ok (.getfield 295, 3) := by decide +kernel
theorem dX9_pair_45 : decode cX9_pair 45 = .ok (.putfield 311, 3) := by decide +kernel
theorem dX9_pair_48 : decode cX9_pair 48 = .ok (.iconst 1, 1) := by decide +kernel
theorem dX9_pair_49 : decode cX9_pair 49 = .ok (.ireturn, 1) := by decide +kernel
set_option maxRecDepth 20000 in
theorem ggX9_arrow_X9_here : GoodIn wsX9_arrow wsX9_here := goodIn_r _ [7, 2, 8, 9, 14, 15, 16, 17, 18, 19, 20, 21, 22, 23, 24, 25, 26, 27, 28, 29, 30, 31, 32, 33, 34, 35, 36, 37, 38, 39, 40, 41, 42, 43, 44, 45, 46, 47, 48, 49, 50, 51, 52, 53] (by decide +kernel) (by decide +kernel)
set_option maxRecDepth 20000 in
theorem gX9_arrow_X9_here : GoodIn wsX9_arrow (wsV RX9 289 RX9 yX9_here wsX9_here) := goodIn_app (goodIn_of _ (by decide +kernel)) ggX9_arrow_X9_here
set_option maxRecDepth 20000 in
theorem ggX9_arrow_X9_takes : GoodIn wsX9_arrow wsX9_takes := goodIn_r _ [13, 2, 3, 4, 5, 6, 7, 8, 9, 14, 15, 16, 17, 18, 19, 20, 21, 22, 23, 24, 25, 26, 27, 28, 29, 30, 31, 32, 33, 34, 35, 36, 37, 38, 39, 40, 41, 42, 43, 44, 45, 46, 47, 48, 49, 50, 51, 52, 53] (by decide +kernel) (by decide +kernel)
set_option maxRecDepth 20000 in
theorem gX9_arrow_X9_takes : GoodIn wsX9_arrow (wsV RX9 292 RX9 yX9_takes wsX9_takes) := goodIn_app (goodIn_of _ (by decide +kernel)) ggX9_arrow_X9_takes
theorem dX9_arrow_0 : decode cX9_arrow 0 = .ok (.aload_n 0, 1) := by decide +kernel
theorem dX9_arrow_1 : decode cX9_arrow 1 = .ok (.invokevirtual 289, 3) := by decide +kernel
theorem dX9_arrow_4 : decode cX9_arrow 4 = .ok (.istore_n 1, 1) := by decide +kernel
theorem dX9_arrow_5 : decode cX9_arrow 5 = .ok (.iload_n 1, 1) := by decide +kernel
theorem dX9_arrow_6 : decode cX9_arrow 6 = .ok (.bipush 45, 2) := by decide +kernel
theorem dX9_arrow_8 : decode cX9_arrow 8 = .ok (.if_icmp .eq 17, 3) := by decide +kernel
theorem dX9_arrow_11 : decode cX9_arrow 11 = .ok (.iload_n 1, 1) := by decide +kernel
theorem dX9_arrow_12 : decode cX9_arrow 12 = .ok (.bipush 61, 2) := by decide +kernel
theorem dX9_arrow_14 : decode cX9_arrow 14 = .ok (.if_icmp .eq 11, 3) := by decide +kernel
theorem dX9_arrow_17 : decode cX9_arrow 17 = .ok (.iload_n 1, 1) := by decide +kernel
theorem dX9_arrow_18 : decode cX9_arrow 18 = .ok (.bipush 126, 2) := by decide +kernel
theorem dX9_arrow_20 : decode cX9_arrow 20 = .ok (.if_icmp .eq 5, 3) := by decide +kernel
theorem dX9_arrow_23 : decode cX9_arrow 23 = .ok (.iconst 0, 1) := by decide +kernel
theorem dX9_arrow_24 : decode cX9_arrow 24 = .ok (.ireturn, 1) := by decide +kernel
theorem dX9_arrow_25 : decode cX9_arrow 25 = .ok (.aload_n 0, 1) := by decide +kernel
theorem dX9_arrow_26 : decode cX9_arrow 26 = .ok (.iload_n 1, 1) := by decide +kernel
theorem dX9_arrow_27 : decode cX9_arrow 27 = .ok (.bipush 45, 2) := by decide +kernel
theorem dX9_arrow_29 : decode cX9_arrow 29 = .ok (.if_icmp .ne 7, 3) := by decide +kernel
theorem dX9_arrow_32 : decode cX9_arrow 32 = .ok (.iconst 0, 1) := by decide +kernel
theorem dX9_arrow_33 : decode cX9_arrow 33 = .ok (.goto 14, 3) := by decide +kernel
theorem dX9_arrow_36 : decode cX9_arrow 36 = .ok (.iload_n 1, 1) := by decide +kernel
theorem dX9_arrow_37 : decode cX9_arrow 37 = .ok (.bipush 61, 2) := by decide +kernel
theorem dX9_arrow_39 : decode cX9_arrow 39 = .ok (.if_icmp .ne 7, 3) := by decide +kernel
theorem dX9_arrow_42 : decode cX9_arrow 42 = .ok (.iconst 1, 1) := by decide +kernel
theorem dX9_arrow_43 : decode cX9_arrow 43 = .ok (.goto 4, 3) := by decide +kernel
theorem dX9_arrow_46 : decode cX9_arrow 46 = .ok (.iconst 2, 1) := by decide +kernel
theorem dX9_arrow_47 : decode cX9_arrow 47 = .ok (.putfield 314, 3) := by decide +kernel
theorem dX9_arrow_50 : decode cX9_arrow 50 = .ok (.aload_n 0, 1) := by decide +kernel
theorem dX9_arrow_51 : decode cX9_arrow 51 = .ok (.dup, 1) := by decide +kernel
theorem dX9_arrow_52 : decode cX9_arrow 52 = .ok (.getfield 286, 3) := by decide +kernel
theorem dX9_arrow_55 : decode cX9_arrow 55 = .ok (.iconst 1, 1) := by decide +kernel
theorem dX9_arrow_56 : decode cX9_arrow 56 = .ok (.iadd, 1) := by decide +kernel
theorem dX9_arrow_57 : decode cX9_arrow 57 = .ok (.putfield 286, 3) := by decide +kernel
theorem dX9_arrow_60 : decode cX9_arrow 60 = .ok (.aload_n 0, 1) := by decide +kernel
theorem dX9_arrow_61 : decode cX9_arrow 61 = .ok (.bipush 62, 2) := by decide +kernel
theorem dX9_arrow_63 : decode cX9_arrow 63 = .ok (.invokevirtual 292, 3) := by decide +kernel
theorem dX9_arrow_66 : decode cX9_arrow 66 = .ok (.ireturn, 1) := by decide +kernel
set_option maxRecDepth 20000 in
theorem ggX9_isBodyHere_X9_here : GoodIn wsX9_isBodyHere wsX9_here := goodIn_r _ [8, 1, 2, 3, 12, 13, 14, 15, 16, 17, 18, 19, 20, 21, 22, 23, 24, 25, 26, 27, 28, 29, 30, 31, 32, 33, 34, 35, 36, 37, 38, 39, 40, 41, 42, 43, 44, 45, 46, 47, 48, 49, 50, 51] (by decide +kernel) (by decide +kernel)
set_option maxRecDepth 20000 in
theorem gX9_isBodyHere_X9_here : GoodIn wsX9_isBodyHere (wsV RX9 289 RX9 yX9_here wsX9_here) := goodIn_app (goodIn_of _ (by decide +kernel)) ggX9_isBodyHere_X9_here
set_option maxRecDepth 20000 in
theorem ggX9_isBodyHere_X9_in : GoodIn wsX9_isBodyHere wsX9_in := goodIn_r _ [11] (by decide +kernel) (by decide +kernel)
set_option maxRecDepth 20000 in
theorem gX9_isBodyHere_X9_in : GoodIn wsX9_isBodyHere (va_wsS RX9 73 yX9_in wsX9_in) := goodIn_app (goodIn_of _ (by decide +kernel)) ggX9_isBodyHere_X9_in
theorem dX9_isBodyHere_0 : decode cX9_isBodyHere 0 = .ok (.aload_n 0, 1) := by decide +kernel
theorem dX9_isBodyHere_1 : decode cX9_isBodyHere 1 = .ok (.invokevirtual 289, 3) := by decide +kernel
theorem dX9_isBodyHere_4 : decode cX9_isBodyHere 4 = .ok (.bipush 97, 2) := by decide +kernel
theorem dX9_isBodyHere_6 : decode cX9_isBodyHere 6 = .ok (.bipush 106, 2) := by decide +kernel
theorem dX9_isBodyHere_8 : decode cX9_isBodyHere 8 = .ok (.invokestatic 73, 3) := by decide +kernel
theorem dX9_isBodyHere_11 : decode cX9_isBodyHere 11 = .ok (.ifCond .ne 41, 3) := by decide +kernel
theorem dX9_isBodyHere_14 : decode cX9_isBodyHere 14 = .ok (.aload_n 0, 1) := by decide +kernel
theorem dX9_isBodyHere_15 : decode cX9_isBodyHere 15 = .ok (.invokevirtual 289, 3) := by decide +kernel
theorem dX9_isBodyHere_18 : decode cX9_isBodyHere 18 = .ok (.bipush 126, 2) := by decide +kernel
theorem dX9_isBodyHere_20 : decode cX9_isBodyHere 20 = .ok (.if_icmp .ne 36, 3) := by decide +kernel
theorem dX9_isBodyHere_23 : decode cX9_isBodyHere 23 = .ok (.aload_n 0, 1) := by decide +kernel
theorem dX9_isBodyHere_24 : decode cX9_isBodyHere 24 = .ok (.getfield 286, 3) := by decide +kernel
theorem dX9_isBodyHere_27 : decode cX9_isBodyHere 27 = .ok (.iconst 1, 1) := by decide +kernel
theorem dX9_isBodyHere_28 : decode cX9_isBodyHere 28 = .ok (.iadd, 1) := by decide +kernel
theorem dX9_isBodyHere_29 : decode cX9_isBodyHere 29 = .ok (.aload_n 0, 1) := by decide +kernel
theorem dX9_isBodyHere_30 : decode cX9_isBodyHere 30 = .ok (.getfield 266, 3) := by decide +kernel
theorem dX9_isBodyHere_33 : decode cX9_isBodyHere 33 = .ok (.if_icmp .ge 19, 3) := by decide +kernel
theorem dX9_isBodyHere_36 : decode cX9_isBodyHere 36 = .ok (.aload_n 0, 1) := by decide +kernel
theorem dX9_isBodyHere_37 : decode cX9_isBodyHere 37 = .ok (.getfield 34, 3) := by decide +kernel
theorem dX9_isBodyHere_40 : decode cX9_isBodyHere 40 = .ok (.aload_n 0, 1) := by decide +kernel
theorem dX9_isBodyHere_41 : decode cX9_isBodyHere 41 = .ok (.getfield 286, 3) := by decide +kernel
theorem dX9_isBodyHere_44 : decode cX9_isBodyHere 44 = .ok (.iconst 1, 1) := by decide +kernel
theorem dX9_isBodyHere_45 : decode cX9_isBodyHere 45 = .ok (.iadd, 1) := by decide +kernel
theorem dX9_isBodyHere_46 : decode cX9_isBodyHere 46 = .ok (.iaload, 1) := by decide +kernel
theorem dX9_isBodyHere_47 : decode cX9_isBodyHere 47 = .ok (.bipush 62, 2) := by decide +kernel
theorem dX9_isBodyHere_49 : decode cX9_isBodyHere 49 = .ok (.if_icmp .eq 7, 3) := by decide +kernel
theorem dX9_isBodyHere_52 : decode cX9_isBodyHere 52 = .ok (.iconst 1, 1) := by decide +kernel
theorem dX9_isBodyHere_53 : decode cX9_isBodyHere 53 = .ok (.goto 4, 3) := by decide +kernel
theorem dX9_isBodyHere_56 : decode cX9_isBodyHere 56 = .ok (.iconst 0, 1) := by decide +kernel
theorem dX9_isBodyHere_57 : decode cX9_isBodyHere 57 = .ok (.ireturn, 1) := by decide +kernel
set_option maxRecDepth 20000 in
theorem ggX9_rule__X9_isBodyHere : GoodIn wsX9_rule_ wsX9_isBodyHere := goodIn_r _ [12, 7, 13, 14, 15, 16, 17, 11, 18, 19, 20, 21, 39, 40, 41, 42, 43, 44, 45, 46, 47, 48, 49, 50, 51, 52, 53, 54, 55, 56, 57, 58, 59, 60, 61, 62, 63, 64, 65, 66, 67, 68, 69, 70, 71, 72, 73, 74, 75, 76, 77, 78] (by decide +kernel) (by decide +kernel)
set_option maxRecDepth 20000 in
theorem gX9_rule__X9_isBodyHere : GoodIn wsX9_rule_ (wsV RX9 326 RX9 yX9_isBodyHere wsX9_isBodyHere) := goodIn_app (goodIn_of _ (by decide +kernel)) ggX9_rule__X9_isBodyHere
set_option maxRecDepth 20000 in
theorem ggX9_rule__X9_literals : GoodIn wsX9_rule_ wsX9_literals := goodIn_r _ [25, 5, 26, 27, 28, 11, 29, 7, 30, 31, 32, 33, 15, 16, 17, 18, 13, 14, 19, 20, 21, 39, 40, 41, 42, 43, 44, 45, 46, 47, 48, 49, 50, 51, 52, 53, 54, 55, 56, 57, 58, 59, 60, 61, 62, 63, 64, 65, 66, 67, 68, 69, 70, 71, 72, 73, 74, 75, 76, 77, 78] (by decide +kernel) (by decide +kernel)
set_option maxRecDepth 20000 in
theorem gX9_rule__X9_literals : GoodIn wsX9_rule_ (wsV RX9 329 RX9 yX9_literals wsX9_literals) := goodIn_app (goodIn_of _ (by decide +kernel)) ggX9_rule__X9_literals
set_option maxRecDepth 20000 in
theorem ggX9_rule__X9_arrow : GoodIn wsX9_rule_ wsX9_arrow := goodIn_r _ [37, 38, 7, 15, 16, 17, 11, 18, 13, 14, 30, 31, 32, 33, 39, 40, 41, 42, 43, 44, 45, 46, 47, 48, 49, 50, 51, 52, 53, 54, 55, 56, 57, 58, 59, 60, 61, 62, 63, 64, 65, 66, 67, 68, 69, 70, 71, 72, 73, 74, 75, 76, 77, 78] (by decide +kernel) (by decide +kernel)
set_option maxRecDepth 20000 in
theorem gX9_rule__X9_arrow : GoodIn wsX9_rule_ (wsV RX9 332 RX9 yX9_arrow wsX9_arrow) := goodIn_app (goodIn_of _ (by decide +kernel)) ggX9_rule__X9_arrow
set_option maxRecDepth 20000 in
theorem ggX9_rule__X9_literal : GoodIn wsX9_rule_ wsX9_literal := goodIn_r _ [29, 5, 7, 30, 31, 32, 11, 33, 15, 16, 17, 18, 13, 14, 19, 20, 21, 39, 40, 41, 42, 43, 44, 45, 46, 47, 48, 49, 50, 51, 52, 53, 54, 55, 56, 57, 58, 59, 60, 61, 62, 63, 64, 65, 66, 67, 68, 69, 70, 71, 72, 73, 74, 75, 76, 77, 78] (by decide +kernel) (by decide +kernel)
set_option maxRecDepth 20000 in
theorem gX9_rule__X9_literal : GoodIn wsX9_rule_ (wsV RX9 298 RX9 yX9_literal wsX9_literal) := goodIn_app (goodIn_of _ (by decide +kernel)) ggX9_rule__X9_literal
set_option maxRecDepth 20000 in
theorem ggX9_rule__X9_takes : GoodIn wsX9_rule_ wsX9_takes := goodIn_r _ [33, 7, 15, 16, 17, 11, 18, 13, 14, 39, 40, 41, 42, 43, 44, 45, 46, 47, 48, 49, 50, 51, 52, 53, 54, 55, 56, 57, 58, 59, 60, 61, 62, 63, 64, 65, 66, 67, 68, 69, 70, 71, 72, 73, 74, 75, 76, 77, 78] (by decide +kernel) (by decide +kernel)
set_option maxRecDepth 20000 in
theorem gX9_rule__X9_takes : GoodIn wsX9_rule_ (wsV RX9 292 RX9 yX9_takes wsX9_takes) := goodIn_app (goodIn_of _ (by decide +kernel)) ggX9_rule__X9_takes
set_option maxRecDepth 20000 in
theorem ggX9_rule__X9_here : GoodIn wsX9_rule_ wsX9_here := goodIn_r _ [18, 7, 13, 14, 39, 40, 41, 42, 43, 44, 45, 46, 47, 48, 49, 50, 51, 52, 53, 54, 55, 56, 57, 58, 59, 60, 61, 62, 63, 64, 65, 66, 67, 68, 69, 70, 71, 72, 73, 74, 75, 76, 77, 78] (by decide +kernel) (by decide +kernel)
set_option maxRecDepth 20000 in
theorem gX9_rule__X9_here : GoodIn wsX9_rule_ (wsV RX9 289 RX9 yX9_here wsX9_here) := goodIn_app (goodIn_of _ (by decide +kernel)) ggX9_rule__X9_here
set_option maxRecDepth 20000 in
theorem ggX9_rule__X9_in : GoodIn wsX9_rule_ wsX9_in := goodIn_r _ [21] (by decide +kernel) (by decide +kernel)
set_option maxRecDepth 20000 in
theorem gX9_rule__X9_in : GoodIn wsX9_rule_ (va_wsS RX9 73 yX9_in wsX9_in) := goodIn_app (goodIn_of _ (by decide +kernel)) ggX9_rule__X9_in
theorem dX9_rule__0 : decode cX9_rule_ 0 = .ok (.aload_n 0, 1) := by decide +kernel
theorem dX9_rule__1 : decode cX9_rule_ 1 = .ok (.iconst 1, 1) := by decide +kernel
theorem dX9_rule__2 : decode cX9_rule_ 2 = .ok (.putfield 302, 3) := by decide +kernel
theorem dX9_rule__5 : decode cX9_rule_ 5 = .ok (.aload_n 0, 1) := by decide +kernel
theorem dX9_rule__6 : decode cX9_rule_ 6 = .ok (.iconst 0, 1) := by decide +kernel
theorem dX9_rule__7 : decode cX9_rule_ 7 = .ok (.putfield 317, 3) := by decide +kernel
theorem dX9_rule__10 : decode cX9_rule_ 10 = .ok (.aload_n 0, 1) := by decide +kernel
theorem dX9_rule__11 : decode cX9_rule_ 11 = .ok (.iconst 0, 1) := by decide +kernel
theorem dX9_rule__12 : decode cX9_rule_ 12 = .ok (.putfield 320, 3) := by decide +kernel
theorem dX9_rule__15 : decode cX9_rule_ 15 = .ok (.aload_n 0, 1) := by decide +kernel
theorem dX9_rule__16 : decode cX9_rule_ 16 = .ok (.iconst 0, 1) := by decide +kernel
theorem dX9_rule__17 : decode cX9_rule_ 17 = .ok (.putfield 323, 3) := by decide +kernel
theorem dX9_rule__20 : decode cX9_rule_ 20 = .ok (.aload_n 0, 1) := by decide +kernel
theorem dX9_rule__21 : decode cX9_rule_ 21 = .ok (.invokevirtual 326, 3) := by decide +kernel
theorem dX9_rule__24 : decode cX9_rule_ 24 = .ok (.ifCond .eq 20, 3) := by decide +kernel
theorem dX9_rule__27 : decode cX9_rule_ 27 = .ok (.aload_n 0, 1) := by decide +kernel
theorem dX9_rule__28 : decode cX9_rule_ 28 = .ok (.invokevirtual 329, 3) := by decide +kernel
theorem dX9_rule__31 : decode cX9_rule_ 31 = .ok (.ifCond .ne 5, 3) := by decide +kernel
theorem dX9_rule__34 : decode cX9_rule_ 34 = .ok (.iconst 0, 1) := by decide +kernel
theorem dX9_rule__35 : decode cX9_rule_ 35 = .ok (.ireturn, 1) := by decide +kernel
theorem dX9_rule__36 : decode cX9_rule_ 36 = .ok (.aload_n 0, 1) := by decide +kernel
theorem dX9_rule__37 : decode cX9_rule_ 37 = .ok (.aload_n 0, 1) := by decide +kernel
theorem dX9_rule__38 : decode cX9_rule_ 38 = .ok (.getfield 295, 3) := by decide +kernel
theorem dX9_rule__41 : decode cX9_rule_ 41 = .ok (.putfield 317, 3) := by decide +kernel
theorem dX9_rule__44 : decode cX9_rule_ 44 = .ok (.aload_n 0, 1) := by decide +kernel
theorem dX9_rule__45 : decode cX9_rule_ 45 = .ok (.invokevirtual 332, 3) := by decide +kernel
theorem dX9_rule__48 : decode cX9_rule_ 48 = .ok (.ifCond .eq 10, 3) := by decide +kernel
theorem dX9_rule__51 : decode cX9_rule_ 51 = .ok (.aload_n 0, 1) := by decide +kernel
theorem dX9_rule__52 : decode cX9_rule_ 52 = .ok (.invokevirtual 298, 3) := by decide +kernel
theorem dX9_rule__55 : decode cX9_rule_ 55 = .ok (.ifCond .ne 5, 3) := by decide +kernel
theorem dX9_rule__58 : decode cX9_rule_ 58 = .ok (.iconst 0, 1) := by decide +kernel
theorem dX9_rule__59 : decode cX9_rule_ 59 = .ok (.ireturn, 1) := by decide +kernel
theorem dX9_rule__60 : decode cX9_rule_ 60 = .ok (.aload_n 0, 1) := by decide +kernel
theorem dX9_rule__61 : decode cX9_rule_ 61 = .ok (.aload_n 0, 1) := by decide +kernel
theorem dX9_rule__62 : decode cX9_rule_ 62 = .ok (.getfield 295, 3) := by decide +kernel
theorem dX9_rule__65 : decode cX9_rule_ 65 = .ok (.putfield 335, 3) := by decide +kernel
theorem dX9_rule__68 : decode cX9_rule_ 68 = .ok (.aload_n 0, 1) := by decide +kernel
theorem dX9_rule__69 : decode cX9_rule_ 69 = .ok (.bipush 63, 2) := by decide +kernel
theorem dX9_rule__71 : decode cX9_rule_ 71 = .ok (.invokevirtual 292, 3) := by decide +kernel
theorem dX9_rule__74 : decode cX9_rule_ 74 = .ok (.ifCond .eq 20, 3) := by decide +kernel
theorem dX9_rule__77 : decode cX9_rule_ 77 = .ok (.aload_n 0, 1) := by decide +kernel
theorem dX9_rule__78 : decode cX9_rule_ 78 = .ok (.invokevirtual 329, 3) := by decide +kernel
theorem dX9_rule__81 : decode cX9_rule_ 81 = .ok (.ifCond .ne 5, 3) := by decide +kernel
theorem dX9_rule__84 : decode cX9_rule_ 84 = .ok (.iconst 0, 1) := by decide +kernel
theorem dX9_rule__85 : decode cX9_rule_ 85 = .ok (.ireturn, 1) := by decide +kernel
theorem dX9_rule__86 : decode cX9_rule_ 86 = .ok (.aload_n 0, 1) := by decide +kernel
theorem dX9_rule__87 : decode cX9_rule_ 87 = .ok (.aload_n 0, 1) := by decide +kernel
theorem dX9_rule__88 : decode cX9_rule_ 88 = .ok (.getfield 295, 3) := by decide +kernel
theorem dX9_rule__91 : decode cX9_rule_ 91 = .ok (.putfield 320, 3) := by decide +kernel
theorem dX9_rule__94 : decode cX9_rule_ 94 = .ok (.aload_n 0, 1) := by decide +kernel
theorem dX9_rule__95 : decode cX9_rule_ 95 = .ok (.bipush 42, 2) := by decide +kernel
theorem dX9_rule__97 : decode cX9_rule_ 97 = .ok (.invokevirtual 292, 3) := by decide +kernel
theorem dX9_rule__100 : decode cX9_rule_ 100 = .ok (.ifCond .eq 40, 3) := by decide +kernel
theorem dX9_rule__103 : decode cX9_rule_ 103 = .ok (.aload_n 0, 1) := by decide +kernel
theorem dX9_rule__104 : decode cX9_rule_ 104 = .ok (.invokevirtual 289, 3) := by decide +kernel
theorem dX9_rule__107 : decode cX9_rule_ 107 = .ok (.bipush 48, 2) := by decide +kernel
theorem dX9_rule__109 : decode cX9_rule_ 109 = .ok (.bipush 57, 2) := by decide +kernel
theorem dX9_rule__111 : decode cX9_rule_ 111 = .ok (.invokestatic 73, 3) := by decide +kernel
theorem dX9_rule__114 : decode cX9_rule_ 114 = .ok (.ifCond .ne 5, 3) := by decide +kernel
theorem dX9_rule__117 : decode cX9_rule_ 117 = .ok (.iconst 0, 1) := by decide +kernel
theorem dX9_rule__118 : decode cX9_rule_ 118 = .ok (.ireturn, 1) := by decide +kernel
theorem dX9_rule__119 : decode cX9_rule_ 119 = .ok (.aload_n 0, 1) := by decide +kernel
theorem dX9_rule__120 : decode cX9_rule_ 120 = .ok (.aload_n 0, 1) := by decide +kernel
theorem dX9_rule__121 : decode cX9_rule_ 121 = .ok (.invokevirtual 289, 3) := by decide +kernel
theorem dX9_rule__124 : decode cX9_rule_ 124 = .ok (.bipush 48, 2) := by decide +kernel
theorem dX9_rule__126 : decode cX9_rule_ 126 = .ok (.isub, 1) := by decide +kernel
theorem dX9_rule__127 : decode cX9_rule_ 127 = .ok (.putfield 323, 3) := by decide +kernel
theorem dX9_rule__130 : decode cX9_rule_ 130 = .ok (.aload_n 0, 1) := by decide +kernel
theorem dX9_rule__131 : decode cX9_rule_ 131 = .ok (.dup, 1) := by decide +kernel
theorem dX9_rule__132 : decode cX9_rule_ 132 = .ok (.getfield 286, 3) := by decide +kernel
theorem dX9_rule__135 : decode cX9_rule_ 135 = .ok (.iconst 1, 1) := by decide +kernel
theorem dX9_rule__136 : decode cX9_rule_ 136 = .ok (.iadd, 1) := by decide +kernel
theorem dX9_rule__137 : decode cX9_rule_ 137 = .ok (.putfield 286, 3) := by decide +kernel
theorem dX9_rule__140 : decode cX9_rule_ 140 = .ok (.iconst 1, 1) := by decide +kernel
theorem dX9_rule__141 : decode cX9_rule_ 141 = .ok (.ireturn, 1) := by decide +kernel
set_option maxRecDepth 20000 in
theorem ggX9_statement_X9_takes : GoodIn wsX9_statement wsX9_takes := goodIn_r _ [8, 9, 10, 11, 12, 7, 13, 14, 15, 53, 54, 55, 56, 57, 58, 59, 60, 61, 62, 63, 64, 65, 66, 67, 68, 69, 70, 71, 72, 73, 74, 75, 76, 77, 78, 79, 80, 81, 82, 83, 84, 85, 86, 87, 88, 89, 90, 91, 92] (by decide +kernel) (by decide +kernel)
set_option maxRecDepth 20000 in
theorem gX9_statement_X9_takes : GoodIn wsX9_statement (wsV RX9 292 RX9 yX9_takes wsX9_takes) := goodIn_app (goodIn_of _ (by decide +kernel)) ggX9_statement_X9_takes
set_option maxRecDepth 20000 in
theorem ggX9_statement_X9_literal : GoodIn wsX9_statement wsX9_literal := goodIn_r _ [19, 2, 9, 4, 5, 6, 7, 8, 10, 11, 12, 13, 14, 15, 20, 21, 22, 53, 54, 55, 56, 57, 58, 59, 60, 61, 62, 63, 64, 65, 66, 67, 68, 69, 70, 71, 72, 73, 74, 75, 76, 77, 78, 79, 80, 81, 82, 83, 84, 85, 86, 87, 88, 89, 90, 91, 92] (by decide +kernel) (by decide +kernel)
set_option maxRecDepth 20000 in
theorem gX9_statement_X9_literal : GoodIn wsX9_statement (wsV RX9 298 RX9 yX9_literal wsX9_literal) := goodIn_app (goodIn_of _ (by decide +kernel)) ggX9_statement_X9_literal
set_option maxRecDepth 20000 in
theorem ggX9_statement_X9_here : GoodIn wsX9_statement wsX9_here := goodIn_r _ [13, 9, 14, 15, 53, 54, 55, 56, 57, 58, 59, 60, 61, 62, 63, 64, 65, 66, 67, 68, 69, 70, 71, 72, 73, 74, 75, 76, 77, 78, 79, 80, 81, 82, 83, 84, 85, 86, 87, 88, 89, 90, 91, 92] (by decide +kernel) (by decide +kernel)
set_option maxRecDepth 20000 in
theorem gX9_statement_X9_here : GoodIn wsX9_statement (wsV RX9 289 RX9 yX9_here wsX9_here) := goodIn_app (goodIn_of _ (by decide +kernel)) ggX9_statement_X9_here
set_option maxRecDepth 20000 in
theorem ggX9_statement_X9_in : GoodIn wsX9_statement wsX9_in := goodIn_r _ [22] (by decide +kernel) (by decide +kernel)
set_option maxRecDepth 20000 in
theorem gX9_statement_X9_in : GoodIn wsX9_statement (va_wsS RX9 73 yX9_in wsX9_in) := goodIn_app (goodIn_of _ (by decide +kernel)) ggX9_statement_X9_in
set_option maxRecDepth 20000 in
theorem ggX9_statement_X9_pair : GoodIn wsX9_statement wsX9_pair := goodIn_r _ [26, 1, 2, 27, 28, 29, 30, 31, 7, 32, 9, 10, 11, 12, 13, 14, 15, 20, 21, 22, 4, 5, 6, 8, 53, 54, 55, 56, 57, 58, 59, 60, 61, 62, 63, 64, 65, 66, 67, 68, 69, 70, 71, 72, 73, 74, 75, 76, 77, 78, 79, 80, 81, 82, 83, 84, 85, 86, 87, 88, 89, 90, 91, 92] (by decide +kernel) (by decide +kernel)
set_option maxRecDepth 20000 in
theorem gX9_statement_X9_pair : GoodIn wsX9_statement (wsV RX9 338 RX9 yX9_pair wsX9_pair) := goodIn_app (goodIn_of _ (by decide +kernel)) ggX9_statement_X9_pair
set_option maxRecDepth 20000 in
theorem ggX9_statement_X9_rule_ : GoodIn wsX9_statement wsX9_rule_ := goodIn_r _ [36, 1, 37, 38, 39, 2, 3, 9, 40, 41, 42, 7, 43, 14, 15, 10, 11, 12, 13, 20, 21, 22, 44, 45, 46, 47, 16, 17, 18, 19, 4, 5, 6, 8, 48, 49, 50, 51, 52, 53, 54, 55, 56, 57, 58, 59, 60, 61, 62, 63, 64, 65, 66, 67, 68, 69, 70, 71, 72, 73, 74, 75, 76, 77, 78, 79, 80, 81, 82, 83, 84, 85, 86, 87, 88, 89, 90, 91, 92] (by decide +kernel) (by decide +kernel)
set_option maxRecDepth 20000 in
theorem gX9_statement_X9_rule_ : GoodIn wsX9_statement (wsV RX9 341 RX9 yX9_rule_ wsX9_rule_) := goodIn_app (goodIn_of _ (by decide +kernel)) ggX9_statement_X9_rule_
theorem dX9_statement_0 : decode cX9_statement 0 = .ok (.aload_n 0, 1) := by decide +kernel
theorem dX9_statement_1 : decode cX9_statement 1 = .ok (.bipush 33, 2) := by decide +kernel
theorem dX9_statement_3 : decode cX9_statement 3 = .ok (.invokevirtual 292, 3) := by decide +kernel
theorem dX9_statement_6 : decode cX9_statement 6 = .ok (.ifCond .eq 27, 3) := by decide +kernel
theorem dX9_statement_9 : decode cX9_statement 9 = .ok (.aload_n 0, 1) := by decide +kernel
theorem dX9_statement_10 : decode cX9_statement 10 = .ok (.iconst 0, 1) := by decide +kernel
theorem dX9_statement_11 : decode cX9_statement 11 = .ok (.putfield 302, 3) := by decide +kernel
theorem dX9_statement_14 : decode cX9_statement 14 = .ok (.aload_n 0, 1) := by decide +kernel
theorem dX9_statement_15 : decode cX9_statement 15 = .ok (.invokevirtual 298, 3) := by decide +kernel
theorem dX9_statement_18 : decode cX9_statement 18 = .ok (.ifCond .ne 5, 3) := by decide +kernel
theorem dX9_statement_21 : decode cX9_statement 21 = .ok (.iconst 0, 1) := by decide +kernel
theorem dX9_statement_22 : decode cX9_statement 22 = .ok (.ireturn, 1) := by decide +kernel
theorem dX9_statement_23 : decode cX9_statement 23 = .ok (.aload_n 0, 1) := by decide +kernel
theorem dX9_statement_24 : decode cX9_statement 24 = .ok (.aload_n 0, 1) := by decide +kernel
theorem dX9_statement_25 : decode cX9_statement 25 = .ok (.getfield 295, 3) := by decide +kernel
theorem dX9_statement_28 : decode cX9_statement 28 = .ok (.putfield 335, 3) := by decide +kernel
theorem dX9_statement_31 : decode cX9_statement 31 = .ok (.iconst 1, 1) := by decide +kernel
theorem dX9_statement_32 : decode cX9_statement 32 = .ok (.ireturn, 1) := by decide +kernel
theorem dX9_statement_33 : decode cX9_statement 33 = .ok (.aload_n 0, 1) := by decide +kernel
theorem dX9_statement_34 : decode cX9_statement 34 = .ok (.invokevirtual 289, 3) := by decide +kernel
theorem dX9_statement_37 : decode cX9_statement 37 = .ok (.bipush 48, 2) := by decide +kernel
theorem dX9_statement_39 : decode cX9_statement 39 = .ok (.bipush 57, 2) := by decide +kernel
theorem dX9_statement_41 : decode cX9_statement 41 = .ok (.invokestatic 73, 3) := by decide +kernel
theorem dX9_statement_44 : decode cX9_statement 44 = .ok (.ifCond .eq 10, 3) := by decide +kernel
theorem dX9_statement_47 : decode cX9_statement 47 = .ok (.aload_n 0, 1) := by decide +kernel
theorem dX9_statement_48 : decode cX9_statement 48 = .ok (.invokevirtual 338, 3) := by decide +kernel
theorem dX9_statement_51 : decode cX9_statement 51 = .ok (.goto 7, 3) := by decide +kernel
theorem dX9_statement_54 : decode cX9_statement 54 = .ok (.aload_n 0, 1) := by decide +kernel
theorem dX9_statement_55 : decode cX9_statement 55 = .ok (.invokevirtual 341, 3) := by decide +kernel
theorem dX9_statement_58 : decode cX9_statement 58 = .ok (.ireturn, 1) := by decide +kernel
set_option maxRecDepth 20000 in
theorem ggX9_isDone_X9_has : GoodIn wsX9_isDone wsX9_has := goodIn_r _ [14] (by decide +kernel) (by decide +kernel)
set_option maxRecDepth 20000 in
theorem gX9_isDone_X9_has : GoodIn wsX9_isDone (va_wsS RX9 122 yX9_has wsX9_has) := goodIn_app (goodIn_of _ (by decide +kernel)) ggX9_isDone_X9_has
set_option maxRecDepth 20000 in
theorem ggX9_isDone_X9_fact : GoodIn wsX9_isDone wsX9_fact := goodIn_r _ [18, 2, 19, 20, 13, 21, 22, 23, 24, 25, 26, 27, 28, 29, 30, 31, 32, 33, 34, 35, 36, 37, 38, 10, 39, 40, 41, 42, 43, 44, 45, 67, 68, 69, 70, 71, 72, 73, 74, 75, 76, 77, 78, 79, 80, 81, 82, 83, 84, 85, 86, 87, 88, 89, 90, 91, 92, 93, 94, 95, 96, 97, 98, 99, 100, 101, 102, 103, 104, 105, 106] (by decide +kernel) (by decide +kernel)
set_option maxRecDepth 20000 in
theorem gX9_isDone_X9_fact : GoodIn wsX9_isDone (wsV RX9 344 RX9 yX9_fact wsX9_fact) := goodIn_app (goodIn_of _ (by decide +kernel)) ggX9_isDone_X9_fact
set_option maxRecDepth 20000 in
theorem ggX9_isDone_X9_rule : GoodIn wsX9_isDone wsX9_rule := goodIn_r _ [49, 50, 36, 22, 23, 13, 24, 19, 20, 21, 51, 52, 53, 54, 55, 56, 57, 58, 38, 37, 10, 28, 29, 30, 31, 32, 33, 34, 35, 2, 39, 40, 41, 42, 43, 44, 45, 67, 68, 69, 70, 71, 72, 73, 74, 75, 76, 77, 78, 79, 80, 81, 82, 83, 84, 85, 86, 87, 88, 89, 90, 91, 92, 93, 94, 95, 96, 97, 98, 99, 100, 101, 102, 103, 104, 105, 106] (by decide +kernel) (by decide +kernel)
set_option maxRecDepth 20000 in
theorem gX9_isDone_X9_rule : GoodIn wsX9_isDone (wsV RX9 347 RX9 yX9_rule wsX9_rule) := goodIn_app (goodIn_of _ (by decide +kernel)) ggX9_isDone_X9_rule
set_option maxRecDepth 20000 in
theorem ggX9_isDone_X9_isRule : GoodIn wsX9_isDone wsX9_isRule := goodIn_r _ [62, 36, 22, 23, 13, 24, 67, 68, 69, 70, 71, 72, 73, 74, 75, 76, 77, 78, 79, 80, 81, 82, 83, 84, 85, 86, 87, 88, 89, 90, 91, 92, 93, 94, 95, 96, 97, 98, 99, 100, 101, 102, 103, 104, 105, 106] (by decide +kernel) (by decide +kernel)
set_option maxRecDepth 20000 in
theorem gX9_isDone_X9_isRule : GoodIn wsX9_isDone (wsV RX9 119 RX9 yX9_isRule wsX9_isRule) := goodIn_app (goodIn_of _ (by decide +kernel)) ggX9_isDone_X9_isRule
set_option maxRecDepth 20000 in
theorem ggX9_isDone_X9_over : GoodIn wsX9_isDone wsX9_over := goodIn_r _ [66, 10, 59, 60, 61, 13, 62, 36, 22, 23, 24, 25, 26, 27, 11, 12, 14, 28, 29, 30, 31, 32, 33, 34, 35, 2, 37, 38, 39, 40, 41, 42, 43, 44, 45, 67, 68, 69, 70, 71, 72, 73, 74, 75, 76, 77, 78, 79, 80, 81, 82, 83, 84, 85, 86, 87, 88, 89, 90, 91, 92, 93, 94, 95, 96, 97, 98, 99, 100, 101, 102, 103, 104, 105, 106] (by decide +kernel) (by decide +kernel)
set_option maxRecDepth 20000 in
theorem gX9_isDone_X9_over : GoodIn wsX9_isDone (wsV RX9 349 RX9 yX9_over wsX9_over) := goodIn_app (goodIn_of _ (by decide +kernel)) ggX9_isDone_X9_over
theorem dX9_isDone_0 : decode cX9_isDone 0 = .ok (.aload_n 0, 1) := by decide +kernel
theorem dX9_isDone_1 : decode cX9_isDone 1 = .ok (.getfield 302, 3) := by decide +kernel
theorem dX9_isDone_4 : decode cX9_isDone 4 = .ok (.ifCond .ne 35, 3) := by decide +kernel
theorem dX9_isDone_7 : decode cX9_isDone 7 = .ok (.aload_n 0, 1) := by decide +kernel
theorem dX9_isDone_8 : decode cX9_isDone 8 = .ok (.getfield 93, 3) := by decide +kernel
theorem dX9_isDone_11 : decode cX9_isDone 11 = .ok (.aload_n 0, 1) := by decide +kernel
theorem dX9_isDone_12 : decode cX9_isDone 12 = .ok (.getfield 335, 3) := by decide +kernel
theorem dX9_isDone_15 : decode cX9_isDone 15 = .ok (.invokestatic 122, 3) := by decide +kernel
theorem dX9_isDone_18 : decode cX9_isDone 18 = .ok (.ifCond .ne 19, 3) := by decide +kernel
theorem dX9_isDone_21 : decode cX9_isDone 21 = .ok (.aload_n 0, 1) := by decide +kernel
theorem dX9_isDone_22 : decode cX9_isDone 22 = .ok (.aload_n 0, 1) := by decide +kernel
theorem dX9_isDone_23 : decode cX9_isDone 23 = .ok (.getfield 335, 3) := by decide +kernel
theorem dX9_isDone_26 : decode cX9_isDone 26 = .ok (.iconst 1, 1) := by decide +kernel
theorem dX9_isDone_27 : decode cX9_isDone 27 = .ok (.invokevirtual 344, 3) := by decide +kernel
theorem dX9_isDone_30 : decode cX9_isDone 30 = .ok (.ifCond .ne 7, 3) := by decide +kernel
theorem dX9_isDone_33 : decode cX9_isDone 33 = .ok (.iconst 1, 1) := by decide +kernel
theorem dX9_isDone_34 : decode cX9_isDone 34 = .ok (.goto 4, 3) := by decide +kernel
theorem dX9_isDone_37 : decode cX9_isDone 37 = .ok (.iconst 0, 1) := by decide +kernel
theorem dX9_isDone_38 : decode cX9_isDone 38 = .ok (.ireturn, 1) := by decide +kernel
theorem dX9_isDone_39 : decode cX9_isDone 39 = .ok (.aload_n 0, 1) := by decide +kernel
theorem dX9_isDone_40 : decode cX9_isDone 40 = .ok (.getfield 302, 3) := by decide +kernel
theorem dX9_isDone_43 : decode cX9_isDone 43 = .ok (.iconst 1, 1) := by decide +kernel
theorem dX9_isDone_44 : decode cX9_isDone 44 = .ok (.if_icmp .ne 36, 3) := by decide +kernel
theorem dX9_isDone_47 : decode cX9_isDone 47 = .ok (.aload_n 0, 1) := by decide +kernel
theorem dX9_isDone_48 : decode cX9_isDone 48 = .ok (.aload_n 0, 1) := by decide +kernel
theorem dX9_isDone_49 : decode cX9_isDone 49 = .ok (.getfield 314, 3) := by decide +kernel
theorem dX9_isDone_52 : decode cX9_isDone 52 = .ok (.aload_n 0, 1) := by decide +kernel
theorem dX9_isDone_53 : decode cX9_isDone 53 = .ok (.getfield 335, 3) := by decide +kernel
theorem dX9_isDone_56 : decode cX9_isDone 56 = .ok (.aload_n 0, 1) := by decide +kernel
theorem dX9_isDone_57 : decode cX9_isDone 57 = .ok (.getfield 317, 3) := by decide +kernel
theorem dX9_isDone_60 : decode cX9_isDone 60 = .ok (.aload_n 0, 1) := by decide +kernel
theorem dX9_isDone_61 : decode cX9_isDone 61 = .ok (.getfield 320, 3) := by decide +kernel
theorem dX9_isDone_64 : decode cX9_isDone 64 = .ok (.aload_n 0, 1) := by decide +kernel
theorem dX9_isDone_65 : decode cX9_isDone 65 = .ok (.getfield 323, 3) := by decide +kernel
theorem dX9_isDone_68 : decode cX9_isDone 68 = .ok (.invokevirtual 347, 3) := by decide +kernel
theorem dX9_isDone_71 : decode cX9_isDone 71 = .ok (.ifCond .lt 7, 3) := by decide +kernel
theorem dX9_isDone_74 : decode cX9_isDone 74 = .ok (.iconst 1, 1) := by decide +kernel
theorem dX9_isDone_75 : decode cX9_isDone 75 = .ok (.goto 4, 3) := by decide +kernel
theorem dX9_isDone_78 : decode cX9_isDone 78 = .ok (.iconst 0, 1) := by decide +kernel
theorem dX9_isDone_79 : decode cX9_isDone 79 = .ok (.ireturn, 1) := by decide +kernel
theorem dX9_isDone_80 : decode cX9_isDone 80 = .ok (.aload_n 0, 1) := by decide +kernel
theorem dX9_isDone_81 : decode cX9_isDone 81 = .ok (.aload_n 0, 1) := by decide +kernel
theorem dX9_isDone_82 : decode cX9_isDone 82 = .ok (.getfield 308, 3) := by decide +kernel
theorem dX9_isDone_85 : decode cX9_isDone 85 = .ok (.invokevirtual 119, 3) := by decide +kernel
theorem dX9_isDone_88 : decode cX9_isDone 88 = .ok (.ifCond .eq 63, 3) := by decide +kernel
theorem dX9_isDone_91 : decode cX9_isDone 91 = .ok (.aload_n 0, 1) := by decide +kernel
theorem dX9_isDone_92 : decode cX9_isDone 92 = .ok (.aload_n 0, 1) := by decide +kernel
theorem dX9_isDone_93 : decode cX9_isDone 93 = .ok (.getfield 311, 3) := by decide +kernel
theorem dX9_isDone_96 : decode cX9_isDone 96 = .ok (.invokevirtual 119, 3) := by decide +kernel
theorem dX9_isDone_99 : decode cX9_isDone 99 = .ok (.ifCond .eq 52, 3) := by decide +kernel
theorem dX9_isDone_102 : decode cX9_isDone 102 = .ok (.aload_n 0, 1) := by decide +kernel
theorem dX9_isDone_103 : decode cX9_isDone 103 = .ok (.getfield 308, 3) := by decide +kernel
theorem dX9_isDone_106 : decode cX9_isDone 106 = .ok (.aload_n 0, 1) := by decide +kernel
theorem dX9_isDone_107 : decode cX9_isDone 107 = .ok (.getfield 311, 3) := by decide +kernel
theorem dX9_isDone_110 : decode cX9_isDone 110 = .ok (.if_icmp .eq 41, 3) := by decide +kernel
theorem dX9_isDone_113 : decode cX9_isDone 113 = .ok (.aload_n 0, 1) := by decide +kernel
theorem dX9_isDone_114 : decode cX9_isDone 114 = .ok (.getfield 28, 3) := by decide +kernel
theorem dX9_isDone_117 : decode cX9_isDone 117 = .ok (.aload_n 0, 1) := by decide +kernel
theorem dX9_isDone_118 : decode cX9_isDone 118 = .ok (.getfield 308, 3) := by decide +kernel
theorem dX9_isDone_121 : decode cX9_isDone 121 = .ok (.iaload, 1) := by decide +kernel
theorem dX9_isDone_122 : decode cX9_isDone 122 = .ok (.aload_n 0, 1) := by decide +kernel
theorem dX9_isDone_123 : decode cX9_isDone 123 = .ok (.getfield 311, 3) := by decide +kernel
theorem dX9_isDone_126 : decode cX9_isDone 126 = .ok (.invokestatic 122, 3) := by decide +kernel
theorem dX9_isDone_129 : decode cX9_isDone 129 = .ok (.ifCond .ne 22, 3) := by decide +kernel
theorem dX9_isDone_132 : decode cX9_isDone 132 = .ok (.aload_n 0, 1) := by decide +kernel
theorem dX9_isDone_133 : decode cX9_isDone 133 = .ok (.getfield 28, 3) := by decide +kernel
theorem dX9_isDone_136 : decode cX9_isDone 136 = .ok (.aload_n 0, 1) := by decide +kernel
theorem dX9_isDone_137 : decode cX9_isDone 137 = .ok (.getfield 311, 3) := by decide +kernel
theorem dX9_isDone_140 : decode cX9_isDone 140 = .ok (.iaload, 1) := by decide +kernel
theorem dX9_isDone_141 : decode cX9_isDone 141 = .ok (.aload_n 0, 1) := by decide +kernel
theorem dX9_isDone_142 : decode cX9_isDone 142 = .ok (.getfield 308, 3) := by decide +kernel
theorem dX9_isDone_145 : decode cX9_isDone 145 = .ok (.invokestatic 122, 3) := by decide +kernel
theorem dX9_isDone_148 : decode cX9_isDone 148 = .ok (.ifCond .eq 5, 3) := by decide +kernel
theorem dX9_isDone_151 : decode cX9_isDone 151 = .ok (.iconst 0, 1) := by decide +kernel
theorem dX9_isDone_152 : decode cX9_isDone 152 = .ok (.ireturn, 1) := by decide +kernel
theorem dX9_isDone_153 : decode cX9_isDone 153 = .ok (.aload_n 0, 1) := by decide +kernel
theorem dX9_isDone_154 : decode cX9_isDone 154 = .ok (.aload_n 0, 1) := by decide +kernel
theorem dX9_isDone_155 : decode cX9_isDone 155 = .ok (.getfield 308, 3) := by decide +kernel
theorem dX9_isDone_158 : decode cX9_isDone 158 = .ok (.aload_n 0, 1) := by decide +kernel
theorem dX9_isDone_159 : decode cX9_isDone 159 = .ok (.getfield 311, 3) := by decide +kernel
theorem dX9_isDone_162 : decode cX9_isDone 162 = .ok (.iconst 1, 1) := by decide +kernel
theorem dX9_isDone_163 : decode cX9_isDone 163 = .ok (.invokevirtual 349, 3) := by decide +kernel
theorem dX9_isDone_166 : decode cX9_isDone 166 = .ok (.pop, 1) := by decide +kernel
theorem dX9_isDone_167 : decode cX9_isDone 167 = .ok (.iconst 1, 1) := by decide +kernel
theorem dX9_isDone_168 : decode cX9_isDone 168 = .ok (.ireturn, 1) := by decide +kernel
set_option maxRecDepth 20000 in
theorem ggX9_isRead_X9_statement : GoodIn wsX9_isRead wsX9_statement := goodIn_r _ [7, 8, 9, 10, 11, 12, 13, 6, 14, 1, 15, 16, 17, 18, 2, 19, 20, 21, 22, 23, 24, 25, 26, 27, 28, 29, 30, 31, 32, 33, 34, 35, 36, 37, 38, 39, 40, 41, 42, 43, 44, 45, 46, 47, 48, 49, 50, 51, 52, 53, 54, 55, 56, 57, 58, 59, 60, 61, 62, 63, 64, 65, 66, 67, 68, 69, 70, 71, 72, 73, 74, 75, 76, 77, 78, 79, 80, 81, 82, 83, 84, 85, 86, 87, 88, 89, 90, 91, 92, 93, 94, 95, 96] (by decide +kernel) (by decide +kernel)
set_option maxRecDepth 20000 in
theorem gX9_isRead_X9_statement : GoodIn wsX9_isRead (wsV RX9 351 RX9 yX9_statement wsX9_statement) := goodIn_app (goodIn_of _ (by decide +kernel)) ggX9_isRead_X9_statement
set_option maxRecDepth 20000 in
theorem ggX9_isRead_X9_takes : GoodIn wsX9_isRead wsX9_takes := goodIn_r _ [14, 1, 15, 16, 17, 6, 18, 2, 19, 57, 58, 59, 60, 61, 62, 63, 64, 65, 66, 67, 68, 69, 70, 71, 72, 73, 74, 75, 76, 77, 78, 79, 80, 81, 82, 83, 84, 85, 86, 87, 88, 89, 90, 91, 92, 93, 94, 95, 96] (by decide +kernel) (by decide +kernel)
set_option maxRecDepth 20000 in
theorem gX9_isRead_X9_takes : GoodIn wsX9_isRead (wsV RX9 292 RX9 yX9_takes wsX9_takes) := goodIn_app (goodIn_of _ (by decide +kernel)) ggX9_isRead_X9_takes
theorem dX9_isRead_0 : decode cX9_isRead 0 = .ok (.aload_n 0, 1) := by decide +kernel
theorem dX9_isRead_1 : decode cX9_isRead 1 = .ok (.iconst 0, 1) := by decide +kernel
theorem dX9_isRead_2 : decode cX9_isRead 2 = .ok (.putfield 286, 3) := by decide +kernel
theorem dX9_isRead_5 : decode cX9_isRead 5 = .ok (.aload_n 0, 1) := by decide +kernel
theorem dX9_isRead_6 : decode cX9_isRead 6 = .ok (.invokevirtual 351, 3) := by decide +kernel
theorem dX9_isRead_9 : decode cX9_isRead 9 = .ok (.ifCond .ne 5, 3) := by decide +kernel
theorem dX9_isRead_12 : decode cX9_isRead 12 = .ok (.iconst 0, 1) := by decide +kernel
theorem dX9_isRead_13 : decode cX9_isRead 13 = .ok (.ireturn, 1) := by decide +kernel
theorem dX9_isRead_14 : decode cX9_isRead 14 = .ok (.aload_n 0, 1) := by decide +kernel
theorem dX9_isRead_15 : decode cX9_isRead 15 = .ok (.bipush 59, 2) := by decide +kernel
theorem dX9_isRead_17 : decode cX9_isRead 17 = .ok (.invokevirtual 292, 3) := by decide +kernel
theorem dX9_isRead_20 : decode cX9_isRead 20 = .ok (.ifCond .ne (-15), 3) := by decide +kernel
theorem dX9_isRead_23 : decode cX9_isRead 23 = .ok (.aload_n 0, 1) := by decide +kernel
theorem dX9_isRead_24 : decode cX9_isRead 24 = .ok (.getfield 286, 3) := by decide +kernel
theorem dX9_isRead_27 : decode cX9_isRead 27 = .ok (.aload_n 0, 1) := by decide +kernel
theorem dX9_isRead_28 : decode cX9_isRead 28 = .ok (.getfield 266, 3) := by decide +kernel
theorem dX9_isRead_31 : decode cX9_isRead 31 = .ok (.if_icmp .ne 7, 3) := by decide +kernel
theorem dX9_isRead_34 : decode cX9_isRead 34 = .ok (.iconst 1, 1) := by decide +kernel
theorem dX9_isRead_35 : decode cX9_isRead 35 = .ok (.goto 4, 3) := by decide +kernel
theorem dX9_isRead_38 : decode cX9_isRead 38 = .ok (.iconst 0, 1) := by decide +kernel
theorem dX9_isRead_39 : decode cX9_isRead 39 = .ok (.ireturn, 1) := by decide +kernel
set_option maxRecDepth 20000 in
theorem ggX9_readsAll_X9_isRead : GoodIn wsX9_readsAll wsX9_isRead := goodIn_r _ [11, 1, 12, 13, 14, 15, 10, 16, 17, 18, 19, 20, 21, 22, 23, 24, 25, 26, 27, 28, 29, 30, 31, 32, 33, 34, 35, 36, 37, 38, 39, 40, 41, 42, 43, 44, 45, 46, 47, 48, 49, 50, 51, 52, 53, 54, 55, 56, 57, 58, 59, 60, 61, 62, 63, 64, 65, 129, 130, 131, 132, 133, 134, 135, 136, 137, 138, 139, 140, 141, 142, 143, 144, 145, 146, 147, 148, 149, 150, 151, 152, 153, 154, 155, 156, 157, 158, 159, 160, 161, 162, 163, 164, 165, 166, 167, 168] (by decide +kernel) (by decide +kernel)
set_option maxRecDepth 20000 in
theorem gX9_readsAll_X9_isRead : GoodIn wsX9_readsAll (wsV RX9 354 RX9 yX9_isRead wsX9_isRead) := goodIn_app (goodIn_of _ (by decide +kernel)) ggX9_readsAll_X9_isRead
set_option maxRecDepth 20000 in
theorem ggX9_readsAll_X9_keeps : GoodIn wsX9_readsAll wsX9_keeps := goodIn_r _ [69, 70, 71, 72, 73, 74, 75, 76, 77, 78, 129, 130, 131, 132, 133, 134, 135, 136, 137, 138, 139, 140, 141, 142, 143, 144, 145, 146, 147, 148, 149, 150, 151, 152, 153, 154, 155, 156, 157, 158, 159, 160, 161, 162, 163, 164, 165, 166, 167, 168] (by decide +kernel) (by decide +kernel)
set_option maxRecDepth 20000 in
theorem gX9_readsAll_X9_keeps : GoodIn wsX9_readsAll (wsV RX9 357 RX9 yX9_keeps wsX9_keeps) := goodIn_app (goodIn_of _ (by decide +kernel)) ggX9_readsAll_X9_keeps
set_option maxRecDepth 20000 in
theorem ggX9_readsAll_X9_statement : GoodIn wsX9_readsAll wsX9_statement := goodIn_r _ [16, 17, 18, 19, 20, 21, 22, 10, 23, 1, 24, 25, 26, 27, 12, 28, 29, 30, 31, 32, 33, 34, 35, 36, 37, 38, 39, 40, 41, 42, 43, 44, 45, 46, 47, 48, 49, 50, 51, 52, 53, 54, 55, 56, 57, 58, 59, 60, 61, 62, 63, 64, 65, 129, 130, 131, 132, 133, 134, 135, 136, 137, 138, 139, 140, 141, 142, 143, 144, 145, 146, 147, 148, 149, 150, 151, 152, 153, 154, 155, 156, 157, 158, 159, 160, 161, 162, 163, 164, 165, 166, 167, 168] (by decide +kernel) (by decide +kernel)
set_option maxRecDepth 20000 in
theorem gX9_readsAll_X9_statement : GoodIn wsX9_readsAll (wsV RX9 351 RX9 yX9_statement wsX9_statement) := goodIn_app (goodIn_of _ (by decide +kernel)) ggX9_readsAll_X9_statement
set_option maxRecDepth 20000 in
theorem ggX9_readsAll_X9_isDone : GoodIn wsX9_readsAll wsX9_isDone := goodIn_r _ [82, 17, 77, 19, 65, 50, 51, 52, 40, 41, 76, 83, 84, 10, 85, 86, 87, 88, 89, 90, 91, 92, 33, 34, 35, 93, 94, 95, 96, 97, 98, 99, 100, 101, 102, 103, 78, 75, 74, 104, 105, 106, 107, 5, 4, 6, 108, 109, 110, 111, 112, 113, 114, 115, 116, 70, 71, 72, 73, 117, 118, 119, 120, 121, 122, 123, 124, 129, 130, 131, 132, 133, 134, 135, 136, 137, 138, 139, 140, 141, 142, 143, 144, 145, 146, 147, 148, 149, 150, 151, 152, 153, 154, 155, 156, 157, 158, 159, 160, 161, 162, 163, 164, 165, 166, 167, 168] (by decide +kernel) (by decide +kernel)
set_option maxRecDepth 20000 in
theorem gX9_readsAll_X9_isDone : GoodIn wsX9_readsAll (wsV RX9 361 RX9 yX9_isDone wsX9_isDone) := goodIn_app (goodIn_of _ (by decide +kernel)) ggX9_readsAll_X9_isDone
set_option maxRecDepth 20000 in
theorem ggX9_readsAll_X9_again : GoodIn wsX9_readsAll wsX9_again := goodIn_r _ [128, 70, 71, 72, 73, 74, 75, 76, 77, 78, 129, 130, 131, 132, 133, 134, 135, 136, 137, 138, 139, 140, 141, 142, 143, 144, 145, 146, 147, 148, 149, 150, 151, 152, 153, 154, 155, 156, 157, 158, 159, 160, 161, 162, 163, 164, 165, 166, 167, 168] (by decide +kernel) (by decide +kernel)
set_option maxRecDepth 20000 in
theorem gX9_readsAll_X9_again : GoodIn wsX9_readsAll (wsV RX9 364 RX9 yX9_again wsX9_again) := goodIn_app (goodIn_of _ (by decide +kernel)) ggX9_readsAll_X9_again
set_option maxRecDepth 20000 in
theorem ggX9_readsAll_X9_takes : GoodIn wsX9_readsAll wsX9_takes := goodIn_r _ [23, 1, 24, 25, 26, 10, 27, 12, 28, 129, 130, 131, 132, 133, 134, 135, 136, 137, 138, 139, 140, 141, 142, 143, 144, 145, 146, 147, 148, 149, 150, 151, 152, 153, 154, 155, 156, 157, 158, 159, 160, 161, 162, 163, 164, 165, 166, 167, 168] (by decide +kernel) (by decide +kernel)
set_option maxRecDepth 20000 in
theorem gX9_readsAll_X9_takes : GoodIn wsX9_readsAll (wsV RX9 292 RX9 yX9_takes wsX9_takes) := goodIn_app (goodIn_of _ (by decide +kernel)) ggX9_readsAll_X9_takes
theorem dX9_readsAll_0 : decode cX9_readsAll 0 = .ok (.aload_n 0, 1) := by decide +kernel
theorem dX9_readsAll_1 : decode cX9_readsAll 1 = .ok (.invokevirtual 354, 3) := by decide +kernel
theorem dX9_readsAll_4 : decode cX9_readsAll 4 = .ok (.ifCond .ne 12, 3) := by decide +kernel
theorem dX9_readsAll_7 : decode cX9_readsAll 7 = .ok (.sipush (-1000), 3) := by decide +kernel
theorem dX9_readsAll_10 : decode cX9_readsAll 10 = .ok (.aload_n 0, 1) := by decide +kernel
theorem dX9_readsAll_11 : decode cX9_readsAll 11 = .ok (.getfield 286, 3) := by decide +kernel
theorem dX9_readsAll_14 : decode cX9_readsAll 14 = .ok (.isub, 1) := by decide +kernel
theorem dX9_readsAll_15 : decode cX9_readsAll 15 = .ok (.ireturn, 1) := by decide +kernel
theorem dX9_readsAll_16 : decode cX9_readsAll 16 = .ok (.aload_n 0, 1) := by decide +kernel
theorem dX9_readsAll_17 : decode cX9_readsAll 17 = .ok (.aload_n 0, 1) := by decide +kernel
theorem dX9_readsAll_18 : decode cX9_readsAll 18 = .ok (.getfield 49, 3) := by decide +kernel
theorem dX9_readsAll_21 : decode cX9_readsAll 21 = .ok (.invokevirtual 357, 3) := by decide +kernel
theorem dX9_readsAll_24 : decode cX9_readsAll 24 = .ok (.iconst 0, 1) := by decide +kernel
theorem dX9_readsAll_25 : decode cX9_readsAll 25 = .ok (.istore_n 1, 1) := by decide +kernel
theorem dX9_readsAll_26 : decode cX9_readsAll 26 = .ok (.iload_n 1, 1) := by decide +kernel
theorem dX9_readsAll_27 : decode cX9_readsAll 27 = .ok (.bipush 60, 2) := by decide +kernel
theorem dX9_readsAll_29 : decode cX9_readsAll 29 = .ok (.if_icmp .ge 21, 3) := by decide +kernel
theorem dX9_readsAll_32 : decode cX9_readsAll 32 = .ok (.aload_n 0, 1) := by decide +kernel
theorem dX9_readsAll_33 : decode cX9_readsAll 33 = .ok (.getfield 52, 3) := by decide +kernel
theorem dX9_readsAll_36 : decode cX9_readsAll 36 = .ok (.iload_n 1, 1) := by decide +kernel
theorem dX9_readsAll_37 : decode cX9_readsAll 37 = .ok (.aload_n 0, 1) := by decide +kernel
theorem dX9_readsAll_38 : decode cX9_readsAll 38 = .ok (.getfield 31, 3) := by decide +kernel
theorem dX9_readsAll_41 : decode cX9_readsAll 41 = .ok (.iload_n 1, 1) := by decide +kernel
theorem dX9_readsAll_42 : decode cX9_readsAll 42 = .ok (.iaload, 1) := by decide +kernel
theorem dX9_readsAll_43 : decode cX9_readsAll 43 = .ok (.iastore, 1) := by decide +kernel
theorem dX9_readsAll_44 : decode cX9_readsAll 44 = .ok (.iinc 1 1, 3) := by decide +kernel
theorem dX9_readsAll_47 : decode cX9_readsAll 47 = .ok (.goto (-21), 3) := by decide +kernel
theorem dX9_readsAll_50 : decode cX9_readsAll 50 = .ok (.aload_n 0, 1) := by decide +kernel
theorem dX9_readsAll_51 : decode cX9_readsAll 51 = .ok (.getfield 87, 3) := by decide +kernel
theorem dX9_readsAll_54 : decode cX9_readsAll 54 = .ok (.istore_n 1, 1) := by decide +kernel
theorem dX9_readsAll_55 : decode cX9_readsAll 55 = .ok (.aload_n 0, 1) := by decide +kernel
theorem dX9_readsAll_56 : decode cX9_readsAll 56 = .ok (.getfield 90, 3) := by decide +kernel
theorem dX9_readsAll_59 : decode cX9_readsAll 59 = .ok (.istore_n 2, 1) := by decide +kernel
theorem dX9_readsAll_60 : decode cX9_readsAll 60 = .ok (.aload_n 0, 1) := by decide +kernel
theorem dX9_readsAll_61 : decode cX9_readsAll 61 = .ok (.iconst 0, 1) := by decide +kernel
theorem dX9_readsAll_62 : decode cX9_readsAll 62 = .ok (.putfield 286, 3) := by decide +kernel
theorem dX9_readsAll_65 : decode cX9_readsAll 65 = .ok (.iconst 0, 1) := by decide +kernel
theorem dX9_readsAll_66 : decode cX9_readsAll 66 = .ok (.istore_n 3, 1) := by decide +kernel
theorem dX9_readsAll_67 : decode cX9_readsAll 67 = .ok (.iconst 1, 1) := by decide +kernel
theorem dX9_readsAll_68 : decode cX9_readsAll 68 = .ok (.istore 4, 2) := by decide +kernel
theorem dX9_readsAll_70 : decode cX9_readsAll 70 = .ok (.iload 4, 2) := by decide +kernel
theorem dX9_readsAll_72 : decode cX9_readsAll 72 = .ok (.ifCond .eq 90, 3) := by decide +kernel
theorem dX9_readsAll_75 : decode cX9_readsAll 75 = .ok (.aload_n 0, 1) := by decide +kernel
theorem dX9_readsAll_76 : decode cX9_readsAll 76 = .ok (.getfield 286, 3) := by decide +kernel
theorem dX9_readsAll_79 : decode cX9_readsAll 79 = .ok (.istore 5, 2) := by decide +kernel
theorem dX9_readsAll_81 : decode cX9_readsAll 81 = .ok (.aload_n 0, 1) := by decide +kernel
theorem dX9_readsAll_82 : decode cX9_readsAll 82 = .ok (.invokevirtual 351, 3) := by decide +kernel
theorem dX9_readsAll_85 : decode cX9_readsAll 85 = .ok (.pop, 1) := by decide +kernel
theorem dX9_readsAll_86 : decode cX9_readsAll 86 = .ok (.aload_n 0, 1) := by decide +kernel
theorem dX9_readsAll_87 : decode cX9_readsAll 87 = .ok (.invokevirtual 361, 3) := by decide +kernel
theorem dX9_readsAll_90 : decode cX9_readsAll 90 = .ok (.ifCond .ne 58, 3) := by decide +kernel
theorem dX9_readsAll_93 : decode cX9_readsAll 93 = .ok (.aload_n 0, 1) := by decide +kernel
theorem dX9_readsAll_94 : decode cX9_readsAll 94 = .ok (.aload_n 0, 1) := by decide +kernel
theorem dX9_readsAll_95 : decode cX9_readsAll 95 = .ok (.getfield 49, 3) := by decide +kernel
theorem dX9_readsAll_98 : decode cX9_readsAll 98 = .ok (.invokevirtual 364, 3) := by decide +kernel
theorem dX9_readsAll_101 : decode cX9_readsAll 101 = .ok (.iconst 0, 1) := by decide +kernel
theorem dX9_readsAll_102 : decode cX9_readsAll 102 = .ok (.istore 6, 2) := by decide +kernel
theorem dX9_readsAll_104 : decode cX9_readsAll 104 = .ok (.iload 6, 2) := by decide +kernel
theorem dX9_readsAll_106 : decode cX9_readsAll 106 = .ok (.bipush 60, 2) := by decide +kernel
theorem dX9_readsAll_108 : decode cX9_readsAll 108 = .ok (.if_icmp .ge 23, 3) := by decide +kernel
theorem dX9_readsAll_111 : decode cX9_readsAll 111 = .ok (.aload_n 0, 1) := by decide +kernel
theorem dX9_readsAll_112 : decode cX9_readsAll 112 = .ok (.getfield 31, 3) := by decide +kernel
theorem dX9_readsAll_115 : decode cX9_readsAll 115 = .ok (.iload 6, 2) := by decide +kernel
theorem dX9_readsAll_117 : decode cX9_readsAll 117 = .ok (.aload_n 0, 1) := by decide +kernel
theorem dX9_readsAll_118 : decode cX9_readsAll 118 = .ok (.getfield 52, 3) := by decide +kernel
theorem dX9_readsAll_121 : decode cX9_readsAll 121 = .ok (.iload 6, 2) := by decide +kernel
theorem dX9_readsAll_123 : decode cX9_readsAll 123 = .ok (.iaload, 1) := by decide +kernel
theorem dX9_readsAll_124 : decode cX9_readsAll 124 = .ok (.iastore, 1) := by decide +kernel
theorem dX9_readsAll_125 : decode cX9_readsAll 125 = .ok (.iinc 6 1, 3) := by decide +kernel
theorem dX9_readsAll_128 : decode cX9_readsAll 128 = .ok (.goto (-24), 3) := by decide +kernel
theorem dX9_readsAll_131 : decode cX9_readsAll 131 = .ok (.aload_n 0, 1) := by decide +kernel
theorem dX9_readsAll_132 : decode cX9_readsAll 132 = .ok (.iload_n 1, 1) := by decide +kernel
theorem dX9_readsAll_133 : decode cX9_readsAll 133 = .ok (.putfield 87, 3) := by decide +kernel
theorem dX9_readsAll_136 : decode cX9_readsAll 136 = .ok (.aload_n 0, 1) := by decide +kernel
theorem dX9_readsAll_137 : decode cX9_readsAll 137 = .ok (.iload_n 2, 1) := by decide +kernel
theorem dX9_readsAll_138 : decode cX9_readsAll 138 = .ok (.putfield 90, 3) := by decide +kernel
theorem dX9_readsAll_141 : decode cX9_readsAll 141 = .ok (.sipush (-2000), 3) := by decide +kernel
theorem dX9_readsAll_144 : decode cX9_readsAll 144 = .ok (.iload 5, 2) := by decide +kernel
theorem dX9_readsAll_146 : decode cX9_readsAll 146 = .ok (.isub, 1) := by decide +kernel
theorem dX9_readsAll_147 : decode cX9_readsAll 147 = .ok (.ireturn, 1) := by decide +kernel
theorem dX9_readsAll_148 : decode cX9_readsAll 148 = .ok (.iinc 3 1, 3) := by decide +kernel
theorem dX9_readsAll_151 : decode cX9_readsAll 151 = .ok (.aload_n 0, 1) := by decide +kernel
theorem dX9_readsAll_152 : decode cX9_readsAll 152 = .ok (.bipush 59, 2) := by decide +kernel
theorem dX9_readsAll_154 : decode cX9_readsAll 154 = .ok (.invokevirtual 292, 3) := by decide +kernel
theorem dX9_readsAll_157 : decode cX9_readsAll 157 = .ok (.istore 4, 2) := by decide +kernel
theorem dX9_readsAll_159 : decode cX9_readsAll 159 = .ok (.goto (-89), 3) := by decide +kernel
theorem dX9_readsAll_162 : decode cX9_readsAll 162 = .ok (.iload_n 3, 1) := by decide +kernel
theorem dX9_readsAll_163 : decode cX9_readsAll 163 = .ok (.ireturn, 1) := by decide +kernel
set_option maxRecDepth 20000 in
theorem ggX9_reads_X9_readsAll : GoodIn wsX9_reads wsX9_readsAll := goodIn_r _ [6, 7, 8, 9, 10, 11, 12, 13, 14, 15, 5, 16, 1, 17, 18, 19, 20, 21, 22, 23, 24, 25, 26, 27, 28, 29, 30, 31, 32, 33, 34, 35, 36, 37, 38, 39, 40, 41, 42, 43, 44, 45, 46, 47, 48, 49, 50, 51, 52, 53, 54, 55, 56, 57, 58, 59, 60, 61, 62, 63, 64, 65, 66, 67, 68, 69, 70, 71, 72, 73, 74, 75, 76, 77, 78, 79, 80, 81, 82, 83, 84, 85, 86, 87, 88, 89, 90, 91, 92, 93, 94, 95, 96, 97, 98, 99, 100, 101, 102, 103, 104, 105, 106, 107, 108, 109, 110, 111, 112, 113, 114, 115, 116, 117, 118, 119, 120, 121, 122, 123, 124, 125, 126, 127, 128, 129, 130, 131, 132, 133, 134, 135, 136, 137, 138, 139, 140, 141, 142, 143, 144, 145, 146, 147, 148, 149, 150, 151, 152, 153, 154, 155, 156, 157, 158, 159, 160, 161, 162, 163, 164, 165, 166, 167, 168, 169, 170, 171, 172] (by decide +kernel) (by decide +kernel)
set_option maxRecDepth 20000 in
theorem gX9_reads_X9_readsAll : GoodIn wsX9_reads (wsV RX9 367 RX9 yX9_readsAll wsX9_readsAll) := goodIn_app (goodIn_of _ (by decide +kernel)) ggX9_reads_X9_readsAll
theorem dX9_reads_0 : decode cX9_reads 0 = .ok (.aload_n 0, 1) := by decide +kernel
theorem dX9_reads_1 : decode cX9_reads 1 = .ok (.invokevirtual 367, 3) := by decide +kernel
theorem dX9_reads_4 : decode cX9_reads 4 = .ok (.istore_n 1, 1) := by decide +kernel
theorem dX9_reads_5 : decode cX9_reads 5 = .ok (.aload_n 0, 1) := by decide +kernel
theorem dX9_reads_6 : decode cX9_reads 6 = .ok (.iconst 0, 1) := by decide +kernel
theorem dX9_reads_7 : decode cX9_reads 7 = .ok (.putfield 266, 3) := by decide +kernel
theorem dX9_reads_10 : decode cX9_reads 10 = .ok (.iload_n 1, 1) := by decide +kernel
theorem dX9_reads_11 : decode cX9_reads 11 = .ok (.ireturn, 1) := by decide +kernel
theorem dX9_keeps_0 : decode cX9_keeps 0 = .ok (.iconst 0, 1) := by decide +kernel
theorem dX9_keeps_1 : decode cX9_keeps 1 = .ok (.istore_n 2, 1) := by decide +kernel
theorem dX9_keeps_2 : decode cX9_keeps 2 = .ok (.iload_n 2, 1) := by decide +kernel
theorem dX9_keeps_3 : decode cX9_keeps 3 = .ok (.bipush 16, 2) := by decide +kernel
theorem dX9_keeps_5 : decode cX9_keeps 5 = .ok (.if_icmp .ge 90, 3) := by decide +kernel
theorem dX9_keeps_8 : decode cX9_keeps 8 = .ok (.aload_n 1, 1) := by decide +kernel
theorem dX9_keeps_9 : decode cX9_keeps 9 = .ok (.iload_n 2, 1) := by decide +kernel
theorem dX9_keeps_10 : decode cX9_keeps 10 = .ok (.aload_n 0, 1) := by decide +kernel
theorem dX9_keeps_11 : decode cX9_keeps 11 = .ok (.getfield 7, 3) := by decide +kernel
theorem dX9_keeps_14 : decode cX9_keeps 14 = .ok (.iload_n 2, 1) := by decide +kernel
theorem dX9_keeps_15 : decode cX9_keeps 15 = .ok (.iaload, 1) := by decide +kernel
theorem dX9_keeps_16 : decode cX9_keeps 16 = .ok (.iastore, 1) := by decide +kernel
theorem dX9_keeps_17 : decode cX9_keeps 17 = .ok (.aload_n 1, 1) := by decide +kernel
theorem dX9_keeps_18 : decode cX9_keeps 18 = .ok (.bipush 16, 2) := by decide +kernel
theorem dX9_keeps_20 : decode cX9_keeps 20 = .ok (.iload_n 2, 1) := by decide +kernel
theorem dX9_keeps_21 : decode cX9_keeps 21 = .ok (.iadd, 1) := by decide +kernel
theorem dX9_keeps_22 : decode cX9_keeps 22 = .ok (.aload_n 0, 1) := by decide +kernel
theorem dX9_keeps_23 : decode cX9_keeps 23 = .ok (.getfield 13, 3) := by decide +kernel
theorem dX9_keeps_26 : decode cX9_keeps 26 = .ok (.iload_n 2, 1) := by decide +kernel
theorem dX9_keeps_27 : decode cX9_keeps 27 = .ok (.iaload, 1) := by decide +kernel
theorem dX9_keeps_28 : decode cX9_keeps 28 = .ok (.iastore, 1) := by decide +kernel
theorem dX9_keeps_29 : decode cX9_keeps 29 = .ok (.aload_n 1, 1) := by decide +kernel
theorem dX9_keeps_30 : decode cX9_keeps 30 = .ok (.bipush 32, 2) := by decide +kernel
theorem dX9_keeps_32 : decode cX9_keeps 32 = .ok (.iload_n 2, 1) := by decide +kernel
theorem dX9_keeps_33 : decode cX9_keeps 33 = .ok (.iadd, 1) := by decide +kernel
theorem dX9_keeps_34 : decode cX9_keeps 34 = .ok (.aload_n 0, 1) := by decide +kernel
theorem dX9_keeps_35 : decode cX9_keeps 35 = .ok (.getfield 16, 3) := by decide +kernel
theorem dX9_keeps_38 : decode cX9_keeps 38 = .ok (.iload_n 2, 1) := by decide +kernel
theorem dX9_keeps_39 : decode cX9_keeps 39 = .ok (.iaload, 1) := by decide +kernel
theorem dX9_keeps_40 : decode cX9_keeps 40 = .ok (.iastore, 1) := by decide +kernel
theorem dX9_keeps_41 : decode cX9_keeps 41 = .ok (.aload_n 1, 1) := by decide +kernel
theorem dX9_keeps_42 : decode cX9_keeps 42 = .ok (.bipush 48, 2) := by decide +kernel
theorem dX9_keeps_44 : decode cX9_keeps 44 = .ok (.iload_n 2, 1) := by decide +kernel
theorem dX9_keeps_45 : decode cX9_keeps 45 = .ok (.iadd, 1) := by decide +kernel
theorem dX9_keeps_46 : decode cX9_keeps 46 = .ok (.aload_n 0, 1) := by decide +kernel
theorem dX9_keeps_47 : decode cX9_keeps 47 = .ok (.getfield 19, 3) := by decide +kernel
theorem dX9_keeps_50 : decode cX9_keeps 50 = .ok (.iload_n 2, 1) := by decide +kernel
theorem dX9_keeps_51 : decode cX9_keeps 51 = .ok (.iaload, 1) := by decide +kernel
theorem dX9_keeps_52 : decode cX9_keeps 52 = .ok (.iastore, 1) := by decide +kernel
theorem dX9_keeps_53 : decode cX9_keeps 53 = .ok (.aload_n 1, 1) := by decide +kernel
theorem dX9_keeps_54 : decode cX9_keeps 54 = .ok (.bipush 64, 2) := by decide +kernel
theorem dX9_keeps_56 : decode cX9_keeps 56 = .ok (.iload_n 2, 1) := by decide +kernel
theorem dX9_keeps_57 : decode cX9_keeps 57 = .ok (.iadd, 1) := by decide +kernel
theorem dX9_keeps_58 : decode cX9_keeps 58 = .ok (.aload_n 0, 1) := by decide +kernel
theorem dX9_keeps_59 : decode cX9_keeps 59 = .ok (.getfield 22, 3) := by decide +kernel
theorem dX9_keeps_62 : decode cX9_keeps 62 = .ok (.iload_n 2, 1) := by decide +kernel
theorem dX9_keeps_63 : decode cX9_keeps 63 = .ok (.iaload, 1) := by decide +kernel
theorem dX9_keeps_64 : decode cX9_keeps 64 = .ok (.iastore, 1) := by decide +kernel
theorem dX9_keeps_65 : decode cX9_keeps 65 = .ok (.aload_n 1, 1) := by decide +kernel
theorem dX9_keeps_66 : decode cX9_keeps 66 = .ok (.bipush 80, 2) := by decide +kernel
theorem dX9_keeps_68 : decode cX9_keeps 68 = .ok (.iload_n 2, 1) := by decide +kernel
theorem dX9_keeps_69 : decode cX9_keeps 69 = .ok (.iadd, 1) := by decide +kernel
theorem dX9_keeps_70 : decode cX9_keeps 70 = .ok (.aload_n 0, 1) := by decide +kernel
theorem dX9_keeps_71 : decode cX9_keeps 71 = .ok (.getfield 25, 3) := by decide +kernel
theorem dX9_keeps_74 : decode cX9_keeps 74 = .ok (.iload_n 2, 1) := by decide +kernel
theorem dX9_keeps_75 : decode cX9_keeps 75 = .ok (.iaload, 1) := by decide +kernel
theorem dX9_keeps_76 : decode cX9_keeps 76 = .ok (.iastore, 1) := by decide +kernel
theorem dX9_keeps_77 : decode cX9_keeps 77 = .ok (.aload_n 1, 1) := by decide +kernel
theorem dX9_keeps_78 : decode cX9_keeps 78 = .ok (.bipush 96, 2) := by decide +kernel
theorem dX9_keeps_80 : decode cX9_keeps 80 = .ok (.iload_n 2, 1) := by decide +kernel
theorem dX9_keeps_81 : decode cX9_keeps 81 = .ok (.iadd, 1) := by decide +kernel
theorem dX9_keeps_82 : decode cX9_keeps 82 = .ok (.aload_n 0, 1) := by decide +kernel
theorem dX9_keeps_83 : decode cX9_keeps 83 = .ok (.getfield 28, 3) := by decide +kernel
theorem dX9_keeps_86 : decode cX9_keeps 86 = .ok (.iload_n 2, 1) := by decide +kernel
theorem dX9_keeps_87 : decode cX9_keeps 87 = .ok (.iaload, 1) := by decide +kernel
theorem dX9_keeps_88 : decode cX9_keeps 88 = .ok (.iastore, 1) := by decide +kernel
theorem dX9_keeps_89 : decode cX9_keeps 89 = .ok (.iinc 2 1, 3) := by decide +kernel
theorem dX9_keeps_92 : decode cX9_keeps 92 = .ok (.goto (-90), 3) := by decide +kernel
theorem dX9_keeps_95 : decode cX9_keeps 95 = .ok (.aload_n 1, 1) := by decide +kernel
theorem dX9_keeps_96 : decode cX9_keeps 96 = .ok (.bipush 112, 2) := by decide +kernel
theorem dX9_keeps_98 : decode cX9_keeps 98 = .ok (.aload_n 0, 1) := by decide +kernel
theorem dX9_keeps_99 : decode cX9_keeps 99 = .ok (.getfield 93, 3) := by decide +kernel
theorem dX9_keeps_102 : decode cX9_keeps 102 = .ok (.iastore, 1) := by decide +kernel
theorem dX9_keeps_103 : decode cX9_keeps 103 = .ok (.aload_n 1, 1) := by decide +kernel
theorem dX9_keeps_104 : decode cX9_keeps 104 = .ok (.bipush 113, 2) := by decide +kernel
theorem dX9_keeps_106 : decode cX9_keeps 106 = .ok (.aload_n 0, 1) := by decide +kernel
theorem dX9_keeps_107 : decode cX9_keeps 107 = .ok (.getfield 77, 3) := by decide +kernel
theorem dX9_keeps_110 : decode cX9_keeps 110 = .ok (.iastore, 1) := by decide +kernel
theorem dX9_keeps_111 : decode cX9_keeps 111 = .ok (.return_, 1) := by decide +kernel
theorem dX9_again_0 : decode cX9_again 0 = .ok (.iconst 0, 1) := by decide +kernel
theorem dX9_again_1 : decode cX9_again 1 = .ok (.istore_n 2, 1) := by decide +kernel
theorem dX9_again_2 : decode cX9_again 2 = .ok (.iload_n 2, 1) := by decide +kernel
theorem dX9_again_3 : decode cX9_again 3 = .ok (.bipush 16, 2) := by decide +kernel
theorem dX9_again_5 : decode cX9_again 5 = .ok (.if_icmp .ge 90, 3) := by decide +kernel
theorem dX9_again_8 : decode cX9_again 8 = .ok (.aload_n 0, 1) := by decide +kernel
theorem dX9_again_9 : decode cX9_again 9 = .ok (.getfield 7, 3) := by decide +kernel
theorem dX9_again_12 : decode cX9_again 12 = .ok (.iload_n 2, 1) := by decide +kernel
theorem dX9_again_13 : decode cX9_again 13 = .ok (.aload_n 1, 1) := by decide +kernel
theorem dX9_again_14 : decode cX9_again 14 = .ok (.iload_n 2, 1) := by decide +kernel
theorem dX9_again_15 : decode cX9_again 15 = .ok (.iaload, 1) := by decide +kernel
theorem dX9_again_16 : decode cX9_again 16 = .ok (.iastore, 1) := by decide +kernel
theorem dX9_again_17 : decode cX9_again 17 = .ok (.aload_n 0, 1) := by decide +kernel
theorem dX9_again_18 : decode cX9_again 18 = .ok (.getfield 13, 3) := by decide +kernel
theorem dX9_again_21 : decode cX9_again 21 = .ok (.iload_n 2, 1) := by decide +kernel
theorem dX9_again_22 : decode cX9_again 22 = .ok (.aload_n 1, 1) := by decide +kernel
theorem dX9_again_23 : decode cX9_again 23 = .ok (.bipush 16, 2) := by decide +kernel
theorem dX9_again_25 : decode cX9_again 25 = .ok (.iload_n 2, 1) := by decide +kernel
theorem dX9_again_26 : decode cX9_again 26 = .ok (.iadd, 1) := by decide +kernel
theorem dX9_again_27 : decode cX9_again 27 = .ok (.iaload, 1) := by decide +kernel
theorem dX9_again_28 : decode cX9_again 28 = .ok (.iastore, 1) := by decide +kernel
theorem dX9_again_29 : decode cX9_again 29 = .ok (.aload_n 0, 1) := by decide +kernel
theorem dX9_again_30 : decode cX9_again 30 = .ok (.getfield 16, 3) := by decide +kernel
theorem dX9_again_33 : decode cX9_again 33 = .ok (.iload_n 2, 1) := by decide +kernel
theorem dX9_again_34 : decode cX9_again 34 = .ok (.aload_n 1, 1) := by decide +kernel
theorem dX9_again_35 : decode cX9_again 35 = .ok (.bipush 32, 2) := by decide +kernel
theorem dX9_again_37 : decode cX9_again 37 = .ok (.iload_n 2, 1) := by decide +kernel
theorem dX9_again_38 : decode cX9_again 38 = .ok (.iadd, 1) := by decide +kernel
theorem dX9_again_39 : decode cX9_again 39 = .ok (.iaload, 1) := by decide +kernel
theorem dX9_again_40 : decode cX9_again 40 = .ok (.iastore, 1) := by decide +kernel
theorem dX9_again_41 : decode cX9_again 41 = .ok (.aload_n 0, 1) := by decide +kernel
theorem dX9_again_42 : decode cX9_again 42 = .ok (.getfield 19, 3) := by decide +kernel
theorem dX9_again_45 : decode cX9_again 45 = .ok (.iload_n 2, 1) := by decide +kernel
theorem dX9_again_46 : decode cX9_again 46 = .ok (.aload_n 1, 1) := by decide +kernel
theorem dX9_again_47 : decode cX9_again 47 = .ok (.bipush 48, 2) := by decide +kernel
theorem dX9_again_49 : decode cX9_again 49 = .ok (.iload_n 2, 1) := by decide +kernel
theorem dX9_again_50 : decode cX9_again 50 = .ok (.iadd, 1) := by decide +kernel
theorem dX9_again_51 : decode cX9_again 51 = .ok (.iaload, 1) := by decide +kernel
theorem dX9_again_52 : decode cX9_again 52 = .ok (.iastore, 1) := by decide +kernel
theorem dX9_again_53 : decode cX9_again 53 = .ok (.aload_n 0, 1) := by decide +kernel
theorem dX9_again_54 : decode cX9_again 54 = .ok (.getfield 22, 3) := by decide +kernel
theorem dX9_again_57 : decode cX9_again 57 = .ok (.iload_n 2, 1) := by decide +kernel
theorem dX9_again_58 : decode cX9_again 58 = .ok (.aload_n 1, 1) := by decide +kernel
theorem dX9_again_59 : decode cX9_again 59 = .ok (.bipush 64, 2) := by decide +kernel
theorem dX9_again_61 : decode cX9_again 61 = .ok (.iload_n 2, 1) := by decide +kernel
theorem dX9_again_62 : decode cX9_again 62 = .ok (.iadd, 1) := by decide +kernel
theorem dX9_again_63 : decode cX9_again 63 = .ok (.iaload, 1) := by decide +kernel
theorem dX9_again_64 : decode cX9_again 64 = .ok (.iastore, 1) := by decide +kernel
theorem dX9_again_65 : decode cX9_again 65 = .ok (.aload_n 0, 1) := by decide +kernel
theorem dX9_again_66 : decode cX9_again 66 = .ok (.getfield 25, 3) := by decide +kernel
theorem dX9_again_69 : decode cX9_again 69 = .ok (.iload_n 2, 1) := by decide +kernel
theorem dX9_again_70 : decode cX9_again 70 = .ok (.aload_n 1, 1) := by decide +kernel
theorem dX9_again_71 : decode cX9_again 71 = .ok (.bipush 80, 2) := by decide +kernel
theorem dX9_again_73 : decode cX9_again 73 = .ok (.iload_n 2, 1) := by decide +kernel
theorem dX9_again_74 : decode cX9_again 74 = .ok (.iadd, 1) := by decide +kernel
theorem dX9_again_75 : decode cX9_again 75 = .ok (.iaload, 1) := by decide +kernel
theorem dX9_again_76 : decode cX9_again 76 = .ok (.iastore, 1) := by decide +kernel
theorem dX9_again_77 : decode cX9_again 77 = .ok (.aload_n 0, 1) := by decide +kernel
theorem dX9_again_78 : decode cX9_again 78 = .ok (.getfield 28, 3) := by decide +kernel
theorem dX9_again_81 : decode cX9_again 81 = .ok (.iload_n 2, 1) := by decide +kernel
theorem dX9_again_82 : decode cX9_again 82 = .ok (.aload_n 1, 1) := by decide +kernel
theorem dX9_again_83 : decode cX9_again 83 = .ok (.bipush 96, 2) := by decide +kernel
theorem dX9_again_85 : decode cX9_again 85 = .ok (.iload_n 2, 1) := by decide +kernel
theorem dX9_again_86 : decode cX9_again 86 = .ok (.iadd, 1) := by decide +kernel
theorem dX9_again_87 : decode cX9_again 87 = .ok (.iaload, 1) := by decide +kernel
theorem dX9_again_88 : decode cX9_again 88 = .ok (.iastore, 1) := by decide +kernel
theorem dX9_again_89 : decode cX9_again 89 = .ok (.iinc 2 1, 3) := by decide +kernel
theorem dX9_again_92 : decode cX9_again 92 = .ok (.goto (-90), 3) := by decide +kernel
theorem dX9_again_95 : decode cX9_again 95 = .ok (.aload_n 0, 1) := by decide +kernel
theorem dX9_again_96 : decode cX9_again 96 = .ok (.aload_n 1, 1) := by decide +kernel
theorem dX9_again_97 : decode cX9_again 97 = .ok (.bipush 112, 2) := by decide +kernel
theorem dX9_again_99 : decode cX9_again 99 = .ok (.iaload, 1) := by decide +kernel
theorem dX9_again_100 : decode cX9_again 100 = .ok (.putfield 93, 3) := by decide +kernel
theorem dX9_again_103 : decode cX9_again 103 = .ok (.aload_n 0, 1) := by decide +kernel
theorem dX9_again_104 : decode cX9_again 104 = .ok (.aload_n 1, 1) := by decide +kernel
theorem dX9_again_105 : decode cX9_again 105 = .ok (.bipush 113, 2) := by decide +kernel
theorem dX9_again_107 : decode cX9_again 107 = .ok (.iaload, 1) := by decide +kernel
theorem dX9_again_108 : decode cX9_again 108 = .ok (.putfield 77, 3) := by decide +kernel
theorem dX9_again_111 : decode cX9_again 111 = .ok (.return_, 1) := by decide +kernel
set_option maxRecDepth 20000 in
theorem ggX9_image_X9_keeps : GoodIn wsX9_image wsX9_keeps := goodIn_r _ [8, 9, 10, 11, 12, 13, 14, 15, 16, 3, 17, 18, 19, 20, 21, 22, 23, 24, 25, 26, 27, 28, 29, 30, 31, 32, 33, 34, 35, 36, 37, 38, 39, 40, 41, 42, 43, 44, 45, 46, 47, 48, 49, 50, 51, 52, 53, 54, 55, 56] (by decide +kernel) (by decide +kernel)
set_option maxRecDepth 20000 in
theorem gX9_image_X9_keeps : GoodIn wsX9_image (wsV RX9 357 RX9 yX9_keeps wsX9_keeps) := goodIn_app (goodIn_of _ (by decide +kernel)) ggX9_image_X9_keeps
theorem dX9_image_0 : decode cX9_image 0 = .ok (.aload_n 0, 1) := by decide +kernel
theorem dX9_image_1 : decode cX9_image 1 = .ok (.iconst 1, 1) := by decide +kernel
theorem dX9_image_2 : decode cX9_image 2 = .ok (.putfield 370, 3) := by decide +kernel
theorem dX9_image_5 : decode cX9_image 5 = .ok (.aload_n 0, 1) := by decide +kernel
theorem dX9_image_6 : decode cX9_image 6 = .ok (.aload_n 0, 1) := by decide +kernel
theorem dX9_image_7 : decode cX9_image 7 = .ok (.getfield 46, 3) := by decide +kernel
theorem dX9_image_10 : decode cX9_image 10 = .ok (.invokevirtual 357, 3) := by decide +kernel
theorem dX9_image_13 : decode cX9_image 13 = .ok (.aload_n 0, 1) := by decide +kernel
theorem dX9_image_14 : decode cX9_image 14 = .ok (.getfield 77, 3) := by decide +kernel
theorem dX9_image_17 : decode cX9_image 17 = .ok (.ireturn, 1) := by decide +kernel
set_option maxRecDepth 20000 in
theorem ggX9_back_X9_again : GoodIn wsX9_back wsX9_again := goodIn_r _ [10, 11, 12, 13, 14, 15, 16, 17, 18, 5, 19, 20, 21, 22, 23, 24, 25, 26, 27, 28, 29, 30, 31, 32, 33, 34, 35, 36, 37, 38, 39, 40, 41, 42, 43, 44, 45, 46, 47, 48, 49, 50, 51, 52, 53, 54, 55, 56, 57, 58] (by decide +kernel) (by decide +kernel)
set_option maxRecDepth 20000 in
theorem gX9_back_X9_again : GoodIn wsX9_back (wsV RX9 364 RX9 yX9_again wsX9_again) := goodIn_app (goodIn_of _ (by decide +kernel)) ggX9_back_X9_again
theorem dX9_back_0 : decode cX9_back 0 = .ok (.aload_n 0, 1) := by decide +kernel
theorem dX9_back_1 : decode cX9_back 1 = .ok (.getfield 370, 3) := by decide +kernel
theorem dX9_back_4 : decode cX9_back 4 = .ok (.ifCond .ne 6, 3) := by decide +kernel
theorem dX9_back_7 : decode cX9_back 7 = .ok (.bipush (-5), 2) := by decide +kernel
theorem dX9_back_9 : decode cX9_back 9 = .ok (.ireturn, 1) := by decide +kernel
theorem dX9_back_10 : decode cX9_back 10 = .ok (.aload_n 0, 1) := by decide +kernel
theorem dX9_back_11 : decode cX9_back 11 = .ok (.aload_n 0, 1) := by decide +kernel
theorem dX9_back_12 : decode cX9_back 12 = .ok (.getfield 46, 3) := by decide +kernel
theorem dX9_back_15 : decode cX9_back 15 = .ok (.invokevirtual 364, 3) := by decide +kernel
theorem dX9_back_18 : decode cX9_back 18 = .ok (.aload_n 0, 1) := by decide +kernel
theorem dX9_back_19 : decode cX9_back 19 = .ok (.iconst 0, 1) := by decide +kernel
theorem dX9_back_20 : decode cX9_back 20 = .ok (.putfield 87, 3) := by decide +kernel
theorem dX9_back_23 : decode cX9_back 23 = .ok (.aload_n 0, 1) := by decide +kernel
theorem dX9_back_24 : decode cX9_back 24 = .ok (.iconst 0, 1) := by decide +kernel
theorem dX9_back_25 : decode cX9_back 25 = .ok (.putfield 90, 3) := by decide +kernel
theorem dX9_back_28 : decode cX9_back 28 = .ok (.aload_n 0, 1) := by decide +kernel
theorem dX9_back_29 : decode cX9_back 29 = .ok (.getfield 77, 3) := by decide +kernel
theorem dX9_back_32 : decode cX9_back 32 = .ok (.ireturn, 1) := by decide +kernel
theorem dJ6_numberOfTrailingZeros_0f7a4_0 : decode cJ6_numberOfTrailingZeros_0f7a4 0 = .ok (.iload_n 0, 1) := by decide +kernel
theorem dJ6_numberOfTrailingZeros_0f7a4_1 : decode cJ6_numberOfTrailingZeros_0f7a4 1 = .ok (.iconst (-1), 1) := by decide +kernel
theorem dJ6_numberOfTrailingZeros_0f7a4_2 : decode cJ6_numberOfTrailingZeros_0f7a4 2 = .ok (.ixor, 1) := by decide +kernel
theorem dJ6_numberOfTrailingZeros_0f7a4_3 : decode cJ6_numberOfTrailingZeros_0f7a4 3 = .ok (.iload_n 0, 1) := by decide +kernel
theorem dJ6_numberOfTrailingZeros_0f7a4_4 : decode cJ6_numberOfTrailingZeros_0f7a4 4 = .ok (.iconst 1, 1) := by decide +kernel
theorem dJ6_numberOfTrailingZeros_0f7a4_5 : decode cJ6_numberOfTrailingZeros_0f7a4 5 = .ok (.isub, 1) := by decide +kernel
theorem dJ6_numberOfTrailingZeros_0f7a4_6 : decode cJ6_numberOfTrailingZeros_0f7a4 6 = .ok (.iand, 1) := by decide +kernel
theorem dJ6_numberOfTrailingZeros_0f7a4_7 : decode cJ6_numberOfTrailingZeros_0f7a4 7 = .ok (.istore_n 0, 1) := by decide +kernel
theorem dJ6_numberOfTrailingZeros_0f7a4_8 : decode cJ6_numberOfTrailingZeros_0f7a4 8 = .ok (.iload_n 0, 1) := by decide +kernel
theorem dJ6_numberOfTrailingZeros_0f7a4_9 : decode cJ6_numberOfTrailingZeros_0f7a4 9 = .ok (.ifCond .gt 8, 3) := by decide +kernel
theorem dJ6_numberOfTrailingZeros_0f7a4_12 : decode cJ6_numberOfTrailingZeros_0f7a4 12 = .ok (.iload_n 0, 1) := by decide +kernel
theorem dJ6_numberOfTrailingZeros_0f7a4_13 : decode cJ6_numberOfTrailingZeros_0f7a4 13 = .ok (.bipush 32, 2) := by decide +kernel
theorem dJ6_numberOfTrailingZeros_0f7a4_15 : decode cJ6_numberOfTrailingZeros_0f7a4 15 = .ok (.iand, 1) := by decide +kernel
theorem dJ6_numberOfTrailingZeros_0f7a4_16 : decode cJ6_numberOfTrailingZeros_0f7a4 16 = .ok (.ireturn, 1) := by decide +kernel
theorem dJ6_numberOfTrailingZeros_0f7a4_17 : decode cJ6_numberOfTrailingZeros_0f7a4 17 = .ok (.iconst 1, 1) := by decide +kernel
theorem dJ6_numberOfTrailingZeros_0f7a4_18 : decode cJ6_numberOfTrailingZeros_0f7a4 18 = .ok (.istore_n 1, 1) := by decide +kernel
theorem dJ6_numberOfTrailingZeros_0f7a4_19 : decode cJ6_numberOfTrailingZeros_0f7a4 19 = .ok (.iload_n 0, 1) := by decide +kernel
theorem dJ6_numberOfTrailingZeros_0f7a4_20 : decode cJ6_numberOfTrailingZeros_0f7a4 20 = .ok (.ldc_w 264, 3) := by decide +kernel
theorem dJ6_numberOfTrailingZeros_0f7a4_23 : decode cJ6_numberOfTrailingZeros_0f7a4 23 = .ok (.if_icmp .le 11, 3) := by decide +kernel
theorem dJ6_numberOfTrailingZeros_0f7a4_26 : decode cJ6_numberOfTrailingZeros_0f7a4 26 = .ok (.iinc 1 16, 3) := by decide +kernel
theorem dJ6_numberOfTrailingZeros_0f7a4_29 : decode cJ6_numberOfTrailingZeros_0f7a4 29 = .ok (.iload_n 0, 1) := by decide +kernel
theorem dJ6_numberOfTrailingZeros_0f7a4_30 : decode cJ6_numberOfTrailingZeros_0f7a4 30 = .ok (.bipush 16, 2) := by decide +kernel
theorem dJ6_numberOfTrailingZeros_0f7a4_32 : decode cJ6_numberOfTrailingZeros_0f7a4 32 = .ok (.iushr, 1) := by decide +kernel
theorem dJ6_numberOfTrailingZeros_0f7a4_33 : decode cJ6_numberOfTrailingZeros_0f7a4 33 = .ok (.istore_n 0, 1) := by decide +kernel
theorem dJ6_numberOfTrailingZeros_0f7a4_34 : decode cJ6_numberOfTrailingZeros_0f7a4 34 = .ok (.iload_n 0, 1) := by decide +kernel
theorem dJ6_numberOfTrailingZeros_0f7a4_35 : decode cJ6_numberOfTrailingZeros_0f7a4 35 = .ok (.sipush 256, 3) := by decide +kernel
theorem dJ6_numberOfTrailingZeros_0f7a4_38 : decode cJ6_numberOfTrailingZeros_0f7a4 38 = .ok (.if_icmp .le 11, 3) := by decide +kernel
theorem dJ6_numberOfTrailingZeros_0f7a4_41 : decode cJ6_numberOfTrailingZeros_0f7a4 41 = .ok (.iinc 1 8, 3) := by decide +kernel
theorem dJ6_numberOfTrailingZeros_0f7a4_44 : decode cJ6_numberOfTrailingZeros_0f7a4 44 = .ok (.iload_n 0, 1) := by decide +kernel
theorem dJ6_numberOfTrailingZeros_0f7a4_45 : decode cJ6_numberOfTrailingZeros_0f7a4 45 = .ok (.bipush 8, 2) := by decide +kernel
theorem dJ6_numberOfTrailingZeros_0f7a4_47 : decode cJ6_numberOfTrailingZeros_0f7a4 47 = .ok (.iushr, 1) := by decide +kernel
theorem dJ6_numberOfTrailingZeros_0f7a4_48 : decode cJ6_numberOfTrailingZeros_0f7a4 48 = .ok (.istore_n 0, 1) := by decide +kernel
theorem dJ6_numberOfTrailingZeros_0f7a4_49 : decode cJ6_numberOfTrailingZeros_0f7a4 49 = .ok (.iload_n 0, 1) := by decide +kernel
theorem dJ6_numberOfTrailingZeros_0f7a4_50 : decode cJ6_numberOfTrailingZeros_0f7a4 50 = .ok (.bipush 16, 2) := by decide +kernel
theorem dJ6_numberOfTrailingZeros_0f7a4_52 : decode cJ6_numberOfTrailingZeros_0f7a4 52 = .ok (.if_icmp .le 10, 3) := by decide +kernel
theorem dJ6_numberOfTrailingZeros_0f7a4_55 : decode cJ6_numberOfTrailingZeros_0f7a4 55 = .ok (.iinc 1 4, 3) := by decide +kernel
theorem dJ6_numberOfTrailingZeros_0f7a4_58 : decode cJ6_numberOfTrailingZeros_0f7a4 58 = .ok (.iload_n 0, 1) := by decide +kernel
theorem dJ6_numberOfTrailingZeros_0f7a4_59 : decode cJ6_numberOfTrailingZeros_0f7a4 59 = .ok (.iconst 4, 1) := by decide +kernel
theorem dJ6_numberOfTrailingZeros_0f7a4_60 : decode cJ6_numberOfTrailingZeros_0f7a4 60 = .ok (.iushr, 1) := by decide +kernel
theorem dJ6_numberOfTrailingZeros_0f7a4_61 : decode cJ6_numberOfTrailingZeros_0f7a4 61 = .ok (.istore_n 0, 1) := by decide +kernel
theorem dJ6_numberOfTrailingZeros_0f7a4_62 : decode cJ6_numberOfTrailingZeros_0f7a4 62 = .ok (.iload_n 0, 1) := by decide +kernel
theorem dJ6_numberOfTrailingZeros_0f7a4_63 : decode cJ6_numberOfTrailingZeros_0f7a4 63 = .ok (.iconst 4, 1) := by decide +kernel
theorem dJ6_numberOfTrailingZeros_0f7a4_64 : decode cJ6_numberOfTrailingZeros_0f7a4 64 = .ok (.if_icmp .le 10, 3) := by decide +kernel
theorem dJ6_numberOfTrailingZeros_0f7a4_67 : decode cJ6_numberOfTrailingZeros_0f7a4 67 = .ok (.iinc 1 2, 3) := by decide +kernel
theorem dJ6_numberOfTrailingZeros_0f7a4_70 : decode cJ6_numberOfTrailingZeros_0f7a4 70 = .ok (.iload_n 0, 1) := by decide +kernel
theorem dJ6_numberOfTrailingZeros_0f7a4_71 : decode cJ6_numberOfTrailingZeros_0f7a4 71 = .ok (.iconst 2, 1) := by decide +kernel
theorem dJ6_numberOfTrailingZeros_0f7a4_72 : decode cJ6_numberOfTrailingZeros_0f7a4 72 = .ok (.iushr, 1) := by decide +kernel
theorem dJ6_numberOfTrailingZeros_0f7a4_73 : decode cJ6_numberOfTrailingZeros_0f7a4 73 = .ok (.istore_n 0, 1) := by decide +kernel
theorem dJ6_numberOfTrailingZeros_0f7a4_74 : decode cJ6_numberOfTrailingZeros_0f7a4 74 = .ok (.iload_n 1, 1) := by decide +kernel
theorem dJ6_numberOfTrailingZeros_0f7a4_75 : decode cJ6_numberOfTrailingZeros_0f7a4 75 = .ok (.iload_n 0, 1) := by decide +kernel
theorem dJ6_numberOfTrailingZeros_0f7a4_76 : decode cJ6_numberOfTrailingZeros_0f7a4 76 = .ok (.iconst 1, 1) := by decide +kernel
theorem dJ6_numberOfTrailingZeros_0f7a4_77 : decode cJ6_numberOfTrailingZeros_0f7a4 77 = .ok (.iushr, 1) := by decide +kernel
theorem dJ6_numberOfTrailingZeros_0f7a4_78 : decode cJ6_numberOfTrailingZeros_0f7a4 78 = .ok (.iadd, 1) := by decide +kernel
theorem dJ6_numberOfTrailingZeros_0f7a4_79 : decode cJ6_numberOfTrailingZeros_0f7a4 79 = .ok (.ireturn, 1) := by decide +kernel
theorem dJ6_bitCount_0f7a4_0 : decode cJ6_bitCount_0f7a4 0 = .ok (.iload_n 0, 1) := by decide +kernel
theorem dJ6_bitCount_0f7a4_1 : decode cJ6_bitCount_0f7a4 1 = .ok (.iload_n 0, 1) := by decide +kernel
theorem dJ6_bitCount_0f7a4_2 : decode cJ6_bitCount_0f7a4 2 = .ok (.iconst 1, 1) := by decide +kernel
theorem dJ6_bitCount_0f7a4_3 : decode cJ6_bitCount_0f7a4 3 = .ok (.iushr, 1) := by decide +kernel
theorem dJ6_bitCount_0f7a4_4 : decode cJ6_bitCount_0f7a4 4 = .ok (.ldc_w 265, 3) := by decide +kernel
theorem dJ6_bitCount_0f7a4_7 : decode cJ6_bitCount_0f7a4 7 = .ok (.iand, 1) := by decide +kernel
theorem dJ6_bitCount_0f7a4_8 : decode cJ6_bitCount_0f7a4 8 = .ok (.isub, 1) := by decide +kernel
theorem dJ6_bitCount_0f7a4_9 : decode cJ6_bitCount_0f7a4 9 = .ok (.istore_n 0, 1) := by decide +kernel
theorem dJ6_bitCount_0f7a4_10 : decode cJ6_bitCount_0f7a4 10 = .ok (.iload_n 0, 1) := by decide +kernel
theorem dJ6_bitCount_0f7a4_11 : decode cJ6_bitCount_0f7a4 11 = .ok (.ldc_w 266, 3) := by decide +kernel
theorem dJ6_bitCount_0f7a4_14 : decode cJ6_bitCount_0f7a4 14 = .ok (.iand, 1) := by decide +kernel
theorem dJ6_bitCount_0f7a4_15 : decode cJ6_bitCount_0f7a4 15 = .ok (.iload_n 0, 1) := by decide +kernel
theorem dJ6_bitCount_0f7a4_16 : decode cJ6_bitCount_0f7a4 16 = .ok (.iconst 2, 1) := by decide +kernel
theorem dJ6_bitCount_0f7a4_17 : decode cJ6_bitCount_0f7a4 17 = .ok (.iushr, 1) := by decide +kernel
theorem dJ6_bitCount_0f7a4_18 : decode cJ6_bitCount_0f7a4 18 = .ok (.ldc_w 266, 3) := by decide +kernel
theorem dJ6_bitCount_0f7a4_21 : decode cJ6_bitCount_0f7a4 21 = .ok (.iand, 1) := by decide +kernel
theorem dJ6_bitCount_0f7a4_22 : decode cJ6_bitCount_0f7a4 22 = .ok (.iadd, 1) := by decide +kernel
theorem dJ6_bitCount_0f7a4_23 : decode cJ6_bitCount_0f7a4 23 = .ok (.istore_n 0, 1) := by decide +kernel
theorem dJ6_bitCount_0f7a4_24 : decode cJ6_bitCount_0f7a4 24 = .ok (.iload_n 0, 1) := by decide +kernel
theorem dJ6_bitCount_0f7a4_25 : decode cJ6_bitCount_0f7a4 25 = .ok (.iload_n 0, 1) := by decide +kernel
theorem dJ6_bitCount_0f7a4_26 : decode cJ6_bitCount_0f7a4 26 = .ok (.iconst 4, 1) := by decide +kernel
theorem dJ6_bitCount_0f7a4_27 : decode cJ6_bitCount_0f7a4 27 = .ok (.iushr, 1) := by decide +kernel
theorem dJ6_bitCount_0f7a4_28 : decode cJ6_bitCount_0f7a4 28 = .ok (.iadd, 1) := by decide +kernel
theorem dJ6_bitCount_0f7a4_29 : decode cJ6_bitCount_0f7a4 29 = .ok (.ldc_w 267, 3) := by decide +kernel
theorem dJ6_bitCount_0f7a4_32 : decode cJ6_bitCount_0f7a4 32 = .ok (.iand, 1) := by decide +kernel
theorem dJ6_bitCount_0f7a4_33 : decode cJ6_bitCount_0f7a4 33 = .ok (.istore_n 0, 1) := by decide +kernel
theorem dJ6_bitCount_0f7a4_34 : decode cJ6_bitCount_0f7a4 34 = .ok (.iload_n 0, 1) := by decide +kernel
theorem dJ6_bitCount_0f7a4_35 : decode cJ6_bitCount_0f7a4 35 = .ok (.iload_n 0, 1) := by decide +kernel
theorem dJ6_bitCount_0f7a4_36 : decode cJ6_bitCount_0f7a4 36 = .ok (.bipush 8, 2) := by decide +kernel
theorem dJ6_bitCount_0f7a4_38 : decode cJ6_bitCount_0f7a4 38 = .ok (.iushr, 1) := by decide +kernel
theorem dJ6_bitCount_0f7a4_39 : decode cJ6_bitCount_0f7a4 39 = .ok (.iadd, 1) := by decide +kernel
theorem dJ6_bitCount_0f7a4_40 : decode cJ6_bitCount_0f7a4 40 = .ok (.istore_n 0, 1) := by decide +kernel
theorem dJ6_bitCount_0f7a4_41 : decode cJ6_bitCount_0f7a4 41 = .ok (.iload_n 0, 1) := by decide +kernel
theorem dJ6_bitCount_0f7a4_42 : decode cJ6_bitCount_0f7a4 42 = .ok (.iload_n 0, 1) := by decide +kernel
theorem dJ6_bitCount_0f7a4_43 : decode cJ6_bitCount_0f7a4 43 = .ok (.bipush 16, 2) := by decide +kernel
theorem dJ6_bitCount_0f7a4_45 : decode cJ6_bitCount_0f7a4 45 = .ok (.iushr, 1) := by decide +kernel
theorem dJ6_bitCount_0f7a4_46 : decode cJ6_bitCount_0f7a4 46 = .ok (.iadd, 1) := by decide +kernel
theorem dJ6_bitCount_0f7a4_47 : decode cJ6_bitCount_0f7a4 47 = .ok (.istore_n 0, 1) := by decide +kernel
theorem dJ6_bitCount_0f7a4_48 : decode cJ6_bitCount_0f7a4 48 = .ok (.iload_n 0, 1) := by decide +kernel
theorem dJ6_bitCount_0f7a4_49 : decode cJ6_bitCount_0f7a4 49 = .ok (.bipush 63, 2) := by decide +kernel
theorem dJ6_bitCount_0f7a4_51 : decode cJ6_bitCount_0f7a4 51 = .ok (.iand, 1) := by decide +kernel
theorem dJ6_bitCount_0f7a4_52 : decode cJ6_bitCount_0f7a4 52 = .ok (.ireturn, 1) := by decide +kernel
theorem dJ7_fill_53178_0 : decode cJ7_fill_53178 0 = .ok (.iconst 0, 1) := by decide +kernel
theorem dJ7_fill_53178_1 : decode cJ7_fill_53178 1 = .ok (.istore_n 2, 1) := by decide +kernel
theorem dJ7_fill_53178_2 : decode cJ7_fill_53178 2 = .ok (.aload_n 0, 1) := by decide +kernel
theorem dJ7_fill_53178_3 : decode cJ7_fill_53178 3 = .ok (.arraylength, 1) := by decide +kernel
theorem dJ7_fill_53178_4 : decode cJ7_fill_53178 4 = .ok (.istore_n 3, 1) := by decide +kernel
theorem dJ7_fill_53178_5 : decode cJ7_fill_53178 5 = .ok (.iload_n 2, 1) := by decide +kernel
theorem dJ7_fill_53178_6 : decode cJ7_fill_53178 6 = .ok (.iload_n 3, 1) := by decide +kernel
theorem dJ7_fill_53178_7 : decode cJ7_fill_53178 7 = .ok (.if_icmp .ge 13, 3) := by decide +kernel
theorem dJ7_fill_53178_10 : decode cJ7_fill_53178 10 = .ok (.aload_n 0, 1) := by decide +kernel
theorem dJ7_fill_53178_11 : decode cJ7_fill_53178 11 = .ok (.iload_n 2, 1) := by decide +kernel
theorem dJ7_fill_53178_12 : decode cJ7_fill_53178 12 = .ok (.iload_n 1, 1) := by decide +kernel
theorem dJ7_fill_53178_13 : decode cJ7_fill_53178 13 = .ok (.iastore, 1) := by decide +kernel
theorem dJ7_fill_53178_14 : decode cJ7_fill_53178 14 = .ok (.iinc 2 1, 3) := by decide +kernel
theorem dJ7_fill_53178_17 : decode cJ7_fill_53178 17 = .ok (.goto (-12), 3) := by decide +kernel
theorem dJ7_fill_53178_20 : decode cJ7_fill_53178 20 = .ok (.return_, 1) := by decide +kernel
