theorem dX9_least_29 : decode cX9_least 29 = .ok (.istore 5, 2) := by decide +kernel
theorem dX9_least_31 : decode cX9_least 31 = .ok (.iload 5, 2) := by decide +kernel
theorem dX9_least_33 : decode cX9_least 33 = .ok (.bipush 10, 2) := by decide +kernel
theorem dX9_least_35 : decode cX9_least 35 = .ok (.if_icmp .ge 42, 3) := by decide +kernel
theorem dX9_least_38 : decode cX9_least 38 = .ok (.iload 4, 2) := by decide +kernel
theorem dX9_least_40 : decode cX9_least 40 = .ok (.bipush (-2), 2) := by decide +kernel
theorem dX9_least_42 : decode cX9_least 42 = .ok (.if_icmp .ne 35, 3) := by decide +kernel
theorem dX9_least_45 : decode cX9_least 45 = .ok (.aload_n 0, 1) := by decide +kernel
theorem dX9_least_46 : decode cX9_least 46 = .ok (.getfield 22, 3) := by decide +kernel
theorem dX9_least_49 : decode cX9_least 49 = .ok (.iload_n 1, 1) := by decide +kernel
theorem dX9_least_50 : decode cX9_least 50 = .ok (.iload 5, 2) := by decide +kernel
theorem dX9_least_52 : decode cX9_least 52 = .ok (.iastore, 1) := by decide +kernel
theorem dX9_least_53 : decode cX9_least 53 = .ok (.aload_n 0, 1) := by decide +kernel
theorem dX9_least_54 : decode cX9_least 54 = .ok (.iload_n 2, 1) := by decide +kernel
theorem dX9_least_55 : decode cX9_least 55 = .ok (.iconst 2, 1) := by decide +kernel
theorem dX9_least_56 : decode cX9_least 56 = .ok (.invokevirtual 273, 3) := by decide +kernel
theorem dX9_least_59 : decode cX9_least 59 = .ok (.ifCond .eq 8, 3) := by decide +kernel
theorem dX9_least_62 : decode cX9_least 62 = .ok (.iload 5, 2) := by decide +kernel
theorem dX9_least_64 : decode cX9_least 64 = .ok (.goto 5, 3) := by decide +kernel
theorem dX9_least_67 : decode cX9_least 67 = .ok (.bipush (-2), 2) := by decide +kernel
theorem dX9_least_69 : decode cX9_least 69 = .ok (.istore 4, 2) := by decide +kernel
theorem dX9_least_71 : decode cX9_least 71 = .ok (.iinc 5 1, 3) := by decide +kernel
theorem dX9_least_74 : decode cX9_least 74 = .ok (.goto (-43), 3) := by decide +kernel
theorem dX9_least_77 : decode cX9_least 77 = .ok (.aload_n 0, 1) := by decide +kernel
theorem dX9_least_78 : decode cX9_least 78 = .ok (.getfield 22, 3) := by decide +kernel
theorem dX9_least_81 : decode cX9_least 81 = .ok (.iload_n 1, 1) := by decide +kernel
theorem dX9_least_82 : decode cX9_least 82 = .ok (.iload_n 3, 1) := by decide +kernel
theorem dX9_least_83 : decode cX9_least 83 = .ok (.iastore, 1) := by decide +kernel
theorem dX9_least_84 : decode cX9_least 84 = .ok (.iload 4, 2) := by decide +kernel
theorem dX9_least_86 : decode cX9_least 86 = .ok (.ireturn, 1) := by decide +kernel
set_option maxRecDepth 20000 in
theorem ggX9_lots_X9_isLiteral : GoodIn wsX9_lots wsX9_isLiteral := goodIn_r _ [8, 9, 10, 7, 11] (by decide +kernel) (by decide +kernel)
set_option maxRecDepth 20000 in
theorem gX9_lots_X9_isLiteral : GoodIn wsX9_lots (va_wsS RX9 104 yX9_isLiteral wsX9_isLiteral) := goodIn_app (goodIn_of _ (by decide +kernel)) ggX9_lots_X9_isLiteral
set_option maxRecDepth 20000 in
theorem ggX9_lots_X9_isTag : GoodIn wsX9_lots wsX9_isTag := goodIn_r _ [14, 9, 10, 7, 11] (by decide +kernel) (by decide +kernel)
set_option maxRecDepth 20000 in
theorem gX9_lots_X9_isTag : GoodIn wsX9_lots (va_wsS RX9 178 yX9_isTag wsX9_isTag) := goodIn_app (goodIn_of _ (by decide +kernel)) ggX9_lots_X9_isTag
set_option maxRecDepth 20000 in
theorem ggX9_lots_X9_in : GoodIn wsX9_lots wsX9_in := goodIn_r _ [11] (by decide +kernel) (by decide +kernel)
set_option maxRecDepth 20000 in
theorem gX9_lots_X9_in : GoodIn wsX9_lots (va_wsS RX9 73 yX9_in wsX9_in) := goodIn_app (goodIn_of _ (by decide +kernel)) ggX9_lots_X9_in
set_option maxRecDepth 20000 in
theorem ggX9_lots_X9_comes : GoodIn wsX9_lots wsX9_comes := goodIn_r _ [18, 19, 20, 21, 22, 7, 23, 24, 25, 26, 27, 28, 29, 30, 31, 32, 33, 34, 35, 36, 37, 1, 38, 39, 40, 41, 42, 43, 44, 45, 46, 47, 48, 49, 50, 51, 52, 53, 54, 55, 56, 57, 58, 59, 60, 61, 62, 63, 64, 65, 66, 67, 68, 69, 70, 71, 72, 73, 74, 75, 76, 77, 78, 79, 80, 81, 82, 83, 84, 85, 86, 87, 88, 89, 90, 91, 92, 93, 94, 95, 96, 97, 98, 99, 100, 101, 102, 103, 104, 105, 106, 107, 108, 109, 110, 111, 112, 113, 114, 115, 116, 117, 118, 119, 120, 121, 122, 123, 124, 125, 126, 127, 128, 129, 130, 131, 132, 133, 134, 135, 136] (by decide +kernel) (by decide +kernel)
set_option maxRecDepth 20000 in
theorem gX9_lots_X9_comes : GoodIn wsX9_lots (wsV RX9 273 RX9 yX9_comes wsX9_comes) := goodIn_app (goodIn_of _ (by decide +kernel)) ggX9_lots_X9_comes
theorem dX9_lots_0 : decode cX9_lots 0 = .ok (.iload_n 1, 1) := by decide +kernel
theorem dX9_lots_1 : decode cX9_lots 1 = .ok (.invokestatic 104, 3) := by decide +kernel
theorem dX9_lots_4 : decode cX9_lots 4 = .ok (.ifCond .eq 20, 3) := by decide +kernel
theorem dX9_lots_7 : decode cX9_lots 7 = .ok (.iload_n 2, 1) := by decide +kernel
theorem dX9_lots_8 : decode cX9_lots 8 = .ok (.invokestatic 178, 3) := by decide +kernel
theorem dX9_lots_11 : decode cX9_lots 11 = .ok (.ifCond .eq 13, 3) := by decide +kernel
theorem dX9_lots_14 : decode cX9_lots 14 = .ok (.iload_n 3, 1) := by decide +kernel
theorem dX9_lots_15 : decode cX9_lots 15 = .ok (.iconst 1, 1) := by decide +kernel
theorem dX9_lots_16 : decode cX9_lots 16 = .ok (.bipush 12, 2) := by decide +kernel
theorem dX9_lots_18 : decode cX9_lots 18 = .ok (.invokestatic 73, 3) := by decide +kernel
theorem dX9_lots_21 : decode cX9_lots 21 = .ok (.ifCond .ne 5, 3) := by decide +kernel
theorem dX9_lots_24 : decode cX9_lots 24 = .ok (.iconst (-1), 1) := by decide +kernel
theorem dX9_lots_25 : decode cX9_lots 25 = .ok (.ireturn, 1) := by decide +kernel
theorem dX9_lots_26 : decode cX9_lots 26 = .ok (.aload_n 0, 1) := by decide +kernel
theorem dX9_lots_27 : decode cX9_lots 27 = .ok (.getfield 93, 3) := by decide +kernel
theorem dX9_lots_30 : decode cX9_lots 30 = .ok (.istore 5, 2) := by decide +kernel
theorem dX9_lots_32 : decode cX9_lots 32 = .ok (.iload 4, 2) := by decide +kernel
theorem dX9_lots_34 : decode cX9_lots 34 = .ok (.istore 6, 2) := by decide +kernel
theorem dX9_lots_36 : decode cX9_lots 36 = .ok (.iconst 0, 1) := by decide +kernel
theorem dX9_lots_37 : decode cX9_lots 37 = .ok (.istore 7, 2) := by decide +kernel
theorem dX9_lots_39 : decode cX9_lots 39 = .ok (.iconst 0, 1) := by decide +kernel
theorem dX9_lots_40 : decode cX9_lots 40 = .ok (.istore 8, 2) := by decide +kernel
theorem dX9_lots_42 : decode cX9_lots 42 = .ok (.iload 8, 2) := by decide +kernel
theorem dX9_lots_44 : decode cX9_lots 44 = .ok (.iload_n 3, 1) := by decide +kernel
theorem dX9_lots_45 : decode cX9_lots 45 = .ok (.if_icmp .ge 113, 3) := by decide +kernel
theorem dX9_lots_48 : decode cX9_lots 48 = .ok (.aload_n 0, 1) := by decide +kernel
theorem dX9_lots_49 : decode cX9_lots 49 = .ok (.iconst 0, 1) := by decide +kernel
theorem dX9_lots_50 : decode cX9_lots 50 = .ok (.putfield 93, 3) := by decide +kernel
theorem dX9_lots_53 : decode cX9_lots 53 = .ok (.iconst 0, 1) := by decide +kernel
theorem dX9_lots_54 : decode cX9_lots 54 = .ok (.istore 9, 2) := by decide +kernel
theorem dX9_lots_56 : decode cX9_lots 56 = .ok (.iload 9, 2) := by decide +kernel
theorem dX9_lots_58 : decode cX9_lots 58 = .ok (.bipush 10, 2) := by decide +kernel
theorem dX9_lots_60 : decode cX9_lots 60 = .ok (.if_icmp .ge 73, 3) := by decide +kernel
theorem dX9_lots_63 : decode cX9_lots 63 = .ok (.iload 6, 2) := by decide +kernel
theorem dX9_lots_65 : decode cX9_lots 65 = .ok (.ldc_w 276, 3) := by decide +kernel
theorem dX9_lots_68 : decode cX9_lots 68 = .ok (.imul, 1) := by decide +kernel
theorem dX9_lots_69 : decode cX9_lots 69 = .ok (.sipush 12345, 3) := by decide +kernel
theorem dX9_lots_72 : decode cX9_lots 72 = .ok (.iadd, 1) := by decide +kernel
theorem dX9_lots_73 : decode cX9_lots 73 = .ok (.istore 6, 2) := by decide +kernel
theorem dX9_lots_75 : decode cX9_lots 75 = .ok (.iload 6, 2) := by decide +kernel
theorem dX9_lots_77 : decode cX9_lots 77 = .ok (.ldc_w 277, 3) := by decide +kernel
theorem dX9_lots_80 : decode cX9_lots 80 = .ok (.iand, 1) := by decide +kernel
theorem dX9_lots_81 : decode cX9_lots 81 = .ok (.ldc_w 278, 3) := by decide +kernel
theorem dX9_lots_84 : decode cX9_lots 84 = .ok (.idiv, 1) := by decide +kernel
theorem dX9_lots_85 : decode cX9_lots 85 = .ok (.iconst 3, 1) := by decide +kernel
theorem dX9_lots_86 : decode cX9_lots 86 = .ok (.irem, 1) := by decide +kernel
theorem dX9_lots_87 : decode cX9_lots 87 = .ok (.istore 10, 2) := by decide +kernel
theorem dX9_lots_89 : decode cX9_lots 89 = .ok (.aload_n 0, 1) := by decide +kernel
theorem dX9_lots_90 : decode cX9_lots 90 = .ok (.dup, 1) := by decide +kernel
theorem dX9_lots_91 : decode cX9_lots 91 = .ok (.getfield 93, 3) := by decide +kernel
theorem dX9_lots_94 : decode cX9_lots 94 = .ok (.iload 10, 2) := by decide +kernel
theorem dX9_lots_96 : decode cX9_lots 96 = .ok (.ifCond .ne 10, 3) := by decide +kernel
theorem dX9_lots_99 : decode cX9_lots 99 = .ok (.iconst 1, 1) := by decide +kernel
theorem dX9_lots_100 : decode cX9_lots 100 = .ok (.iload 9, 2) := by decide +kernel
theorem dX9_lots_102 : decode cX9_lots 102 = .ok (.ishl, 1) := by decide +kernel
theorem dX9_lots_103 : decode cX9_lots 103 = .ok (.goto 20, 3) := by decide +kernel
theorem dX9_lots_106 : decode cX9_lots 106 = .ok (.iload 10, 2) := by decide +kernel
theorem dX9_lots_108 : decode cX9_lots 108 = .ok (.iconst 1, 1) := by decide +kernel
theorem dX9_lots_109 : decode cX9_lots 109 = .ok (.if_icmp .ne 13, 3) := by decide +kernel
theorem dX9_lots_112 : decode cX9_lots 112 = .ok (.iconst 1, 1) := by decide +kernel
theorem dX9_lots_113 : decode cX9_lots 113 = .ok (.iload 9, 2) := by decide +kernel
theorem dX9_lots_115 : decode cX9_lots 115 = .ok (.bipush 10, 2) := by decide +kernel
theorem dX9_lots_117 : decode cX9_lots 117 = .ok (.iadd, 1) := by decide +kernel
theorem dX9_lots_118 : decode cX9_lots 118 = .ok (.ishl, 1) := by decide +kernel
theorem dX9_lots_119 : decode cX9_lots 119 = .ok (.goto 4, 3) := by decide +kernel
theorem dX9_lots_122 : decode cX9_lots 122 = .ok (.iconst 0, 1) := by decide +kernel
theorem dX9_lots_123 : decode cX9_lots 123 = .ok (.ior, 1) := by decide +kernel
theorem dX9_lots_124 : decode cX9_lots 124 = .ok (.putfield 93, 3) := by decide +kernel
theorem dX9_lots_127 : decode cX9_lots 127 = .ok (.iinc 9 1, 3) := by decide +kernel
theorem dX9_lots_130 : decode cX9_lots 130 = .ok (.goto (-74), 3) := by decide +kernel
theorem dX9_lots_133 : decode cX9_lots 133 = .ok (.iload 7, 2) := by decide +kernel
theorem dX9_lots_135 : decode cX9_lots 135 = .ok (.aload_n 0, 1) := by decide +kernel
theorem dX9_lots_136 : decode cX9_lots 136 = .ok (.iload_n 1, 1) := by decide +kernel
theorem dX9_lots_137 : decode cX9_lots 137 = .ok (.iload_n 2, 1) := by decide +kernel
theorem dX9_lots_138 : decode cX9_lots 138 = .ok (.invokevirtual 273, 3) := by decide +kernel
theorem dX9_lots_141 : decode cX9_lots 141 = .ok (.ifCond .eq 7, 3) := by decide +kernel
theorem dX9_lots_144 : decode cX9_lots 144 = .ok (.iconst 1, 1) := by decide +kernel
theorem dX9_lots_145 : decode cX9_lots 145 = .ok (.goto 4, 3) := by decide +kernel
theorem dX9_lots_148 : decode cX9_lots 148 = .ok (.iconst 0, 1) := by decide +kernel
theorem dX9_lots_149 : decode cX9_lots 149 = .ok (.iadd, 1) := by decide +kernel
theorem dX9_lots_150 : decode cX9_lots 150 = .ok (.istore 7, 2) := by decide +kernel
theorem dX9_lots_152 : decode cX9_lots 152 = .ok (.iinc 8 1, 3) := by decide +kernel
theorem dX9_lots_155 : decode cX9_lots 155 = .ok (.goto (-113), 3) := by decide +kernel
theorem dX9_lots_158 : decode cX9_lots 158 = .ok (.aload_n 0, 1) := by decide +kernel
theorem dX9_lots_159 : decode cX9_lots 159 = .ok (.iload 5, 2) := by decide +kernel
theorem dX9_lots_161 : decode cX9_lots 161 = .ok (.putfield 93, 3) := by decide +kernel
theorem dX9_lots_164 : decode cX9_lots 164 = .ok (.iload 7, 2) := by decide +kernel
theorem dX9_lots_166 : decode cX9_lots 166 = .ok (.ireturn, 1) := by decide +kernel
set_option maxRecDepth 20000 in
theorem ggX9_isList_X9_in : GoodIn wsX9_isList wsX9_in := goodIn_r _ [4] (by decide +kernel) (by decide +kernel)
set_option maxRecDepth 20000 in
theorem gX9_isList_X9_in : GoodIn wsX9_isList (va_wsS RX9 73 yX9_in wsX9_in) := goodIn_app (goodIn_of _ (by decide +kernel)) ggX9_isList_X9_in
theorem dX9_isList_0 : decode cX9_isList 0 = .ok (.iload_n 0, 1) := by decide +kernel
theorem dX9_isList_1 : decode cX9_isList 1 = .ok (.iconst 0, 1) := by decide +kernel
theorem dX9_isList_2 : decode cX9_isList 2 = .ok (.iconst 3, 1) := by decide +kernel
theorem dX9_isList_3 : decode cX9_isList 3 = .ok (.invokestatic 73, 3) := by decide +kernel
theorem dX9_isList_6 : decode cX9_isList 6 = .ok (.ireturn, 1) := by decide +kernel
set_option maxRecDepth 20000 in
theorem ggX9_judge_X9_isList : GoodIn wsX9_judge wsX9_isList := goodIn_r _ [7, 8, 9, 6, 10] (by decide +kernel) (by decide +kernel)
set_option maxRecDepth 20000 in
theorem gX9_judge_X9_isList : GoodIn wsX9_judge (va_wsS RX9 279 yX9_isList wsX9_isList) := goodIn_app (goodIn_of _ (by decide +kernel)) ggX9_judge_X9_isList
set_option maxRecDepth 20000 in
theorem ggX9_judge_X9_isTag : GoodIn wsX9_judge wsX9_isTag := goodIn_r _ [13, 8, 9, 6, 10] (by decide +kernel) (by decide +kernel)
set_option maxRecDepth 20000 in
theorem gX9_judge_X9_isTag : GoodIn wsX9_judge (va_wsS RX9 178 yX9_isTag wsX9_isTag) := goodIn_app (goodIn_of _ (by decide +kernel)) ggX9_judge_X9_isTag
set_option maxRecDepth 20000 in
theorem ggX9_judge_X9_tags : GoodIn wsX9_judge wsX9_tags := goodIn_r _ [17, 3, 18, 19, 20, 21, 22, 6, 23, 24, 25, 26, 27, 28, 29, 30, 31, 32, 33, 34, 35, 36, 37, 38, 39, 40, 41, 42, 43, 44, 45, 46, 47, 48, 49, 50, 51, 52, 53, 54, 55, 56, 57, 58, 59, 60, 61, 62, 63, 64, 65, 66, 67, 68, 69, 70, 71, 72, 73, 74, 75, 76, 77, 78, 79, 80, 81, 82, 83, 84, 85, 86, 87, 88, 89, 90, 91, 92, 93, 94, 95, 96, 97, 98, 99, 100, 101, 102, 103, 104, 105, 106, 107, 108, 109, 110, 111, 112, 113, 114, 115, 116, 117, 118, 119, 120, 121, 122, 123, 124, 125, 126, 127, 128, 129, 130, 131] (by decide +kernel) (by decide +kernel)
set_option maxRecDepth 20000 in
theorem gX9_judge_X9_tags : GoodIn wsX9_judge (wsV RX9 181 RX9 yX9_tags wsX9_tags) := goodIn_app (goodIn_of _ (by decide +kernel)) ggX9_judge_X9_tags
theorem dX9_judge_0 : decode cX9_judge 0 = .ok (.iload_n 1, 1) := by decide +kernel
theorem dX9_judge_1 : decode cX9_judge 1 = .ok (.invokestatic 279, 3) := by decide +kernel
theorem dX9_judge_4 : decode cX9_judge 4 = .ok (.ifCond .eq 14, 3) := by decide +kernel
theorem dX9_judge_7 : decode cX9_judge 7 = .ok (.iload_n 3, 1) := by decide +kernel
theorem dX9_judge_8 : decode cX9_judge 8 = .ok (.invokestatic 178, 3) := by decide +kernel
theorem dX9_judge_11 : decode cX9_judge 11 = .ok (.ifCond .eq 7, 3) := by decide +kernel
theorem dX9_judge_14 : decode cX9_judge 14 = .ok (.iload_n 2, 1) := by decide +kernel
theorem dX9_judge_15 : decode cX9_judge 15 = .ok (.ifCond .ge 5, 3) := by decide +kernel
theorem dX9_judge_18 : decode cX9_judge 18 = .ok (.iconst (-1), 1) := by decide +kernel
theorem dX9_judge_19 : decode cX9_judge 19 = .ok (.ireturn, 1) := by decide +kernel
theorem dX9_judge_20 : decode cX9_judge 20 = .ok (.aload_n 0, 1) := by decide +kernel
theorem dX9_judge_21 : decode cX9_judge 21 = .ok (.getfield 40, 3) := by decide +kernel
theorem dX9_judge_24 : decode cX9_judge 24 = .ok (.iload_n 1, 1) := by decide +kernel
theorem dX9_judge_25 : decode cX9_judge 25 = .ok (.iaload, 1) := by decide +kernel
theorem dX9_judge_26 : decode cX9_judge 26 = .ok (.ifCond .ge 6, 3) := by decide +kernel
theorem dX9_judge_29 : decode cX9_judge 29 = .ok (.bipush (-11), 2) := by decide +kernel
theorem dX9_judge_31 : decode cX9_judge 31 = .ok (.ireturn, 1) := by decide +kernel
theorem dX9_judge_32 : decode cX9_judge 32 = .ok (.aload_n 0, 1) := by decide +kernel
theorem dX9_judge_33 : decode cX9_judge 33 = .ok (.invokevirtual 181, 3) := by decide +kernel
theorem dX9_judge_36 : decode cX9_judge 36 = .ok (.iconst 0, 1) := by decide +kernel
theorem dX9_judge_37 : decode cX9_judge 37 = .ok (.istore 4, 2) := by decide +kernel
theorem dX9_judge_39 : decode cX9_judge 39 = .ok (.iload 4, 2) := by decide +kernel
theorem dX9_judge_41 : decode cX9_judge 41 = .ok (.bipush 20, 2) := by decide +kernel
theorem dX9_judge_43 : decode cX9_judge 43 = .ok (.if_icmp .ge 64, 3) := by decide +kernel
theorem dX9_judge_46 : decode cX9_judge 46 = .ok (.iload_n 2, 1) := by decide +kernel
theorem dX9_judge_47 : decode cX9_judge 47 = .ok (.i2l, 1) := by decide +kernel
theorem dX9_judge_48 : decode cX9_judge 48 = .ok (.iload 4, 2) := by decide +kernel
theorem dX9_judge_50 : decode cX9_judge 50 = .ok (.i2l, 1) := by decide +kernel
theorem dX9_judge_51 : decode cX9_judge 51 = .ok (.ladd, 1) := by decide +kernel
theorem dX9_judge_52 : decode cX9_judge 52 = .ok (.aload_n 0, 1) := by decide +kernel
theorem dX9_judge_53 : decode cX9_judge 53 = .ok (.getfield 40, 3) := by decide +kernel
theorem dX9_judge_56 : decode cX9_judge 56 = .ok (.iload_n 1, 1) := by decide +kernel
theorem dX9_judge_57 : decode cX9_judge 57 = .ok (.iaload, 1) := by decide +kernel
theorem dX9_judge_58 : decode cX9_judge 58 = .ok (.i2l, 1) := by decide +kernel
theorem dX9_judge_59 : decode cX9_judge 59 = .ok (.lcmp, 1) := by decide +kernel
theorem dX9_judge_60 : decode cX9_judge 60 = .ok (.ifCond .lt 9, 3) := by decide +kernel
theorem dX9_judge_63 : decode cX9_judge 63 = .ok (.bipush 100, 2) := by decide +kernel
theorem dX9_judge_65 : decode cX9_judge 65 = .ok (.iload 4, 2) := by decide +kernel
theorem dX9_judge_67 : decode cX9_judge 67 = .ok (.iadd, 1) := by decide +kernel
theorem dX9_judge_68 : decode cX9_judge 68 = .ok (.ireturn, 1) := by decide +kernel
theorem dX9_judge_69 : decode cX9_judge 69 = .ok (.aload_n 0, 1) := by decide +kernel
theorem dX9_judge_70 : decode cX9_judge 70 = .ok (.getfield 43, 3) := by decide +kernel
theorem dX9_judge_73 : decode cX9_judge 73 = .ok (.bipush 24, 2) := by decide +kernel
theorem dX9_judge_75 : decode cX9_judge 75 = .ok (.iload_n 1, 1) := by decide +kernel
theorem dX9_judge_76 : decode cX9_judge 76 = .ok (.imul, 1) := by decide +kernel
theorem dX9_judge_77 : decode cX9_judge 77 = .ok (.iload_n 2, 1) := by decide +kernel
theorem dX9_judge_78 : decode cX9_judge 78 = .ok (.iadd, 1) := by decide +kernel
theorem dX9_judge_79 : decode cX9_judge 79 = .ok (.iload 4, 2) := by decide +kernel
theorem dX9_judge_81 : decode cX9_judge 81 = .ok (.iadd, 1) := by decide +kernel
theorem dX9_judge_82 : decode cX9_judge 82 = .ok (.iaload, 1) := by decide +kernel
theorem dX9_judge_83 : decode cX9_judge 83 = .ok (.aload_n 0, 1) := by decide +kernel
theorem dX9_judge_84 : decode cX9_judge 84 = .ok (.getfield 58, 3) := by decide +kernel
theorem dX9_judge_87 : decode cX9_judge 87 = .ok (.bipush 20, 2) := by decide +kernel
theorem dX9_judge_89 : decode cX9_judge 89 = .ok (.iload_n 3, 1) := by decide +kernel
theorem dX9_judge_90 : decode cX9_judge 90 = .ok (.imul, 1) := by decide +kernel
theorem dX9_judge_91 : decode cX9_judge 91 = .ok (.iload 4, 2) := by decide +kernel
theorem dX9_judge_93 : decode cX9_judge 93 = .ok (.iadd, 1) := by decide +kernel
theorem dX9_judge_94 : decode cX9_judge 94 = .ok (.iaload, 1) := by decide +kernel
theorem dX9_judge_95 : decode cX9_judge 95 = .ok (.if_icmp .eq 6, 3) := by decide +kernel
theorem dX9_judge_98 : decode cX9_judge 98 = .ok (.iload 4, 2) := by decide +kernel
theorem dX9_judge_100 : decode cX9_judge 100 = .ok (.ireturn, 1) := by decide +kernel
theorem dX9_judge_101 : decode cX9_judge 101 = .ok (.iinc 4 1, 3) := by decide +kernel
theorem dX9_judge_104 : decode cX9_judge 104 = .ok (.goto (-65), 3) := by decide +kernel
theorem dX9_judge_107 : decode cX9_judge 107 = .ok (.bipush (-2), 2) := by decide +kernel
theorem dX9_judge_109 : decode cX9_judge 109 = .ok (.ireturn, 1) := by decide +kernel
set_option maxRecDepth 20000 in
theorem ggX9_list_X9_isList : GoodIn wsX9_list wsX9_isList := goodIn_r _ [6, 7, 8, 5, 9] (by decide +kernel) (by decide +kernel)
set_option maxRecDepth 20000 in
theorem gX9_list_X9_isList : GoodIn wsX9_list (va_wsS RX9 279 yX9_isList wsX9_isList) := goodIn_app (goodIn_of _ (by decide +kernel)) ggX9_list_X9_isList
theorem dX9_list_0 : decode cX9_list 0 = .ok (.iload_n 1, 1) := by decide +kernel
theorem dX9_list_1 : decode cX9_list 1 = .ok (.invokestatic 279, 3) := by decide +kernel
theorem dX9_list_4 : decode cX9_list 4 = .ok (.ifCond .eq 9, 3) := by decide +kernel
theorem dX9_list_7 : decode cX9_list 7 = .ok (.iload_n 2, 1) := by decide +kernel
theorem dX9_list_8 : decode cX9_list 8 = .ok (.bipush 24, 2) := by decide +kernel
theorem dX9_list_10 : decode cX9_list 10 = .ok (.if_icmp .le 5, 3) := by decide +kernel
theorem dX9_list_13 : decode cX9_list 13 = .ok (.iconst (-1), 1) := by decide +kernel
theorem dX9_list_14 : decode cX9_list 14 = .ok (.ireturn, 1) := by decide +kernel
theorem dX9_list_15 : decode cX9_list 15 = .ok (.iload_n 2, 1) := by decide +kernel
theorem dX9_list_16 : decode cX9_list 16 = .ok (.ifCond .ge 6, 3) := by decide +kernel
theorem dX9_list_19 : decode cX9_list 19 = .ok (.bipush (-14), 2) := by decide +kernel
theorem dX9_list_21 : decode cX9_list 21 = .ok (.ireturn, 1) := by decide +kernel
theorem dX9_list_22 : decode cX9_list 22 = .ok (.aload_n 0, 1) := by decide +kernel
theorem dX9_list_23 : decode cX9_list 23 = .ok (.getfield 40, 3) := by decide +kernel
theorem dX9_list_26 : decode cX9_list 26 = .ok (.iload_n 1, 1) := by decide +kernel
theorem dX9_list_27 : decode cX9_list 27 = .ok (.iload_n 2, 1) := by decide +kernel
theorem dX9_list_28 : decode cX9_list 28 = .ok (.iastore, 1) := by decide +kernel
theorem dX9_list_29 : decode cX9_list 29 = .ok (.iconst 0, 1) := by decide +kernel
theorem dX9_list_30 : decode cX9_list 30 = .ok (.istore_n 3, 1) := by decide +kernel
theorem dX9_list_31 : decode cX9_list 31 = .ok (.iload_n 3, 1) := by decide +kernel
theorem dX9_list_32 : decode cX9_list 32 = .ok (.bipush 24, 2) := by decide +kernel
theorem dX9_list_34 : decode cX9_list 34 = .ok (.if_icmp .ge 21, 3) := by decide +kernel
theorem dX9_list_37 : decode cX9_list 37 = .ok (.aload_n 0, 1) := by decide +kernel
theorem dX9_list_38 : decode cX9_list 38 = .ok (.getfield 43, 3) := by decide +kernel
theorem dX9_list_41 : decode cX9_list 41 = .ok (.bipush 24, 2) := by decide +kernel
theorem dX9_list_43 : decode cX9_list 43 = .ok (.iload_n 1, 1) := by decide +kernel
theorem dX9_list_44 : decode cX9_list 44 = .ok (.imul, 1) := by decide +kernel
theorem dX9_list_45 : decode cX9_list 45 = .ok (.iload_n 3, 1) := by decide +kernel
theorem dX9_list_46 : decode cX9_list 46 = .ok (.iadd, 1) := by decide +kernel
theorem dX9_list_47 : decode cX9_list 47 = .ok (.iconst 0, 1) := by decide +kernel
theorem dX9_list_48 : decode cX9_list 48 = .ok (.iastore, 1) := by decide +kernel
theorem dX9_list_49 : decode cX9_list 49 = .ok (.iinc 3 1, 3) := by decide +kernel
theorem dX9_list_52 : decode cX9_list 52 = .ok (.goto (-21), 3) := by decide +kernel
theorem dX9_list_55 : decode cX9_list 55 = .ok (.iconst 1, 1) := by decide +kernel
theorem dX9_list_56 : decode cX9_list 56 = .ok (.ireturn, 1) := by decide +kernel
set_option maxRecDepth 20000 in
theorem ggX9_set_X9_isList : GoodIn wsX9_set wsX9_isList := goodIn_r _ [6, 7, 8, 5, 9] (by decide +kernel) (by decide +kernel)
set_option maxRecDepth 20000 in
theorem gX9_set_X9_isList : GoodIn wsX9_set (va_wsS RX9 279 yX9_isList wsX9_isList) := goodIn_app (goodIn_of _ (by decide +kernel)) ggX9_set_X9_isList
set_option maxRecDepth 20000 in
theorem ggX9_set_X9_in : GoodIn wsX9_set wsX9_in := goodIn_r _ [9] (by decide +kernel) (by decide +kernel)
set_option maxRecDepth 20000 in
theorem gX9_set_X9_in : GoodIn wsX9_set (va_wsS RX9 73 yX9_in wsX9_in) := goodIn_app (goodIn_of _ (by decide +kernel)) ggX9_set_X9_in
theorem dX9_set_0 : decode cX9_set 0 = .ok (.iload_n 1, 1) := by decide +kernel
theorem dX9_set_1 : decode cX9_set 1 = .ok (.invokestatic 279, 3) := by decide +kernel
theorem dX9_set_4 : decode cX9_set 4 = .ok (.ifCond .ne 5, 3) := by decide +kernel
theorem dX9_set_7 : decode cX9_set 7 = .ok (.iconst (-1), 1) := by decide +kernel
theorem dX9_set_8 : decode cX9_set 8 = .ok (.ireturn, 1) := by decide +kernel
theorem dX9_set_9 : decode cX9_set 9 = .ok (.aload_n 0, 1) := by decide +kernel
theorem dX9_set_10 : decode cX9_set 10 = .ok (.getfield 40, 3) := by decide +kernel
theorem dX9_set_13 : decode cX9_set 13 = .ok (.iload_n 1, 1) := by decide +kernel
theorem dX9_set_14 : decode cX9_set 14 = .ok (.iaload, 1) := by decide +kernel
theorem dX9_set_15 : decode cX9_set 15 = .ok (.ifCond .ge 6, 3) := by decide +kernel
theorem dX9_set_18 : decode cX9_set 18 = .ok (.bipush (-11), 2) := by decide +kernel
theorem dX9_set_20 : decode cX9_set 20 = .ok (.ireturn, 1) := by decide +kernel
theorem dX9_set_21 : decode cX9_set 21 = .ok (.iload_n 2, 1) := by decide +kernel
theorem dX9_set_22 : decode cX9_set 22 = .ok (.iconst 0, 1) := by decide +kernel
theorem dX9_set_23 : decode cX9_set 23 = .ok (.aload_n 0, 1) := by decide +kernel
theorem dX9_set_24 : decode cX9_set 24 = .ok (.getfield 40, 3) := by decide +kernel
theorem dX9_set_27 : decode cX9_set 27 = .ok (.iload_n 1, 1) := by decide +kernel
theorem dX9_set_28 : decode cX9_set 28 = .ok (.iaload, 1) := by decide +kernel
theorem dX9_set_29 : decode cX9_set 29 = .ok (.iconst 1, 1) := by decide +kernel
theorem dX9_set_30 : decode cX9_set 30 = .ok (.isub, 1) := by decide +kernel
theorem dX9_set_31 : decode cX9_set 31 = .ok (.invokestatic 73, 3) := by decide +kernel
theorem dX9_set_34 : decode cX9_set 34 = .ok (.ifCond .ne 6, 3) := by decide +kernel
theorem dX9_set_37 : decode cX9_set 37 = .ok (.bipush (-13), 2) := by decide +kernel
theorem dX9_set_39 : decode cX9_set 39 = .ok (.ireturn, 1) := by decide +kernel
theorem dX9_set_40 : decode cX9_set 40 = .ok (.aload_n 0, 1) := by decide +kernel
theorem dX9_set_41 : decode cX9_set 41 = .ok (.getfield 43, 3) := by decide +kernel
theorem dX9_set_44 : decode cX9_set 44 = .ok (.bipush 24, 2) := by decide +kernel
theorem dX9_set_46 : decode cX9_set 46 = .ok (.iload_n 1, 1) := by decide +kernel
theorem dX9_set_47 : decode cX9_set 47 = .ok (.imul, 1) := by decide +kernel
theorem dX9_set_48 : decode cX9_set 48 = .ok (.iload_n 2, 1) := by decide +kernel
theorem dX9_set_49 : decode cX9_set 49 = .ok (.iadd, 1) := by decide +kernel
theorem dX9_set_50 : decode cX9_set 50 = .ok (.iload_n 3, 1) := by decide +kernel
theorem dX9_set_51 : decode cX9_set 51 = .ok (.iastore, 1) := by decide +kernel
theorem dX9_set_52 : decode cX9_set 52 = .ok (.iconst 1, 1) := by decide +kernel
theorem dX9_set_53 : decode cX9_set 53 = .ok (.ireturn, 1) := by decide +kernel
set_option maxRecDepth 20000 in
theorem ggX9_get_X9_isList : GoodIn wsX9_get wsX9_isList := goodIn_r _ [7, 8, 9, 6, 10] (by decide +kernel) (by decide +kernel)
set_option maxRecDepth 20000 in
theorem gX9_get_X9_isList : GoodIn wsX9_get (va_wsS RX9 279 yX9_isList wsX9_isList) := goodIn_app (goodIn_of _ (by decide +kernel)) ggX9_get_X9_isList
set_option maxRecDepth 20000 in
theorem ggX9_get_X9_in : GoodIn wsX9_get wsX9_in := goodIn_r _ [10] (by decide +kernel) (by decide +kernel)
set_option maxRecDepth 20000 in
theorem gX9_get_X9_in : GoodIn wsX9_get (va_wsS RX9 73 yX9_in wsX9_in) := goodIn_app (goodIn_of _ (by decide +kernel)) ggX9_get_X9_in
theorem dX9_get_0 : decode cX9_get 0 = .ok (.iload_n 1, 1) := by decide +kernel
theorem dX9_get_1 : decode cX9_get 1 = .ok (.invokestatic 279, 3) := by decide +kernel
theorem dX9_get_4 : decode cX9_get 4 = .ok (.ifCond .eq 34, 3) := by decide +kernel
theorem dX9_get_7 : decode cX9_get 7 = .ok (.iload_n 2, 1) := by decide +kernel
theorem dX9_get_8 : decode cX9_get 8 = .ok (.iconst 0, 1) := by decide +kernel
theorem dX9_get_9 : decode cX9_get 9 = .ok (.aload_n 0, 1) := by decide +kernel
theorem dX9_get_10 : decode cX9_get 10 = .ok (.getfield 40, 3) := by decide +kernel
theorem dX9_get_13 : decode cX9_get 13 = .ok (.iload_n 1, 1) := by decide +kernel
theorem dX9_get_14 : decode cX9_get 14 = .ok (.iaload, 1) := by decide +kernel
theorem dX9_get_15 : decode cX9_get 15 = .ok (.iconst 1, 1) := by decide +kernel
theorem dX9_get_16 : decode cX9_get 16 = .ok (.isub, 1) := by decide +kernel
theorem dX9_get_17 : decode cX9_get 17 = .ok (.invokestatic 73, 3) := by decide +kernel
theorem dX9_get_20 : decode cX9_get 20 = .ok (.ifCond .eq 18, 3) := by decide +kernel
theorem dX9_get_23 : decode cX9_get 23 = .ok (.aload_n 0, 1) := by decide +kernel
theorem dX9_get_24 : decode cX9_get 24 = .ok (.getfield 43, 3) := by decide +kernel
theorem dX9_get_27 : decode cX9_get 27 = .ok (.bipush 24, 2) := by decide +kernel
theorem dX9_get_29 : decode cX9_get 29 = .ok (.iload_n 1, 1) := by decide +kernel
theorem dX9_get_30 : decode cX9_get 30 = .ok (.imul, 1) := by decide +kernel
theorem dX9_get_31 : decode cX9_get 31 = .ok (.iload_n 2, 1) := by decide +kernel
theorem dX9_get_32 : decode cX9_get 32 = .ok (.iadd, 1) := by decide +kernel
theorem dX9_get_33 : decode cX9_get 33 = .ok (.iaload, 1) := by decide +kernel
theorem dX9_get_34 : decode cX9_get 34 = .ok (.i2l, 1) := by decide +kernel
theorem dX9_get_35 : decode cX9_get 35 = .ok (.goto 6, 3) := by decide +kernel
theorem dX9_get_38 : decode cX9_get 38 = .ok (.ldc2_w 284, 3) := by decide +kernel
theorem dX9_get_41 : decode cX9_get 41 = .ok (.lreturn, 1) := by decide +kernel
set_option maxRecDepth 20000 in
theorem ggX9_feed_X9_in : GoodIn wsX9_feed wsX9_in := goodIn_r _ [6] (by decide +kernel) (by decide +kernel)
set_option maxRecDepth 20000 in
theorem gX9_feed_X9_in : GoodIn wsX9_feed (va_wsS RX9 73 yX9_in wsX9_in) := goodIn_app (goodIn_of _ (by decide +kernel)) ggX9_feed_X9_in
theorem dX9_feed_0 : decode cX9_feed 0 = .ok (.iload_n 1, 1) := by decide +kernel
theorem dX9_feed_1 : decode cX9_feed 1 = .ok (.iconst 1, 1) := by decide +kernel
theorem dX9_feed_2 : decode cX9_feed 2 = .ok (.bipush 127, 2) := by decide +kernel
theorem dX9_feed_4 : decode cX9_feed 4 = .ok (.invokestatic 73, 3) := by decide +kernel
theorem dX9_feed_7 : decode cX9_feed 7 = .ok (.ifCond .ne 5, 3) := by decide +kernel
theorem dX9_feed_10 : decode cX9_feed 10 = .ok (.iconst (-1), 1) := by decide +kernel
theorem dX9_feed_11 : decode cX9_feed 11 = .ok (.ireturn, 1) := by decide +kernel
theorem dX9_feed_12 : decode cX9_feed 12 = .ok (.aload_n 0, 1) := by decide +kernel
theorem dX9_feed_13 : decode cX9_feed 13 = .ok (.getfield 266, 3) := by decide +kernel
theorem dX9_feed_16 : decode cX9_feed 16 = .ok (.bipush 120, 2) := by decide +kernel
theorem dX9_feed_18 : decode cX9_feed 18 = .ok (.if_icmp .ne 6, 3) := by decide +kernel
theorem dX9_feed_21 : decode cX9_feed 21 = .ok (.bipush (-3), 2) := by decide +kernel
theorem dX9_feed_23 : decode cX9_feed 23 = .ok (.ireturn, 1) := by decide +kernel
theorem dX9_feed_24 : decode cX9_feed 24 = .ok (.aload_n 0, 1) := by decide +kernel
theorem dX9_feed_25 : decode cX9_feed 25 = .ok (.getfield 34, 3) := by decide +kernel
theorem dX9_feed_28 : decode cX9_feed 28 = .ok (.aload_n 0, 1) := by decide +kernel
theorem dX9_feed_29 : decode cX9_feed 29 = .ok (.getfield 266, 3) := by decide +kernel
theorem dX9_feed_32 : decode cX9_feed 32 = .ok (.iload_n 1, 1) := by decide +kernel
theorem dX9_feed_33 : decode cX9_feed 33 = .ok (.iastore, 1) := by decide +kernel
theorem dX9_feed_34 : decode cX9_feed 34 = .ok (.aload_n 0, 1) := by decide +kernel
theorem dX9_feed_35 : decode cX9_feed 35 = .ok (.dup, 1) := by decide +kernel
theorem dX9_feed_36 : decode cX9_feed 36 = .ok (.getfield 266, 3) := by decide +kernel
theorem dX9_feed_39 : decode cX9_feed 39 = .ok (.iconst 1, 1) := by decide +kernel
theorem dX9_feed_40 : decode cX9_feed 40 = .ok (.iadd, 1) := by decide +kernel
theorem dX9_feed_41 : decode cX9_feed 41 = .ok (.putfield 266, 3) := by decide +kernel
theorem dX9_feed_44 : decode cX9_feed 44 = .ok (.aload_n 0, 1) := by decide +kernel
theorem dX9_feed_45 : decode cX9_feed 45 = .ok (.getfield 266, 3) := by decide +kernel
theorem dX9_feed_48 : decode cX9_feed 48 = .ok (.ireturn, 1) := by decide +kernel
theorem dX9_here_0 : decode cX9_here 0 = .ok (.aload_n 0, 1) := by decide +kernel
theorem dX9_here_1 : decode cX9_here 1 = .ok (.getfield 286, 3) := by decide +kernel
theorem dX9_here_4 : decode cX9_here 4 = .ok (.aload_n 0, 1) := by decide +kernel
theorem dX9_here_5 : decode cX9_here 5 = .ok (.getfield 266, 3) := by decide +kernel
theorem dX9_here_8 : decode cX9_here 8 = .ok (.if_icmp .ge 15, 3) := by decide +kernel
theorem dX9_here_11 : decode cX9_here 11 = .ok (.aload_n 0, 1) := by decide +kernel
theorem dX9_here_12 : decode cX9_here 12 = .ok (.getfield 34, 3) := by decide +kernel
theorem dX9_here_15 : decode cX9_here 15 = .ok (.aload_n 0, 1) := by decide +kernel
theorem dX9_here_16 : decode cX9_here 16 = .ok (.getfield 286, 3) := by decide +kernel
theorem dX9_here_19 : decode cX9_here 19 = .ok (.iaload, 1) := by decide +kernel
theorem dX9_here_20 : decode cX9_here 20 = .ok (.goto 4, 3) := by decide +kernel
theorem dX9_here_23 : decode cX9_here 23 = .ok (.iconst (-1), 1) := by decide +kernel
theorem dX9_here_24 : decode cX9_here 24 = .ok (.ireturn, 1) := by decide +kernel
set_option maxRecDepth 20000 in
theorem ggX9_takes_X9_here : GoodIn wsX9_takes wsX9_here := goodIn_r _ [6, 1, 7, 8, 9, 10, 11, 12, 13, 14, 15, 16, 17, 18, 19, 20, 21, 22, 23, 24, 25, 26, 27, 28, 29, 30, 31, 32, 33, 34, 35, 36, 37, 38, 39, 40, 41, 42, 43, 44, 45, 46, 47, 48] (by decide +kernel) (by decide +kernel)
set_option maxRecDepth 20000 in
theorem gX9_takes_X9_here : GoodIn wsX9_takes (wsV RX9 289 RX9 yX9_here wsX9_here) := goodIn_app (goodIn_of _ (by decide +kernel)) ggX9_takes_X9_here
theorem dX9_takes_0 : decode cX9_takes 0 = .ok (.aload_n 0, 1) := by decide +kernel
theorem dX9_takes_1 : decode cX9_takes 1 = .ok (.invokevirtual 289, 3) := by decide +kernel
theorem dX9_takes_4 : decode cX9_takes 4 = .ok (.iload_n 1, 1) := by decide +kernel
theorem dX9_takes_5 : decode cX9_takes 5 = .ok (.if_icmp .eq 5, 3) := by decide +kernel
theorem dX9_takes_8 : decode cX9_takes 8 = .ok (.iconst 0, 1) := by decide +kernel
theorem dX9_takes_9 : decode cX9_takes 9 = .ok (.ireturn, 1) := by decide +kernel
theorem dX9_takes_10 : decode cX9_takes 10 = .ok (.aload_n 0, 1) := by decide +kernel
theorem dX9_takes_11 : decode cX9_takes 11 = .ok (.dup, 1) := by decide +kernel
theorem dX9_takes_12 : decode cX9_takes 12 = .ok (.getfield 286, 3) := by decide +kernel
theorem dX9_takes_15 : decode cX9_takes 15 = .ok (.iconst 1, 1) := by decide +kernel
theorem dX9_takes_16 : decode cX9_takes 16 = .ok (.iadd, 1) := by decide +kernel
theorem dX9_takes_17 : decode cX9_takes 17 = .ok (.putfield 286, 3) := by decide +kernel
theorem dX9_takes_20 : decode cX9_takes 20 = .ok (.iconst 1, 1) := by decide +kernel
theorem dX9_takes_21 : decode cX9_takes 21 = .ok (.ireturn, 1) := by decide +kernel
set_option maxRecDepth 20000 in
theorem ggX9_literal_X9_takes : GoodIn wsX9_literal wsX9_takes := goodIn_r _ [7, 2, 8, 9, 10, 6, 11, 12, 13, 17, 18, 19, 20, 21, 22, 23, 24, 25, 26, 27, 28, 29, 30, 31, 32, 33, 34, 35, 36, 37, 38, 39, 40, 41, 42, 43, 44, 45, 46, 47, 48, 49, 50, 51, 52, 53, 54, 55, 56] (by decide +kernel) (by decide +kernel)
set_option maxRecDepth 20000 in
theorem gX9_literal_X9_takes : GoodIn wsX9_literal (wsV RX9 292 RX9 yX9_takes wsX9_takes) := goodIn_app (goodIn_of _ (by decide +kernel)) ggX9_literal_X9_takes
set_option maxRecDepth 20000 in
theorem ggX9_literal_X9_here : GoodIn wsX9_literal wsX9_here := goodIn_r _ [11, 2, 12, 13, 17, 18, 19, 20, 21, 22, 23, 24, 25, 26, 27, 28, 29, 30, 31, 32, 33, 34, 35, 36, 37, 38, 39, 40, 41, 42, 43, 44, 45, 46, 47, 48, 49, 50, 51, 52, 53, 54, 55, 56] (by decide +kernel) (by decide +kernel)
set_option maxRecDepth 20000 in
theorem gX9_literal_X9_here : GoodIn wsX9_literal (wsV RX9 289 RX9 yX9_here wsX9_here) := goodIn_app (goodIn_of _ (by decide +kernel)) ggX9_literal_X9_here
set_option maxRecDepth 20000 in
theorem ggX9_literal_X9_in : GoodIn wsX9_literal wsX9_in := goodIn_r _ [16] (by decide +kernel) (by decide +kernel)
set_option maxRecDepth 20000 in
theorem gX9_literal_X9_in : GoodIn wsX9_literal (va_wsS RX9 73 yX9_in wsX9_in) := goodIn_app (goodIn_of _ (by decide +kernel)) ggX9_literal_X9_in
theorem dX9_literal_0 : decode cX9_literal 0 = .ok (.aload_n 0, 1) := by decide +kernel
theorem dX9_literal_1 : decode cX9_literal 1 = .ok (.aload_n 0, 1) := by decide +kernel
theorem dX9_literal_2 : decode cX9_literal 2 = .ok (.bipush 126, 2) := by decide +kernel
theorem dX9_literal_4 : decode cX9_literal 4 = .ok (.invokevirtual 292, 3) := by decide +kernel
theorem dX9_literal_7 : decode cX9_literal 7 = .ok (.ifCond .eq 8, 3) := by decide +kernel
theorem dX9_literal_10 : decode cX9_literal 10 = .ok (.bipush 10, 2) := by decide +kernel
theorem dX9_literal_12 : decode cX9_literal 12 = .ok (.goto 4, 3) := by decide +kernel
theorem dX9_literal_15 : decode cX9_literal 15 = .ok (.iconst 0, 1) := by decide +kernel
theorem dX9_literal_16 : decode cX9_literal 16 = .ok (.putfield 295, 3) := by decide +kernel
theorem dX9_literal_19 : decode cX9_literal 19 = .ok (.aload_n 0, 1) := by decide +kernel
theorem dX9_literal_20 : decode cX9_literal 20 = .ok (.invokevirtual 289, 3) := by decide +kernel
theorem dX9_literal_23 : decode cX9_literal 23 = .ok (.bipush 97, 2) := by decide +kernel
theorem dX9_literal_25 : decode cX9_literal 25 = .ok (.bipush 106, 2) := by decide +kernel
theorem dX9_literal_27 : decode cX9_literal 27 = .ok (.invokestatic 73, 3) := by decide +kernel
theorem dX9_literal_30 : decode cX9_literal 30 = .ok (.ifCond .ne 5, 3) := by decide +kernel
theorem dX9_literal_33 : decode cX9_literal 33 = .ok (.iconst 0, 1) := by decide +kernel
theorem dX9_literal_34 : decode cX9_literal 34 = .ok (.ireturn, 1) := by decide +kernel
theorem dX9_literal_35 : decode cX9_literal 35 = .ok (.aload_n 0, 1) := by decide +kernel
theorem dX9_literal_36 : decode cX9_literal 36 = .ok (.dup, 1) := by decide +kernel
theorem dX9_literal_37 : decode cX9_literal 37 = .ok (.getfield 295, 3) := by decide +kernel
theorem dX9_literal_40 : decode cX9_literal 40 = .ok (.aload_n 0, 1) := by decide +kernel
theorem dX9_literal_41 : decode cX9_literal 41 = .ok (.invokevirtual 289, 3) := by decide +kernel
theorem dX9_literal_44 : decode cX9_literal 44 = .ok (.bipush 97, 2) := by decide +kernel
theorem dX9_literal_46 : decode cX9_literal 46 = .ok (.isub, 1) := by decide +kernel
theorem dX9_literal_47 : decode cX9_literal 47 = .ok (.iadd, 1) := by decide +kernel
theorem dX9_literal_48 : decode cX9_literal 48 = .ok (.putfield 295, 3) := by decide +kernel
theorem dX9_literal_51 : decode cX9_literal 51 = .ok (.aload_n 0, 1) := by decide +kernel
theorem dX9_literal_52 : decode cX9_literal 52 = .ok (.dup, 1) := by decide +kernel
theorem dX9_literal_53 : decode cX9_literal 53 = .ok (.getfield 286, 3) := by decide +kernel
theorem dX9_literal_56 : decode cX9_literal 56 = .ok (.iconst 1, 1) := by decide +kernel
theorem dX9_literal_57 : decode cX9_literal 57 = .ok (.iadd, 1) := by decide +kernel
theorem dX9_literal_58 : decode cX9_literal 58 = .ok (.putfield 286, 3) := by decide +kernel
theorem dX9_literal_61 : decode cX9_literal 61 = .ok (.iconst 1, 1) := by decide +kernel
theorem dX9_literal_62 : decode cX9_literal 62 = .ok (.ireturn, 1) := by decide +kernel
set_option maxRecDepth 20000 in
theorem ggX9_literals_X9_literal : GoodIn wsX9_literals wsX9_literal := goodIn_r _ [6, 1, 7, 8, 9, 10, 5, 11, 12, 13, 14, 15, 16, 17, 18, 19, 20, 21, 22, 23, 24, 25, 26, 27, 28, 29, 30, 31, 32, 33, 34, 35, 36, 37, 38, 39, 40, 41, 42, 43, 44, 45, 46, 47, 48, 49, 50, 51, 52, 53, 54, 55, 56, 57, 58, 59, 60] (by decide +kernel) (by decide +kernel)
set_option maxRecDepth 20000 in
theorem gX9_literals_X9_literal : GoodIn wsX9_literals (wsV RX9 298 RX9 yX9_literal wsX9_literal) := goodIn_app (goodIn_of _ (by decide +kernel)) ggX9_literals_X9_literal
set_option maxRecDepth 20000 in
theorem ggX9_literals_X9_takes : GoodIn wsX9_literals wsX9_takes := goodIn_r _ [11, 7, 12, 13, 14, 5, 15, 16, 17, 21, 22, 23, 24, 25, 26, 27, 28, 29, 30, 31, 32, 33, 34, 35, 36, 37, 38, 39, 40, 41, 42, 43, 44, 45, 46, 47, 48, 49, 50, 51, 52, 53, 54, 55, 56, 57, 58, 59, 60] (by decide +kernel) (by decide +kernel)
set_option maxRecDepth 20000 in
theorem gX9_literals_X9_takes : GoodIn wsX9_literals (wsV RX9 292 RX9 yX9_takes wsX9_takes) := goodIn_app (goodIn_of _ (by decide +kernel)) ggX9_literals_X9_takes
theorem dX9_literals_0 : decode cX9_literals 0 = .ok (.iconst 0, 1) := by decide +kernel
theorem dX9_literals_1 : decode cX9_literals 1 = .ok (.istore_n 1, 1) := by decide +kernel
theorem dX9_literals_2 : decode cX9_literals 2 = .ok (.aload_n 0, 1) := by decide +kernel
theorem dX9_literals_3 : decode cX9_literals 3 = .ok (.invokevirtual 298, 3) := by decide +kernel
theorem dX9_literals_6 : decode cX9_literals 6 = .ok (.ifCond .ne 5, 3) := by decide +kernel
theorem dX9_literals_9 : decode cX9_literals 9 = .ok (.iconst 0, 1) := by decide +kernel
theorem dX9_literals_10 : decode cX9_literals 10 = .ok (.ireturn, 1) := by decide +kernel
theorem dX9_literals_11 : decode cX9_literals 11 = .ok (.iload_n 1, 1) := by decide +kernel
theorem dX9_literals_12 : decode cX9_literals 12 = .ok (.iconst 1, 1) := by decide +kernel
theorem dX9_literals_13 : decode cX9_literals 13 = .ok (.aload_n 0, 1) := by decide +kernel
theorem dX9_literals_14 : decode cX9_literals 14 = .ok (.getfield 295, 3) := by decide +kernel
theorem dX9_literals_17 : decode cX9_literals 17 = .ok (.ishl, 1) := by decide +kernel
theorem dX9_literals_18 : decode cX9_literals 18 = .ok (.ior, 1) := by decide +kernel
theorem dX9_literals_19 : decode cX9_literals 19 = .ok (.istore_n 1, 1) := by decide +kernel
theorem dX9_literals_20 : decode cX9_literals 20 = .ok (.aload_n 0, 1) := by decide +kernel
theorem dX9_literals_21 : decode cX9_literals 21 = .ok (.bipush 44, 2) := by decide +kernel
theorem dX9_literals_23 : decode cX9_literals 23 = .ok (.invokevirtual 292, 3) := by decide +kernel
theorem dX9_literals_26 : decode cX9_literals 26 = .ok (.ifCond .ne (-24), 3) := by decide +kernel
theorem dX9_literals_29 : decode cX9_literals 29 = .ok (.aload_n 0, 1) := by decide +kernel
theorem dX9_literals_30 : decode cX9_literals 30 = .ok (.iload_n 1, 1) := by decide +kernel
theorem dX9_literals_31 : decode cX9_literals 31 = .ok (.putfield 295, 3) := by decide +kernel
theorem dX9_literals_34 : decode cX9_literals 34 = .ok (.iconst 1, 1) := by decide +kernel
theorem dX9_literals_35 : decode cX9_literals 35 = .ok (.ireturn, 1) := by decide +kernel
set_option maxRecDepth 20000 in
theorem ggX9_number_X9_here : GoodIn wsX9_number wsX9_here := goodIn_r _ [7, 2, 8, 9, 13, 14, 15, 16, 17, 18, 19, 20, 21, 22, 23, 24, 25, 26, 27, 28, 29, 30, 31, 32, 33, 34, 35, 36, 37, 38, 39, 40, 41, 42, 43, 44, 45, 46, 47, 48, 49, 50, 51, 52] (by decide +kernel) (by decide +kernel)
set_option maxRecDepth 20000 in
theorem gX9_number_X9_here : GoodIn wsX9_number (wsV RX9 289 RX9 yX9_here wsX9_here) := goodIn_app (goodIn_of _ (by decide +kernel)) ggX9_number_X9_here
set_option maxRecDepth 20000 in
theorem ggX9_number_X9_in : GoodIn wsX9_number wsX9_in := goodIn_r _ [12] (by decide +kernel) (by decide +kernel)
set_option maxRecDepth 20000 in
theorem gX9_number_X9_in : GoodIn wsX9_number (va_wsS RX9 73 yX9_in wsX9_in) := goodIn_app (goodIn_of _ (by decide +kernel)) ggX9_number_X9_in
theorem dX9_number_0 : decode cX9_number 0 = .ok (.aload_n 0, 1) := by decide +kernel
theorem dX9_number_1 : decode cX9_number 1 = .ok (.invokevirtual 289, 3) := by decide +kernel
theorem dX9_number_4 : decode cX9_number 4 = .ok (.bipush 48, 2) := by decide +kernel
theorem dX9_number_6 : decode cX9_number 6 = .ok (.bipush 57, 2) := by decide +kernel
theorem dX9_number_8 : decode cX9_number 8 = .ok (.invokestatic 73, 3) := by decide +kernel
theorem dX9_number_11 : decode cX9_number 11 = .ok (.ifCond .ne 5, 3) := by decide +kernel
theorem dX9_number_14 : decode cX9_number 14 = .ok (.iconst 0, 1) := by decide +kernel
theorem dX9_number_15 : decode cX9_number 15 = .ok (.ireturn, 1) := by decide +kernel
theorem dX9_number_16 : decode cX9_number 16 = .ok (.aload_n 0, 1) := by decide +kernel
theorem dX9_number_17 : decode cX9_number 17 = .ok (.aload_n 0, 1) := by decide +kernel
theorem dX9_number_18 : decode cX9_number 18 = .ok (.invokevirtual 289, 3) := by decide +kernel
theorem dX9_number_21 : decode cX9_number 21 = .ok (.bipush 48, 2) := by decide +kernel
theorem dX9_number_23 : decode cX9_number 23 = .ok (.isub, 1) := by decide +kernel
theorem dX9_number_24 : decode cX9_number 24 = .ok (.putfield 295, 3) := by decide +kernel
theorem dX9_number_27 : decode cX9_number 27 = .ok (.aload_n 0, 1) := by decide +kernel
theorem dX9_number_28 : decode cX9_number 28 = .ok (.dup, 1) := by decide +kernel
theorem dX9_number_29 : decode cX9_number 29 = .ok (.getfield 286, 3) := by decide +kernel
theorem dX9_number_32 : decode cX9_number 32 = .ok (.iconst 1, 1) := by decide +kernel
theorem dX9_number_33 : decode cX9_number 33 = .ok (.iadd, 1) := by decide +kernel
theorem dX9_number_34 : decode cX9_number 34 = .ok (.putfield 286, 3) := by decide +kernel
theorem dX9_number_37 : decode cX9_number 37 = .ok (.aload_n 0, 1) := by decide +kernel
theorem dX9_number_38 : decode cX9_number 38 = .ok (.invokevirtual 289, 3) := by decide +kernel
theorem dX9_number_41 : decode cX9_number 41 = .ok (.bipush 48, 2) := by decide +kernel
theorem dX9_number_43 : decode cX9_number 43 = .ok (.bipush 57, 2) := by decide +kernel
theorem dX9_number_45 : decode cX9_number 45 = .ok (.invokestatic 73, 3) := by decide +kernel
theorem dX9_number_48 : decode cX9_number 48 = .ok (.ifCond .eq 32, 3) := by decide +kernel
theorem dX9_number_51 : decode cX9_number 51 = .ok (.aload_n 0, 1) := by decide +kernel
theorem dX9_number_52 : decode cX9_number 52 = .ok (.bipush 10, 2) := by decide +kernel
theorem dX9_number_54 : decode cX9_number 54 = .ok (.aload_n 0, 1) := by decide +kernel
theorem dX9_number_55 : decode cX9_number 55 = .ok (.getfield 295, 3) := by decide +kernel
theorem dX9_number_58 : decode cX9_number 58 = .ok (.imul, 1) := by decide +kernel
theorem dX9_number_59 : decode cX9_number 59 = .ok (.aload_n 0, 1) := by decide +kernel
theorem dX9_number_60 : decode cX9_number 60 = .ok (.invokevirtual 289, 3) := by decide +kernel
theorem dX9_number_63 : decode cX9_number 63 = .ok (.iadd, 1) := by decide +kernel
theorem dX9_number_64 : decode cX9_number 64 = .ok (.bipush 48, 2) := by decide +kernel
theorem dX9_number_66 : decode cX9_number 66 = .ok (.isub, 1) := by decide +kernel
theorem dX9_number_67 : decode cX9_number 67 = .ok (.putfield 295, 3) := by decide +kernel
theorem dX9_number_70 : decode cX9_number 70 = .ok (.aload_n 0, 1) := by decide +kernel
theorem dX9_number_71 : decode cX9_number 71 = .ok (.dup, 1) := by decide +kernel
theorem dX9_number_72 : decode cX9_number 72 = .ok (.getfield 286, 3) := by decide +kernel
theorem dX9_number_75 : decode cX9_number 75 = .ok (.iconst 1, 1) := by decide +kernel
theorem dX9_number_76 : decode cX9_number 76 = .ok (.iadd, 1) := by decide +kernel
theorem dX9_number_77 : decode cX9_number 77 = .ok (.putfield 286, 3) := by decide +kernel
theorem dX9_number_80 : decode cX9_number 80 = .ok (.iconst 1, 1) := by decide +kernel
theorem dX9_number_81 : decode cX9_number 81 = .ok (.ireturn, 1) := by decide +kernel
set_option maxRecDepth 20000 in
theorem ggX9_pair_X9_number : GoodIn wsX9_pair wsX9_number := goodIn_r _ [9, 2, 10, 11, 12, 13, 8, 14, 15, 16, 17, 18, 19, 24, 25, 26, 27, 28, 29, 30, 31, 32, 33, 34, 35, 36, 37, 38, 39, 40, 41, 42, 43, 44, 45, 46, 47, 48, 49, 50, 51, 52, 53, 54, 55, 56, 57, 58, 59, 60, 61, 62, 63] (by decide +kernel) (by decide +kernel)
set_option maxRecDepth 20000 in
theorem gX9_pair_X9_number : GoodIn wsX9_pair (wsV RX9 305 RX9 yX9_number wsX9_number) := goodIn_app (goodIn_of _ (by decide +kernel)) ggX9_pair_X9_number
set_option maxRecDepth 20000 in
theorem ggX9_pair_X9_takes : GoodIn wsX9_pair wsX9_takes := goodIn_r _ [23, 10, 11, 12, 13, 8, 14, 15, 16, 24, 25, 26, 27, 28, 29, 30, 31, 32, 33, 34, 35, 36, 37, 38, 39, 40, 41, 42, 43, 44, 45, 46, 47, 48, 49, 50, 51, 52, 53, 54, 55, 56, 57, 58, 59, 60, 61, 62, 63] (by decide +kernel) (by decide +kernel)
set_option maxRecDepth 20000 in
theorem gX9_pair_X9_takes : GoodIn wsX9_pair (wsV RX9 292 RX9 yX9_takes wsX9_takes) := goodIn_app (goodIn_of _ (by decide +kernel)) ggX9_pair_X9_takes
theorem dX9_pair_0 : decode cX9_pair 0 = .ok (.aload_n 0, 1) := by decide +kernel
theorem dX9_pair_1 : decode cX9_pair 1 = .ok (.iconst 2, 1) := by decide +kernel
theorem dX9_pair_2 : decode cX9_pair 2 = .ok (.putfield 302, 3) := by decide +kernel
theorem dX9_pair_5 : decode cX9_pair 5 = .ok (.aload_n 0, 1) := by decide +kernel
theorem dX9_pair_6 : decode cX9_pair 6 = .ok (.invokevirtual 305, 3) := by decide +kernel
theorem dX9_pair_9 : decode cX9_pair 9 = .ok (.ifCond .ne 5, 3) := by decide +kernel
theorem dX9_pair_12 : decode cX9_pair 12 = .ok (.iconst 0, 1) := by decide +kernel
theorem dX9_pair_13 : decode cX9_pair 13 = .ok (.ireturn, 1) := by decide +kernel
theorem dX9_pair_14 : decode cX9_pair 14 = .ok (.aload_n 0, 1) := by decide +kernel
theorem dX9_pair_15 : decode cX9_pair 15 = .ok (.aload_n 0, 1) := by decide +kernel
theorem dX9_pair_16 : decode cX9_pair 16 = .ok (.getfield 295, 3) := by decide +kernel
theorem dX9_pair_19 : decode cX9_pair 19 = .ok (.putfield 308, 3) := by decide +kernel
theorem dX9_pair_22 : decode cX9_pair 22 = .ok (.aload_n 0, 1) := by decide +kernel
theorem dX9_pair_23 : decode cX9_pair 23 = .ok (.bipush 62, 2) := by decide +kernel
theorem dX9_pair_25 : decode cX9_pair 25 = .ok (.invokevirtual 292, 3) := by decide +kernel
theorem dX9_pair_28 : decode cX9_pair 28 = .ok (.ifCond .eq 10, 3) := by decide +kernel
theorem dX9_pair_31 : decode cX9_pair 31 = .ok (.aload_n 0, 1) := by decide +kernel
theorem dX9_pair_32 : decode cX9_pair 32 = .ok (.invokevirtual 305, 3) := by decide +kernel
theorem dX9_pair_35 : decode cX9_pair 35 = .ok (.ifCond .ne 5, 3) := by decide +kernel
theorem dX9_pair_38 : decode cX9_pair 38 = .ok (.iconst 0, 1) := by decide +kernel
theorem dX9_pair_39 : decode cX9_pair 39 = .ok (.ireturn, 1) := by decide +kernel
theorem dX9_pair_40 : decode cX9_pair 40 = .ok (.aload_n 0, 1) := by decide +kernel
theorem dX9_pair_41 : decode cX9_pair 41 = .ok (.aload_n 0, 1) := by decide +kernel
theorem dX9_pair_42 : decode cX9_pair 42 = .ok (.getfield 295, 3) := by decide +kernel
theorem dX9_pair_45 : decode cX9_pair 45 = .ok (.putfield 311, 3) := by decide +kernel
theorem dX9_pair_48 : decode cX9_pair 48 = .ok (.iconst 1, 1) := by decide +kernel
theorem dX9_pair_49 : decode cX9_pair 49 = .ok (.ireturn, 1) := by decide +kernel
set_option maxRecDepth 20000 in
theorem ggX9_arrow_X9_here : GoodIn wsX9_arrow wsX9_here := goodIn_r _ [7, 2, 8, 9, 14, 15, 16, 17, 18, 19, 20, 21, 22, 23, 24, 25, 26, 27, 28, 29, 30, 31, 32, 33, 34, 35, 36, 37, 38, 39, 40, 41, 42, 43, 44, 45, 46, 47, 48, 49, 50, 51, 52, 53] (by decide +kernel) (by decide +kernel)
set_option maxRecDepth 20000 in
theorem gX9_arrow_X9_here : GoodIn wsX9_arrow (wsV RX9 289 RX9 yX9_here wsX9_here) := goodIn_app (goodIn_of _ (by decide +kernel)) ggX9_arrow_X9_here
set_option maxRecDepth 20000 in
theorem ggX9_arrow_X9_takes : GoodIn wsX9_arrow wsX9_takes := goodIn_r _ [13, 2, 3, 4, 5, 6, 7, 8, 9, 14, 15, 16, 17, 18, 19, 20, 21, 22, 23, 24, 25, 26, 27, 28, 29, 30, 31, 32, 33, 34, 35, 36, 37, 38, 39, 40, 41, 42, 43, 44, 45, 46, 47, 48, 49, 50, 51, 52, 53] (by decide +kernel) (by decide +kernel)
set_option maxRecDepth 20000 in
theorem gX9_arrow_X9_takes : GoodIn wsX9_arrow (wsV RX9 292 RX9 yX9_takes wsX9_takes) := goodIn_app (goodIn_of _ (by decide +kernel)) ggX9_arrow_X9_takes
theorem dX9_arrow_0 : decode cX9_arrow 0 = .ok (.aload_n 0, 1) := by decide +kernel
theorem dX9_arrow_1 : decode cX9_arrow 1 = .ok (.invokevirtual 289, 3) := by decide +kernel
theorem dX9_arrow_4 : decode cX9_arrow 4 = .ok (.istore_n 1, 1) := by decide +kernel
theorem dX9_arrow_5 : decode cX9_arrow 5 = .ok (.iload_n 1, 1) := by decide +kernel
theorem dX9_arrow_6 : decode cX9_arrow 6 = .ok (.bipush 45, 2) := by decide +kernel
theorem dX9_arrow_8 : decode cX9_arrow 8 = .ok (.if_icmp .eq 17, 3) := by decide +kernel
theorem dX9_arrow_11 : decode cX9_arrow 11 = .ok (.iload_n 1, 1) := by decide +kernel
theorem dX9_arrow_12 : decode cX9_arrow 12 = .ok (.bipush 61, 2) := by decide +kernel
theorem dX9_arrow_14 : decode cX9_arrow 14 = .ok (.if_icmp .eq 11, 3) := by decide +kernel
theorem dX9_arrow_17 : decode cX9_arrow 17 = .ok (.iload_n 1, 1) := by decide +kernel
theorem dX9_arrow_18 : decode cX9_arrow 18 = .ok (.bipush 126, 2) := by decide +kernel
theorem dX9_arrow_20 : decode cX9_arrow 20 = .ok (.if_icmp .eq 5, 3) := by decide +kernel
theorem dX9_arrow_23 : decode cX9_arrow 23 = .ok (.iconst 0, 1) := by decide +kernel
theorem dX9_arrow_24 : decode cX9_arrow 24 = .ok (.ireturn, 1) := by decide +kernel
theorem dX9_arrow_25 : decode cX9_arrow 25 = .ok (.aload_n 0, 1) := by decide +kernel
theorem dX9_arrow_26 : decode cX9_arrow 26 = .ok (.iload_n 1, 1) := by decide +kernel
theorem dX9_arrow_27 : decode cX9_arrow 27 = .ok (.bipush 45, 2) := by decide +kernel
theorem dX9_arrow_29 : decode cX9_arrow 29 = .ok (.if_icmp .ne 7, 3) := by decide +kernel
theorem dX9_arrow_32 : decode cX9_arrow 32 = .ok (.iconst 0, 1) := by decide +kernel
theorem dX9_arrow_33 : decode cX9_arrow 33 = .ok (.goto 14, 3) := by decide +kernel
theorem dX9_arrow_36 : decode cX9_arrow 36 = .ok (.iload_n 1, 1) := by decide +kernel
theorem dX9_arrow_37 : decode cX9_arrow 37 = .ok (.bipush 61, 2) := by decide +kernel
theorem dX9_arrow_39 : decode cX9_arrow 39 = .ok (.if_icmp .ne 7, 3) := by decide +kernel
theorem dX9_arrow_42 : decode cX9_arrow 42 = .ok (.iconst 1, 1) := by decide +kernel
theorem dX9_arrow_43 : decode cX9_arrow 43 = .ok (.goto 4, 3) := by decide +kernel
theorem dX9_arrow_46 : decode cX9_arrow 46 = .ok (.iconst 2, 1) := by decide +kernel
theorem dX9_arrow_47 : decode cX9_arrow 47 = .ok (.putfield 314, 3) := by decide +kernel
theorem dX9_arrow_50 : decode cX9_arrow 50 = .ok (.aload_n 0, 1) := by decide +kernel
theorem dX9_arrow_51 : decode cX9_arrow 51 = .ok (.dup, 1) := by decide +kernel
theorem dX9_arrow_52 : decode cX9_arrow 52 = .ok (.getfield 286, 3) := by decide +kernel
theorem dX9_arrow_55 : decode cX9_arrow 55 = .ok (.iconst 1, 1) := by decide +kernel
theorem dX9_arrow_56 : decode cX9_arrow 56 = .ok (.iadd, 1) := by decide +kernel
theorem dX9_arrow_57 : decode cX9_arrow 57 = .ok (.putfield 286, 3) := by decide +kernel
theorem dX9_arrow_60 : decode cX9_arrow 60 = .ok (.aload_n 0, 1) := by decide +kernel
theorem dX9_arrow_61 : decode cX9_arrow 61 = .ok (.bipush 62, 2) := by decide +kernel
theorem dX9_arrow_63 : decode cX9_arrow 63 = .ok (.invokevirtual 292, 3) := by decide +kernel
theorem dX9_arrow_66 : decode cX9_arrow 66 = .ok (.ireturn, 1) := by decide +kernel
set_option maxRecDepth 20000 in
theorem ggX9_isBodyHere_X9_here : GoodIn wsX9_isBodyHere wsX9_here := goodIn_r _ [8, 1, 2, 3, 12, 13, 14, 15, 16, 17, 18, 19, 20, 21, 22, 23, 24, 25, 26, 27, 28, 29, 30, 31, 32, 33, 34, 35, 36, 37, 38, 39, 40, 41, 42, 43, 44, 45, 46, 47, 48, 49, 50, 51] (by decide +kernel) (by decide +kernel)
set_option maxRecDepth 20000 in
theorem gX9_isBodyHere_X9_here : GoodIn wsX9_isBodyHere (wsV RX9 289 RX9 yX9_here wsX9_here) := goodIn_app (goodIn_of _ (by decide +kernel)) ggX9_isBodyHere_X9_here
set_option maxRecDepth 20000 in
theorem ggX9_isBodyHere_X9_in : GoodIn wsX9_isBodyHere wsX9_in := goodIn_r _ [11] (by decide +kernel) (by decide +kernel)
set_option maxRecDepth 20000 in
theorem gX9_isBodyHere_X9_in : GoodIn wsX9_isBodyHere (va_wsS RX9 73 yX9_in wsX9_in) := goodIn_app (goodIn_of _ (by decide +kernel)) ggX9_isBodyHere_X9_in
theorem dX9_isBodyHere_0 : decode cX9_isBodyHere 0 = .ok (.aload_n 0, 1) := by decide +kernel
theorem dX9_isBodyHere_1 : decode cX9_isBodyHere 1 = .ok (.invokevirtual 289, 3) := by decide +kernel
theorem dX9_isBodyHere_4 : decode cX9_isBodyHere 4 = .ok (.bipush 97, 2) := by decide +kernel
theorem dX9_isBodyHere_6 : decode cX9_isBodyHere 6 = .ok (.bipush 106, 2) := by decide +kernel
theorem dX9_isBodyHere_8 : decode cX9_isBodyHere 8 = .ok (.invokestatic 73, 3) := by decide +kernel
theorem dX9_isBodyHere_11 : decode cX9_isBodyHere 11 = .ok (.ifCond .ne 41, 3) := by decide +kernel
theorem dX9_isBodyHere_14 : decode cX9_isBodyHere 14 = .ok (.aload_n 0, 1) := by decide +kernel
theorem dX9_isBodyHere_15 : decode cX9_isBodyHere 15 = .ok (.invokevirtual 289, 3) := by decide +kernel
theorem dX9_isBodyHere_18 : decode cX9_isBodyHere 18 = .ok (.bipush 126, 2) := by decide +kernel
theorem dX9_isBodyHere_20 : decode cX9_isBodyHere 20 = .ok (.if_icmp .ne 36, 3) := by decide +kernel
theorem dX9_isBodyHere_23 : decode cX9_isBodyHere 23 = .ok (.aload_n 0, 1) := by decide +kernel
theorem dX9_isBodyHere_24 : decode cX9_isBodyHere 24 = .ok (.getfield 286, 3) := by decide +kernel
theorem dX9_isBodyHere_27 : decode cX9_isBodyHere 27 = .ok (.iconst 1, 1) := by decide +kernel
theorem dX9_isBodyHere_28 : decode cX9_isBodyHere 28 = .ok (.iadd, 1) := by decide +kernel
theorem dX9_isBodyHere_29 : decode cX9_isBodyHere 29 = .ok (.aload_n 0, 1) := by decide +kernel
theorem dX9_isBodyHere_30 : decode cX9_isBodyHere 30 = .ok (.getfield 266, 3) := by decide +kernel
theorem dX9_isBodyHere_33 : decode cX9_isBodyHere 33 = .ok (.if_icmp .ge 19, 3) := by decide +kernel
theorem dX9_isBodyHere_36 : decode cX9_isBodyHere 36 = .ok (.aload_n 0, 1) := by decide +kernel
theorem dX9_isBodyHere_37 : decode cX9_isBodyHere 37 = .ok (.getfield 34, 3) := by decide +kernel
theorem dX9_isBodyHere_40 : decode cX9_isBodyHere 40 = .ok (.aload_n 0, 1) := by decide +kernel
theorem dX9_isBodyHere_41 : decode cX9_isBodyHere 41 = .ok (.getfield 286, 3) := by decide +kernel
theorem dX9_isBodyHere_44 : decode cX9_isBodyHere 44 = .ok (.iconst 1, 1) := by decide +kernel
theorem dX9_isBodyHere_45 : decode cX9_isBodyHere 45 = .ok (.iadd, 1) := by decide +kernel
theorem dX9_isBodyHere_46 : decode cX9_isBodyHere 46 = .ok (.iaload, 1) := by decide +kernel
theorem dX9_isBodyHere_47 : decode cX9_isBodyHere 47 = .ok (.bipush 62, 2) := by decide +kernel
theorem dX9_isBodyHere_49 : decode cX9_isBodyHere 49 = .ok (.if_icmp .eq 7, 3) := by decide +kernel
theorem dX9_isBodyHere_52 : decode cX9_isBodyHere 52 = .ok (.iconst 1, 1) := by decide +kernel
theorem dX9_isBodyHere_53 : decode cX9_isBodyHere 53 = .ok (.goto 4, 3) := by decide +kernel
theorem dX9_isBodyHere_56 : decode cX9_isBodyHere 56 = .ok (.iconst 0, 1) := by decide +kernel
theorem dX9_isBodyHere_57 : decode cX9_isBodyHere 57 = .ok (.ireturn, 1) := by decide +kernel
set_option maxRecDepth 20000 in
theorem ggX9_rule__X9_isBodyHere : GoodIn wsX9_rule_ wsX9_isBodyHere := goodIn_r _ [12, 7, 13, 14, 15, 16, 17, 11, 18, 19, 20, 21, 39, 40, 41, 42, 43, 44, 45, 46, 47, 48, 49, 50, 51, 52, 53, 54, 55, 56, 57, 58, 59, 60, 61, 62, 63, 64, 65, 66, 67, 68, 69, 70, 71, 72, 73, 74, 75, 76, 77, 78] (by decide +kernel) (by decide +kernel)
set_option maxRecDepth 20000 in
theorem gX9_rule__X9_isBodyHere : GoodIn wsX9_rule_ (wsV RX9 326 RX9 yX9_isBodyHere wsX9_isBodyHere) := goodIn_app (goodIn_of _ (by decide +kernel)) ggX9_rule__X9_isBodyHere
set_option maxRecDepth 20000 in
theorem ggX9_rule__X9_literals : GoodIn wsX9_rule_ wsX9_literals := goodIn_r _ [25, 5, 26, 27, 28, 11, 29, 7, 30, 31, 32, 33, 15, 16, 17, 18, 13, 14, 19, 20, 21, 39, 40, 41, 42, 43, 44, 45, 46, 47, 48, 49, 50, 51, 52, 53, 54, 55, 56, 57, 58, 59, 60, 61, 62, 63, 64, 65, 66, 67, 68, 69, 70, 71, 72, 73, 74, 75, 76, 77, 78] (by decide +kernel) (by decide +kernel)
set_option maxRecDepth 20000 in
theorem gX9_rule__X9_literals : GoodIn wsX9_rule_ (wsV RX9 329 RX9 yX9_literals wsX9_literals) := goodIn_app (goodIn_of _ (by decide +kernel)) ggX9_rule__X9_literals
set_option maxRecDepth 20000 in
theorem ggX9_rule__X9_arrow : GoodIn wsX9_rule_ wsX9_arrow := goodIn_r _ [37, 38, 7, 15, 16, 17, 11, 18, 13, 14, 30, 31, 32, 33, 39, 40, 41, 42, 43, 44, 45, 46, 47, 48, 49, 50, 51, 52, 53, 54, 55, 56, 57, 58, 59, 60, 61, 62, 63, 64, 65, 66, 67, 68, 69, 70, 71, 72, 73, 74, 75, 76, 77, 78] (by decide +kernel) (by decide +kernel)
set_option maxRecDepth 20000 in
theorem gX9_rule__X9_arrow : GoodIn wsX9_rule_ (wsV RX9 332 RX9 yX9_arrow wsX9_arrow) := goodIn_app (goodIn_of _ (by decide +kernel)) ggX9_rule__X9_arrow
set_option maxRecDepth 20000 in
theorem ggX9_rule__X9_literal : GoodIn wsX9_rule_ wsX9_literal := goodIn_r _ [29, 5, 7, 30, 31, 32, 11, 33, 15, 16, 17, 18, 13, 14, 19, 20, 21, 39, 40, 41, 42, 43, 44, 45, 46, 47, 48, 49, 50, 51, 52, 53, 54, 55, 56, 57, 58, 59, 60, 61, 62, 63, 64, 65, 66, 67, 68, 69, 70, 71, 72, 73, 74, 75, 76, 77, 78] (by decide +kernel) (by decide +kernel)
set_option maxRecDepth 20000 in
theorem gX9_rule__X9_literal : GoodIn wsX9_rule_ (wsV RX9 298 RX9 yX9_literal wsX9_literal) := goodIn_app (goodIn_of _ (by decide +kernel)) ggX9_rule__X9_literal
set_option maxRecDepth 20000 in
theorem ggX9_rule__X9_takes : GoodIn wsX9_rule_ wsX9_takes := goodIn_r _ [33, 7, 15, 16, 17, 11, 18, 13, 14, 39, 40, 41, 42, 43, 44, 45, 46, 47, 48, 49, 50, 51, 52, 53, 54, 55, 56, 57, 58, 59, 60, 61, 62, 63, 64, 65, 66, 67, 68, 69, 70, 71, 72, 73, 74, 75, 76, 77, 78] (by decide +kernel) (by decide +kernel)
set_option maxRecDepth 20000 in
theorem gX9_rule__X9_takes : GoodIn wsX9_rule_ (wsV RX9 292 RX9 yX9_takes wsX9_takes) := goodIn_app (goodIn_of _ (by decide +kernel)) ggX9_rule__X9_takes
set_option maxRecDepth 20000 in
theorem ggX9_rule__X9_here : GoodIn wsX9_rule_ wsX9_here := goodIn_r _ [18, 7, 13, 14, 39, 40, 41, 42, 43, 44, 45, 46, 47, 48, 49, 50, 51, 52, 53, 54, 55, 56, 57, 58, 59, 60, 61, 62, 63, 64, 65, 66, 67, 68, 69, 70, 71, 72, 73, 74, 75, 76, 77, 78] (by decide +kernel) (by decide +kernel)
set_option maxRecDepth 20000 in
theorem gX9_rule__X9_here : GoodIn wsX9_rule_ (wsV RX9 289 RX9 yX9_here wsX9_here) := goodIn_app (goodIn_of _ (by decide +kernel)) ggX9_rule__X9_here
set_option maxRecDepth 20000 in
theorem ggX9_rule__X9_in : GoodIn wsX9_rule_ wsX9_in := goodIn_r _ [21] (by decide +kernel) (by decide +kernel)
set_option maxRecDepth 20000 in
theorem gX9_rule__X9_in : GoodIn wsX9_rule_ (va_wsS RX9 73 yX9_in wsX9_in) := goodIn_app (goodIn_of _ (by decide +kernel)) ggX9_rule__X9_in
theorem dX9_rule__0 : decode cX9_rule_ 0 = .ok (.aload_n 0, 1) := by decide +kernel
theorem dX9_rule__1 : decode cX9_rule_ 1 = .ok (.iconst 1, 1) := by decide +kernel
theorem dX9_rule__2 : decode cX9_rule_ 2 = .ok (.putfield 302, 3) := by decide +kernel
theorem dX9_rule__5 : decode cX9_rule_ 5 = .ok (.aload_n 0, 1) := by decide +kernel
theorem dX9_rule__6 : decode cX9_rule_ 6 = .ok (.iconst 0, 1) := by decide +kernel
theorem dX9_rule__7 : decode cX9_rule_ 7 = .ok (.putfield 317, 3) := by decide +kernel
theorem dX9_rule__10 : decode cX9_rule_ 10 = .ok (.aload_n 0, 1) := by decide +kernel
theorem dX9_rule__11 : decode cX9_rule_ 11 = .ok (.iconst 0, 1) := by decide +kernel
theorem dX9_rule__12 : decode cX9_rule_ 12 = .ok (.putfield 320, 3) := by decide +kernel
theorem dX9_rule__15 : decode cX9_rule_ 15 = .ok (.aload_n 0, 1) := by decide +kernel
theorem dX9_rule__16 : decode cX9_rule_ 16 = .ok (.iconst 0, 1) := by decide +kernel
theorem dX9_rule__17 : decode cX9_rule_ 17 = .ok (.putfield 323, 3) := by decide +kernel
theorem dX9_rule__20 : decode cX9_rule_ 20 = .ok (.aload_n 0, 1) := by decide +kernel
theorem dX9_rule__21 : decode cX9_rule_ 21 = .ok (.invokevirtual 326, 3) := by decide +kernel
theorem dX9_rule__24 : decode cX9_rule_ 24 = .ok (.ifCond .eq 20, 3) := by decide +kernel
theorem dX9_rule__27 : decode cX9_rule_ 27 = .ok (.aload_n 0, 1) := by decide +kernel
theorem dX9_rule__28 : decode cX9_rule_ 28 = .ok (.invokevirtual 329, 3) := by decide +kernel
theorem dX9_rule__31 : decode cX9_rule_ 31 = .ok (.ifCond .ne 5, 3) := by decide +kernel
theorem dX9_rule__34 : decode cX9_rule_ 34 = .ok (.iconst 0, 1) := by decide +kernel
theorem dX9_rule__35 : decode cX9_rule_ 35 = .ok (.ireturn, 1) := by decide +kernel
theorem dX9_rule__36 : decode cX9_rule_ 36 = .ok (.aload_n 0, 1) := by decide +kernel
theorem dX9_rule__37 : decode cX9_rule_ 37 = .ok (.aload_n 0, 1) := by decide +kernel
theorem dX9_rule__38 : decode cX9_rule_ 38 = .ok (.getfield 295, 3) := by decide +kernel
theorem dX9_rule__41 : decode cX9_rule_ 41 = .ok (.putfield 317, 3) := by decide +kernel
theorem dX9_rule__44 : decode cX9_rule_ 44 = .ok (.aload_n 0, 1) := by decide +kernel
theorem dX9_rule__45 : decode cX9_rule_ 45 = .ok (.invokevirtual 332, 3) := by decide +kernel
theorem dX9_rule__48 : decode cX9_rule_ 48 = .ok (.ifCond .eq 10, 3) := by decide +kernel
theorem dX9_rule__51 : decode cX9_rule_ 51 = .ok (.aload_n 0, 1) := by decide +kernel
theorem dX9_rule__52 : decode cX9_rule_ 52 = .ok (.invokevirtual 298, 3) := by decide +kernel
theorem dX9_rule__55 : decode cX9_rule_ 55 = .ok (.ifCond .ne 5, 3) := by decide +kernel
theorem dX9_rule__58 : decode cX9_rule_ 58 = .ok (.iconst 0, 1) := by decide +kernel
theorem dX9_rule__59 : decode cX9_rule_ 59 = .ok (.ireturn, 1) := by decide +kernel
theorem dX9_rule__60 : decode cX9_rule_ 60 = .ok (.aload_n 0, 1) := by decide +kernel
theorem dX9_rule__61 : decode cX9_rule_ 61 = .ok (.aload_n 0, 1) := by decide +kernel
theorem dX9_rule__62 : decode cX9_rule_ 62 = .ok (.getfield 295, 3) := by decide +kernel
theorem dX9_rule__65 : decode cX9_rule_ 65 = .ok (.putfield 335, 3) := by decide +kernel
theorem dX9_rule__68 : decode cX9_rule_ 68 = .ok (.aload_n 0, 1) := by decide +kernel
theorem dX9_rule__69 : decode cX9_rule_ 69 = .ok (.bipush 63, 2) := by decide +kernel
theorem dX9_rule__71 : decode cX9_rule_ 71 = .ok (.invokevirtual 292, 3) := by decide +kernel
theorem dX9_rule__74 : decode cX9_rule_ 74 = .ok (.ifCond .eq 20, 3) := by decide +kernel
theorem dX9_rule__77 : decode cX9_rule_ 77 = .ok (.aload_n 0, 1) := by decide +kernel
theorem dX9_rule__78 : decode cX9_rule_ 78 = .ok (.invokevirtual 329, 3) := by decide +kernel
theorem dX9_rule__81 : decode cX9_rule_ 81 = .ok (.ifCond .ne 5, 3) := by decide +kernel
theorem dX9_rule__84 : decode cX9_rule_ 84 = .ok (.iconst 0, 1) := by decide +kernel
theorem dX9_rule__85 : decode cX9_rule_ 85 = .ok (.ireturn, 1) := by decide +kernel
theorem dX9_rule__86 : decode cX9_rule_ 86 = .ok (.aload_n 0, 1) := by decide +kernel
theorem dX9_rule__87 : decode cX9_rule_ 87 = .ok (.aload_n 0, 1) := by decide +kernel
theorem dX9_rule__88 : decode cX9_rule_ 88 = .ok (.getfield 295, 3) := by decide +kernel
theorem dX9_rule__91 : decode cX9_rule_ 91 = .ok (.putfield 320, 3) := by decide +kernel
theorem dX9_rule__94 : decode cX9_rule_ 94 = .ok (.aload_n 0, 1) := by decide +kernel
theorem dX9_rule__95 : decode cX9_rule_ 95 = .ok (.bipush 42, 2) := by decide +kernel
theorem dX9_rule__97 : decode cX9_rule_ 97 = .ok (.invokevirtual 292, 3) := by decide +kernel
theorem dX9_rule__100 : decode cX9_rule_ 100 = .ok (.ifCond .eq 40, 3) := by decide +kernel
theorem dX9_rule__103 : decode cX9_rule_ 103 = .ok (.aload_n 0, 1) := by decide +kernel
theorem dX9_rule__104 : decode cX9_rule_ 104 = .ok (.invokevirtual 289, 3) := by decide +kernel
theorem dX9_rule__107 : decode cX9_rule_ 107 = .ok (.bipush 48, 2) := by decide +kernel
theorem dX9_rule__109 : decode cX9_rule_ 109 = .ok (.bipush 57, 2) := by decide +kernel
theorem dX9_rule__111 : decode cX9_rule_ 111 = .ok (.invokestatic 73, 3) := by decide +kernel
theorem dX9_rule__114 : decode cX9_rule_ 114 = .ok (.ifCond .ne 5, 3) := by decide +kernel
theorem dX9_rule__117 : decode cX9_rule_ 117 = .ok (.iconst 0, 1) := by decide +kernel
theorem dX9_rule__118 : decode cX9_rule_ 118 = .ok (.ireturn, 1) := by decide +kernel
theorem dX9_rule__119 : decode cX9_rule_ 119 = .ok (.aload_n 0, 1) := by decide +kernel
theorem dX9_rule__120 : decode cX9_rule_ 120 = .ok (.aload_n 0, 1) := by decide +kernel
theorem dX9_rule__121 : decode cX9_rule_ 121 = .ok (.invokevirtual 289, 3) := by decide +kernel
theorem dX9_rule__124 : decode cX9_rule_ 124 = .ok (.bipush 48, 2) := by decide +kernel
theorem dX9_rule__126 : decode cX9_rule_ 126 = .ok (.isub, 1) := by decide +kernel
theorem dX9_rule__127 : decode cX9_rule_ 127 = .ok (.putfield 323, 3) := by decide +kernel
theorem dX9_rule__130 : decode cX9_rule_ 130 = .ok (.aload_n 0, 1) := by decide +kernel
theorem dX9_rule__131 : decode cX9_rule_ 131 = .ok (.dup, 1) := by decide +kernel
theorem dX9_rule__132 : decode cX9_rule_ 132 = .ok (.getfield 286, 3) := by decide +kernel
theorem dX9_rule__135 : decode cX9_rule_ 135 = .ok (.iconst 1, 1) := by decide +kernel
theorem dX9_rule__136 : decode cX9_rule_ 136 = .ok (.iadd, 1) := by decide +kernel
theorem dX9_rule__137 : decode cX9_rule_ 137 = .ok (.putfield 286, 3) := by decide +kernel
theorem dX9_rule__140 : decode cX9_rule_ 140 = .ok (.iconst 1, 1) := by decide +kernel
theorem dX9_rule__141 : decode cX9_rule_ 141 = .ok (.ireturn, 1) := by decide +kernel
set_option maxRecDepth 20000 in
theorem ggX9_statement_X9_takes : GoodIn wsX9_statement wsX9_takes := goodIn_r _ [8, 9, 10, 11, 12, 7, 13, 14, 15, 53, 54, 55, 56, 57, 58, 59, 60, 61, 62, 63, 64, 65, 66, 67, 68, 69, 70, 71, 72, 73, 74, 75, 76, 77, 78, 79, 80, 81, 82, 83, 84, 85, 86, 87, 88, 89, 90, 91, 92] (by decide +kernel) (by decide +kernel)
set_option maxRecDepth 20000 in
theorem gX9_statement_X9_takes : GoodIn wsX9_statement (wsV RX9 292 RX9 yX9_takes wsX9_takes) := goodIn_app (goodIn_of _ (by decide +kernel)) ggX9_statement_X9_takes
set_option maxRecDepth 20000 in
theorem ggX9_statement_X9_literal : GoodIn wsX9_statement wsX9_literal := goodIn_r _ [19, 2, 9, 4, 5, 6, 7, 8, 10, 11, 12, 13, 14, 15, 20, 21, 22, 53, 54, 55, 56, 57, 58, 59, 60, 61, 62, 63, 64, 65, 66, 67, 68, 69, 70, 71, 72, 73, 74, 75, 76, 77, 78, 79, 80, 81, 82, 83, 84, 85, 86, 87, 88, 89, 90, 91, 92] (by decide +kernel) (by decide +kernel)
set_option maxRecDepth 20000 in
theorem gX9_statement_X9_literal : GoodIn wsX9_statement (wsV RX9 298 RX9 yX9_literal wsX9_literal) := goodIn_app (goodIn_of _ (by decide +kernel)) ggX9_statement_X9_literal
set_option maxRecDepth 20000 in
theorem ggX9_statement_X9_here : GoodIn wsX9_statement wsX9_here := goodIn_r _ [13, 9, 14, 15, 53, 54, 55, 56, 57, 58, 59, 60, 61, 62, 63, 64, 65, 66, 67, 68, 69, 70, 71, 72, 73, 74, 75, 76, 77, 78, 79, 80, 81, 82, 83, 84, 85, 86, 87, 88, 89, 90, 91, 92] (by decide +kernel) (by decide +kernel)
set_option maxRecDepth 20000 in
theorem gX9_statement_X9_here : GoodIn wsX9_statement (wsV RX9 289 RX9 yX9_here wsX9_here) := goodIn_app (goodIn_of _ (by decide +kernel)) ggX9_statement_X9_here
set_option maxRecDepth 20000 in
theorem ggX9_statement_X9_in : GoodIn wsX9_statement wsX9_in := goodIn_r _ [22] (by decide +kernel) (by decide +kernel)
set_option maxRecDepth 20000 in
theorem gX9_statement_X9_in : GoodIn wsX9_statement (va_wsS RX9 73 yX9_in wsX9_in) := goodIn_app (goodIn_of _ (by decide +kernel)) ggX9_statement_X9_in
set_option maxRecDepth 20000 in
theorem ggX9_statement_X9_pair : GoodIn wsX9_statement wsX9_pair := goodIn_r _ [26, 1, 2, 27, 28, 29, 30, 31, 7, 32, 9, 10, 11, 12, 13, 14, 15, 20, 21, 22, 4, 5, 6, 8, 53, 54, 55, 56, 57, 58, 59, 60, 61, 62, 63, 64, 65, 66, 67, 68, 69, 70, 71, 72, 73, 74, 75, 76, 77, 78, 79, 80, 81, 82, 83, 84, 85, 86, 87, 88, 89, 90, 91, 92] (by decide +kernel) (by decide +kernel)
set_option maxRecDepth 20000 in
theorem gX9_statement_X9_pair : GoodIn wsX9_statement (wsV RX9 338 RX9 yX9_pair wsX9_pair) := goodIn_app (goodIn_of _ (by decide +kernel)) ggX9_statement_X9_pair
set_option maxRecDepth 20000 in
theorem ggX9_statement_X9_rule_ : GoodIn wsX9_statement wsX9_rule_ := goodIn_r _ [36, 1, 37, 38, 39, 2, 3, 9, 40, 41, 42, 7, 43, 14, 15, 10, 11, 12, 13, 20, 21, 22, 44, 45, 46, 47, 16, 17, 18, 19, 4, 5, 6, 8, 48, 49, 50, 51, 52, 53, 54, 55, 56, 57, 58, 59, 60, 61, 62, 63, 64, 65, 66, 67, 68, 69, 70, 71, 72, 73, 74, 75, 76, 77, 78, 79, 80, 81, 82, 83, 84, 85, 86, 87, 88, 89, 90, 91, 92] (by decide +kernel) (by decide +kernel)
set_option maxRecDepth 20000 in
theorem gX9_statement_X9_rule_ : GoodIn wsX9_statement (wsV RX9 341 RX9 yX9_rule_ wsX9_rule_) := goodIn_app (goodIn_of _ (by decide +kernel)) ggX9_statement_X9_rule_
theorem dX9_statement_0 : decode cX9_statement 0 = .ok (.aload_n 0, 1) := by decide +kernel
theorem dX9_statement_1 : decode cX9_statement 1 = .ok (.bipush 33, 2) := by decide +kernel
theorem dX9_statement_3 : decode cX9_statement 3 = .ok (.invokevirtual 292, 3) := by decide +kernel
theorem dX9_statement_6 : decode cX9_statement 6 = .ok (.ifCond .eq 27, 3) := by decide +kernel
theorem dX9_statement_9 : decode cX9_statement 9 = .ok (.aload_n 0, 1) := by decide +kernel
theorem dX9_statement_10 : decode cX9_statement 10 = .ok (.iconst 0, 1) := by decide +kernel
theorem dX9_statement_11 : decode cX9_statement 11 = .ok (.putfield 302, 3) := by decide +kernel
theorem dX9_statement_14 : decode cX9_statement 14 = .ok (.aload_n 0, 1) := by decide +kernel
theorem dX9_statement_15 : decode cX9_statement 15 = .ok (.invokevirtual 298, 3) := by decide +kernel
theorem dX9_statement_18 : decode cX9_statement 18 = .ok (.ifCond .ne 5, 3) := by decide +kernel
theorem dX9_statement_21 : decode cX9_statement 21 = .ok (.iconst 0, 1) := by decide +kernel
theorem dX9_statement_22 : decode cX9_statement 22 = .ok (.ireturn, 1) := by decide +kernel
theorem dX9_statement_23 : decode cX9_statement 23 = .ok (.aload_n 0, 1) := by decide +kernel
theorem dX9_statement_24 : decode cX9_statement 24 = .ok (.aload_n 0, 1) := by decide +kernel
theorem dX9_statement_25 : decode cX9_statement 25 = .ok (.getfield 295, 3) := by decide +kernel
theorem dX9_statement_28 : decode cX9_statement 28 = .ok (.putfield 335, 3) := by decide +kernel
theorem dX9_statement_31 : decode cX9_statement 31 = .ok (.iconst 1, 1) := by decide +kernel
theorem dX9_statement_32 : decode cX9_statement 32 = .ok (.ireturn, 1) := by decide +kernel
theorem dX9_statement_33 : decode cX9_statement 33 = .ok (.aload_n 0, 1) := by decide +kernel
theorem dX9_statement_34 : decode cX9_statement 34 = .ok (.invokevirtual 289, 3) := by decide +kernel
theorem dX9_statement_37 : decode cX9_statement 37 = .ok (.bipush 48, 2) := by decide +kernel
theorem dX9_statement_39 : decode cX9_statement 39 = .ok (.bipush 57, 2) := by decide +kernel
theorem dX9_statement_41 : decode cX9_statement 41 = .ok (.invokestatic 73, 3) := by decide +kernel
theorem dX9_statement_44 : decode cX9_statement 44 = .ok (.ifCond .eq 10, 3) := by decide +kernel
theorem dX9_statement_47 : decode cX9_statement 47 = .ok (.aload_n 0, 1) := by decide +kernel
theorem dX9_statement_48 : decode cX9_statement 48 = .ok (.invokevirtual 338, 3) := by decide +kernel
theorem dX9_statement_51 : decode cX9_statement 51 = .ok (.goto 7, 3) := by decide +kernel
theorem dX9_statement_54 : decode cX9_statement 54 = .ok (.aload_n 0, 1) := by decide +kernel
theorem dX9_statement_55 : decode cX9_statement 55 = .ok (.invokevirtual 341, 3) := by decide +kernel
theorem dX9_statement_58 : decode cX9_statement 58 = .ok (.ireturn, 1) := by decide +kernel
set_option maxRecDepth 20000 in
theorem ggX9_isDone_X9_has : GoodIn wsX9_isDone wsX9_has := goodIn_r _ [14] (by decide +kernel) (by decide +kernel)
set_option maxRecDepth 20000 in
theorem gX9_isDone_X9_has : GoodIn wsX9_isDone (va_wsS RX9 122 yX9_has wsX9_has) := goodIn_app (goodIn_of _ (by decide +kernel)) ggX9_isDone_X9_has
set_option maxRecDepth 20000 in
theorem ggX9_isDone_X9_fact : GoodIn wsX9_isDone wsX9_fact := goodIn_r _ [18, 2, 19, 20, 13, 21, 22, 23, 24, 25, 26, 27, 28, 29, 30, 31, 32, 33, 34, 35, 36, 37, 38, 10, 39, 40, 41, 42, 43, 44, 45, 67, 68, 69, 70, 71, 72, 73, 74, 75, 76, 77, 78, 79, 80, 81, 82, 83, 84, 85, 86, 87, 88, 89, 90, 91, 92, 93, 94, 95, 96, 97, 98, 99, 100, 101, 102, 103, 104, 105, 106] (by decide +kernel) (by decide +kernel)
set_option maxRecDepth 20000 in
theorem gX9_isDone_X9_fact : GoodIn wsX9_isDone (wsV RX9 344 RX9 yX9_fact wsX9_fact) := goodIn_app (goodIn_of _ (by decide +kernel)) ggX9_isDone_X9_fact
set_option maxRecDepth 20000 in
theorem ggX9_isDone_X9_rule : GoodIn wsX9_isDone wsX9_rule := goodIn_r _ [49, 50, 36, 22, 23, 13, 24, 19, 20, 21, 51, 52, 53, 54, 55, 56, 57, 58, 38, 37, 10, 28, 29, 30, 31, 32, 33, 34, 35, 2, 39, 40, 41, 42, 43, 44, 45, 67, 68, 69, 70, 71, 72, 73, 74, 75, 76, 77, 78, 79, 80, 81, 82, 83, 84, 85, 86, 87, 88, 89, 90, 91, 92, 93, 94, 95, 96, 97, 98, 99, 100, 101, 102, 103, 104, 105, 106] (by decide +kernel) (by decide +kernel)
set_option maxRecDepth 20000 in
theorem gX9_isDone_X9_rule : GoodIn wsX9_isDone (wsV RX9 347 RX9 yX9_rule wsX9_rule) := goodIn_app (goodIn_of _ (by decide +kernel)) ggX9_isDone_X9_rule
set_option maxRecDepth 20000 in
theorem ggX9_isDone_X9_isRule : GoodIn wsX9_isDone wsX9_isRule := goodIn_r _ [62, 36, 22, 23, 13, 24, 67, 68, 69, 70, 71, 72, 73, 74, 75, 76, 77, 78, 79, 80, 81, 82, 83, 84, 85, 86, 87, 88, 89, 90, 91, 92, 93, 94, 95, 96, 97, 98, 99, 100, 101, 102, 103, 104, 105, 106] (by decide +kernel) (by decide +kernel)
set_option maxRecDepth 20000 in
theorem gX9_isDone_X9_isRule : GoodIn wsX9_isDone (wsV RX9 119 RX9 yX9_isRule wsX9_isRule) := goodIn_app (goodIn_of _ (by decide +kernel)) ggX9_isDone_X9_isRule
set_option maxRecDepth 20000 in
theorem ggX9_isDone_X9_over : GoodIn wsX9_isDone wsX9_over := goodIn_r _ [66, 10, 59, 60, 61, 13, 62, 36, 22, 23, 24, 25, 26, 27, 11, 12, 14, 28, 29, 30, 31, 32, 33, 34, 35, 2, 37, 38, 39, 40, 41, 42, 43, 44, 45, 67, 68, 69, 70, 71, 72, 73, 74, 75, 76, 77, 78, 79, 80, 81, 82, 83, 84, 85, 86, 87, 88, 89, 90, 91, 92, 93, 94, 95, 96, 97, 98, 99, 100, 101, 102, 103, 104, 105, 106] (by decide +kernel) (by decide +kernel)
set_option maxRecDepth 20000 in
theorem gX9_isDone_X9_over : GoodIn wsX9_isDone (wsV RX9 349 RX9 yX9_over wsX9_over) := goodIn_app (goodIn_of _ (by decide +kernel)) ggX9_isDone_X9_over
theorem dX9_isDone_0 : decode cX9_isDone 0 = .ok (.aload_n 0, 1) := by decide +kernel
theorem dX9_isDone_1 : decode cX9_isDone 1 = .ok (.getfield 302, 3) := by decide +kernel
theorem dX9_isDone_4 : decode cX9_isDone 4 = .ok (.ifCond .ne 35, 3) := by decide +kernel
theorem dX9_isDone_7 : decode cX9_isDone 7 = .ok (.aload_n 0, 1) := by decide +kernel
theorem dX9_isDone_8 : decode cX9_isDone 8 = .ok (.getfield 93, 3) := by decide +kernel
theorem dX9_isDone_11 : decode cX9_isDone 11 = .ok (.aload_n 0, 1) := by decide +kernel
theorem dX9_isDone_12 : decode cX9_isDone 12 = .ok (.getfield 335, 3) := by decide +kernel
theorem dX9_isDone_15 : decode cX9_isDone 15 = .ok (.invokestatic 122, 3) := by decide +kernel
theorem dX9_isDone_18 : decode cX9_isDone 18 = .ok (.ifCond .ne 19, 3) := by decide +kernel
theorem dX9_isDone_21 : decode cX9_isDone 21 = .ok (.aload_n 0, 1) := by decide +kernel
theorem dX9_isDone_22 : decode cX9_isDone 22 = .ok (.aload_n 0, 1) := by decide +kernel
theorem dX9_isDone_23 : decode cX9_isDone 23 = .ok (.getfield 335, 3) := by decide +kernel
theorem dX9_isDone_26 : decode cX9_isDone 26 = .ok (.iconst 1, 1) := by decide +kernel
theorem dX9_isDone_27 : decode cX9_isDone 27 = .ok (.invokevirtual 344, 3) := by decide +kernel
theorem dX9_isDone_30 : decode cX9_isDone 30 = .ok (.ifCond .ne 7, 3) := by decide +kernel
theorem dX9_isDone_33 : decode cX9_isDone 33 = .ok (.iconst 1, 1) := by decide +kernel
theorem dX9_isDone_34 : decode cX9_isDone 34 = .ok (.goto 4, 3) := by decide +kernel
theorem dX9_isDone_37 : decode cX9_isDone 37 = .ok (.iconst 0, 1) := by decide +kernel
theorem dX9_isDone_38 : decode cX9_isDone 38 = .ok (.ireturn, 1) := by decide +kernel
theorem dX9_isDone_39 : decode cX9_isDone 39 = .ok (.aload_n 0, 1) := by decide +kernel
theorem dX9_isDone_40 : decode cX9_isDone 40 = .ok (.getfield 302, 3) := by decide +kernel
theorem dX9_isDone_43 : decode cX9_isDone 43 = .ok (.iconst 1, 1) := by decide +kernel
theorem dX9_isDone_44 : decode cX9_isDone 44 = .ok (.if_icmp .ne 36, 3) := by decide +kernel
theorem dX9_isDone_47 : decode cX9_isDone 47 = .ok (.aload_n 0, 1) := by decide +kernel
theorem dX9_isDone_48 : decode cX9_isDone 48 = .ok (.aload_n 0, 1) := by decide +kernel
theorem dX9_isDone_49 : decode cX9_isDone 49 = .ok (.getfield 314, 3) := by decide +kernel
theorem dX9_isDone_52 : decode cX9_isDone 52 = .ok (.aload_n 0, 1) := by decide +kernel
theorem dX9_isDone_53 : decode cX9_isDone 53 = .ok (.getfield 335, 3) := by decide +kernel
theorem dX9_isDone_56 : decode cX9_isDone 56 = .ok (.aload_n 0, 1) := by decide +kernel
theorem dX9_isDone_57 : decode cX9_isDone 57 = .ok (.getfield 317, 3) := by decide +kernel
theorem dX9_isDone_60 : decode cX9_isDone 60 = .ok (.aload_n 0, 1) := by decide +kernel
theorem dX9_isDone_61 : decode cX9_isDone 61 = .ok (.getfield 320, 3) := by decide +kernel
theorem dX9_isDone_64 : decode cX9_isDone 64 = .ok (.aload_n 0, 1) := by decide +kernel
theorem dX9_isDone_65 : decode cX9_isDone 65 = .ok (.getfield 323, 3) := by decide +kernel
theorem dX9_isDone_68 : decode cX9_isDone 68 = .ok (.invokevirtual 347, 3) := by decide +kernel
theorem dX9_isDone_71 : decode cX9_isDone 71 = .ok (.ifCond .lt 7, 3) := by decide +kernel
theorem dX9_isDone_74 : decode cX9_isDone 74 = .ok (.iconst 1, 1) := by decide +kernel
theorem dX9_isDone_75 : decode cX9_isDone 75 = .ok (.goto 4, 3) := by decide +kernel
theorem dX9_isDone_78 : decode cX9_isDone 78 = .ok (.iconst 0, 1) := by decide +kernel
theorem dX9_isDone_79 : decode cX9_isDone 79 = .ok (.ireturn, 1) := by decide +kernel
theorem dX9_isDone_80 : decode cX9_isDone 80 = .ok (.aload_n 0, 1) := by decide +kernel
theorem dX9_isDone_81 : decode cX9_isDone 81 = .ok (.aload_n 0, 1) := by decide +kernel
theorem dX9_isDone_82 : decode cX9_isDone 82 = .ok (.getfield 308, 3) := by decide +kernel
theorem dX9_isDone_85 : decode cX9_isDone 85 = .ok (.invokevirtual 119, 3) := by decide +kernel
theorem dX9_isDone_88 : decode cX9_isDone 88 = .ok (.ifCond .eq 63, 3) := by decide +kernel
theorem dX9_isDone_91 : decode cX9_isDone 91 = .ok (.aload_n 0, 1) := by decide +kernel
theorem dX9_isDone_92 : decode cX9_isDone 92 = .ok (.aload_n 0, 1) := by decide +kernel
theorem dX9_isDone_93 : decode cX9_isDone 93 = .ok (.getfield 311, 3) := by decide +kernel
theorem dX9_isDone_96 : decode cX9_isDone 96 = .ok (.invokevirtual 119, 3) := by decide +kernel
theorem dX9_isDone_99 : decode cX9_isDone 99 = .ok (.ifCond .eq 52, 3) := by decide +kernel
theorem dX9_isDone_102 : decode cX9_isDone 102 = .ok (.aload_n 0, 1) := by decide +kernel
theorem dX9_isDone_103 : decode cX9_isDone 103 = .ok (.getfield 308, 3) := by decide +kernel
theorem dX9_isDone_106 : decode cX9_isDone 106 = .ok (.aload_n 0, 1) := by decide +kernel
theorem dX9_isDone_107 : decode cX9_isDone 107 = .ok (.getfield 311, 3) := by decide +kernel
theorem dX9_isDone_110 : decode cX9_isDone 110 = .ok (.if_icmp .eq 41, 3) := by decide +kernel
theorem dX9_isDone_113 : decode cX9_isDone 113 = .ok (.aload_n 0, 1) := by decide +kernel
theorem dX9_isDone_114 : decode cX9_isDone 114 = .ok (.getfield 28, 3) := by decide +kernel
theorem dX9_isDone_117 : decode cX9_isDone 117 = .ok (.aload_n 0, 1) := by decide +kernel
theorem dX9_isDone_118 : decode cX9_isDone 118 = .ok (.getfield 308, 3) := by decide +kernel
theorem dX9_isDone_121 : decode cX9_isDone 121 = .ok (.iaload, 1) := by decide +kernel
theorem dX9_isDone_122 : decode cX9_isDone 122 = .ok (.aload_n 0, 1) := by decide +kernel
theorem dX9_isDone_123 : decode cX9_isDone 123 = .ok (.getfield 311, 3) := by decide +kernel
theorem dX9_isDone_126 : decode cX9_isDone 126 = .ok (.invokestatic 122, 3) := by decide +kernel
theorem dX9_isDone_129 : decode cX9_isDone 129 = .ok (.ifCond .ne 22, 3) := by decide +kernel
theorem dX9_isDone_132 : decode cX9_isDone 132 = .ok (.aload_n 0, 1) := by decide +kernel
theorem dX9_isDone_133 : decode cX9_isDone 133 = .ok (.getfield 28, 3) := by decide +kernel
theorem dX9_isDone_136 : decode cX9_isDone 136 = .ok (.aload_n 0, 1) := by decide +kernel
theorem dX9_isDone_137 : decode cX9_isDone 137 = .ok (.getfield 311, 3) := by decide +kernel
theorem dX9_isDone_140 : decode cX9_isDone 140 = .ok (.iaload, 1) := by decide +kernel
theorem dX9_isDone_141 : decode cX9_isDone 141 = .ok (.aload_n 0, 1) := by decide +kernel
theorem dX9_isDone_142 : decode cX9_isDone 142 = .ok (.getfield 308, 3) := by decide +kernel
theorem dX9_isDone_145 : decode cX9_isDone 145 = .ok (.invokestatic 122, 3) := by decide +kernel
theorem dX9_isDone_148 : decode cX9_isDone 148 = .ok (.ifCond .eq 5, 3) := by decide +kernel
theorem dX9_isDone_151 : decode cX9_isDone 151 = .ok (.iconst 0, 1) := by decide +kernel
theorem dX9_isDone_152 : decode cX9_isDone 152 = .ok (.ireturn, 1) := by decide +kernel
theorem dX9_isDone_153 : decode cX9_isDone 153 = .ok (.aload_n 0, 1) := by decide +kernel
theorem dX9_isDone_154 : decode cX9_isDone 154 = .ok (.aload_n 0, 1) := by decide +kernel
theorem dX9_isDone_155 : decode cX9_isDone 155 = .ok (.getfield 308, 3) := by decide +kernel
theorem dX9_isDone_158 : decode cX9_isDone 158 = .ok (.aload_n 0, 1) := by decide +kernel
theorem dX9_isDone_159 : decode cX9_isDone 159 = .ok (.getfield 311, 3) := by decide +kernel
theorem dX9_isDone_162 : decode cX9_isDone 162 = .ok (.iconst 1, 1) := by decide +kernel
theorem dX9_isDone_163 : decode cX9_isDone 163 = .ok (.invokevirtual 349, 3) := by decide +kernel
theorem dX9_isDone_166 : decode cX9_isDone 166 = .ok (.pop, 1) := by decide +kernel
theorem dX9_isDone_167 : decode cX9_isDone 167 = .ok (.iconst 1, 1) := by decide +kernel
theorem dX9_isDone_168 : decode cX9_isDone 168 = .ok (.ireturn, 1) := by decide +kernel
set_option maxRecDepth 20000 in
theorem ggX9_isRead_X9_statement : GoodIn wsX9_isRead wsX9_statement := goodIn_r _ [7, 8, 9, 10, 11, 12, 13, 6, 14, 1, 15, 16, 17, 18, 2, 19, 20, 21, 22, 23, 24, 25, 26, 27, 28, 29, 30, 31, 32, 33, 34, 35, 36, 37, 38, 39, 40, 41, 42, 43, 44, 45, 46, 47, 48, 49, 50, 51, 52, 53, 54, 55, 56, 57, 58, 59, 60, 61, 62, 63, 64, 65, 66, 67, 68, 69, 70, 71, 72, 73, 74, 75, 76, 77, 78, 79, 80, 81, 82, 83, 84, 85, 86, 87, 88, 89, 90, 91, 92, 93, 94, 95, 96] (by decide +kernel) (by decide +kernel)
set_option maxRecDepth 20000 in
theorem gX9_isRead_X9_statement : GoodIn wsX9_isRead (wsV RX9 351 RX9 yX9_statement wsX9_statement) := goodIn_app (goodIn_of _ (by decide +kernel)) ggX9_isRead_X9_statement
set_option maxRecDepth 20000 in
theorem ggX9_isRead_X9_takes : GoodIn wsX9_isRead wsX9_takes := goodIn_r _ [14, 1, 15, 16, 17, 6, 18, 2, 19, 57, 58, 59, 60, 61, 62, 63, 64, 65, 66, 67, 68, 69, 70, 71, 72, 73, 74, 75, 76, 77, 78, 79, 80, 81, 82, 83, 84, 85, 86, 87, 88, 89, 90, 91, 92, 93, 94, 95, 96] (by decide +kernel) (by decide +kernel)
set_option maxRecDepth 20000 in
theorem gX9_isRead_X9_takes : GoodIn wsX9_isRead (wsV RX9 292 RX9 yX9_takes wsX9_takes) := goodIn_app (goodIn_of _ (by decide +kernel)) ggX9_isRead_X9_takes
theorem dX9_isRead_0 : decode cX9_isRead 0 = .ok (.aload_n 0, 1) := by decide +kernel
theorem dX9_isRead_1 : decode cX9_isRead 1 = .ok (.iconst 0, 1) := by decide +kernel
theorem dX9_isRead_2 : decode cX9_isRead 2 = .ok (.putfield 286, 3) := by decide +kernel
theorem dX9_isRead_5 : decode cX9_isRead 5 = .ok (.aload_n 0, 1) := by decide +kernel
theorem dX9_isRead_6 : decode cX9_isRead 6 = .ok (.invokevirtual 351, 3) := by decide +kernel
theorem dX9_isRead_9 : decode cX9_isRead 9 = .ok (.ifCond .ne 5, 3) := by decide +kernel
theorem dX9_isRead_12 : decode cX9_isRead 12 = .ok (.iconst 0, 1) := by decide +kernel
theorem dX9_isRead_13 : decode cX9_isRead 13 = .ok (.ireturn, 1) := by decide +kernel
theorem dX9_isRead_14 : decode cX9_isRead 14 = .ok (.aload_n 0, 1) := by decide +kernel
theorem dX9_isRead_15 : decode cX9_isRead 15 = .ok (.bipush 59, 2) := by decide +kernel
theorem dX9_isRead_17 : decode cX9_isRead 17 = .ok (.invokevirtual 292, 3) := by decide +kernel
theorem dX9_isRead_20 : decode cX9_isRead 20 = .ok (.ifCond .ne (-15), 3) := by decide +kernel
theorem dX9_isRead_23 : decode cX9_isRead 23 = .ok (.aload_n 0, 1) := by decide +kernel
theorem dX9_isRead_24 : decode cX9_isRead 24 = .ok (.getfield 286, 3) := by decide +kernel
theorem dX9_isRead_27 : decode cX9_isRead 27 = .ok (.aload_n 0, 1) := by decide +kernel
theorem dX9_isRead_28 : decode cX9_isRead 28 = .ok (.getfield 266, 3) := by decide +kernel
theorem dX9_isRead_31 : decode cX9_isRead 31 = .ok (.if_icmp .ne 7, 3) := by decide +kernel
theorem dX9_isRead_34 : decode cX9_isRead 34 = .ok (.iconst 1, 1) := by decide +kernel
theorem dX9_isRead_35 : decode cX9_isRead 35 = .ok (.goto 4, 3) := by decide +kernel
theorem dX9_isRead_38 : decode cX9_isRead 38 = .ok (.iconst 0, 1) := by decide +kernel
theorem dX9_isRead_39 : decode cX9_isRead 39 = .ok (.ireturn, 1) := by decide +kernel
set_option maxRecDepth 20000 in
theorem ggX9_readsAll_X9_isRead : GoodIn wsX9_readsAll wsX9_isRead := goodIn_r _ [11, 1, 12, 13, 14, 15, 10, 16, 17, 18, 19, 20, 21, 22, 23, 24, 25, 26, 27, 28, 29, 30, 31, 32, 33, 34, 35, 36, 37, 38, 39, 40, 41, 42, 43, 44, 45, 46, 47, 48, 49, 50, 51, 52, 53, 54, 55, 56, 57, 58, 59, 60, 61, 62, 63, 64, 65, 129, 130, 131, 132, 133, 134, 135, 136, 137, 138, 139, 140, 141, 142, 143, 144, 145, 146, 147, 148, 149, 150, 151, 152, 153, 154, 155, 156, 157, 158, 159, 160, 161, 162, 163, 164, 165, 166, 167, 168] (by decide +kernel) (by decide +kernel)
set_option maxRecDepth 20000 in
theorem gX9_readsAll_X9_isRead : GoodIn wsX9_readsAll (wsV RX9 354 RX9 yX9_isRead wsX9_isRead) := goodIn_app (goodIn_of _ (by decide +kernel)) ggX9_readsAll_X9_isRead
set_option maxRecDepth 20000 in
theorem ggX9_readsAll_X9_keeps : GoodIn wsX9_readsAll wsX9_keeps := goodIn_r _ [69, 70, 71, 72, 73, 74, 75, 76, 77, 78, 129, 130, 131, 132, 133, 134, 135, 136, 137, 138, 139, 140, 141, 142, 143, 144, 145, 146, 147, 148, 149, 150, 151, 152, 153, 154, 155, 156, 157, 158, 159, 160, 161, 162, 163, 164, 165, 166, 167, 168] (by decide +kernel) (by decide +kernel)
set_option maxRecDepth 20000 in
theorem gX9_readsAll_X9_keeps : GoodIn wsX9_readsAll (wsV RX9 357 RX9 yX9_keeps wsX9_keeps) := goodIn_app (goodIn_of _ (by decide +kernel)) ggX9_readsAll_X9_keeps
set_option maxRecDepth 20000 in
theorem ggX9_readsAll_X9_statement : GoodIn wsX9_readsAll wsX9_statement := goodIn_r _ [16, 17, 18, 19, 20, 21, 22, 10, 23, 1, 24, 25, 26, 27, 12, 28, 29, 30, 31, 32, 33, 34, 35, 36, 37, 38, 39, 40, 41, 42, 43, 44, 45, 46, 47, 48, 49, 50, 51, 52, 53, 54, 55, 56, 57, 58, 59, 60, 61, 62, 63, 64, 65, 129, 130, 131, 132, 133, 134, 135, 136, 137, 138, 139, 140, 141, 142, 143, 144, 145, 146, 147, 148, 149, 150, 151, 152, 153, 154, 155, 156, 157, 158, 159, 160, 161, 162, 163, 164, 165, 166, 167, 168] (by decide +kernel) (by decide +kernel)
set_option maxRecDepth 20000 in
theorem gX9_readsAll_X9_statement : GoodIn wsX9_readsAll (wsV RX9 351 RX9 yX9_statement wsX9_statement) := goodIn_app (goodIn_of _ (by decide +kernel)) ggX9_readsAll_X9_statement
set_option maxRecDepth 20000 in
theorem ggX9_readsAll_X9_isDone : GoodIn wsX9_readsAll wsX9_isDone := goodIn_r _ [82, 17, 77, 19, 65, 50, 51, 52, 40, 41, 76, 83, 84, 10, 85, 86, 87, 88, 89, 90, 91, 92, 33, 34, 35, 93, 94, 95, 96, 97, 98, 99, 100, 101, 102, 103, 78, 75, 74, 104, 105, 106, 107, 5, 4, 6, 108, 109, 110, 111, 112, 113, 114, 115, 116, 70, 71, 72, 73, 117, 118, 119, 120, 121, 122, 123, 124, 129, 130, 131, 132, 133, 134, 135, 136, 137, 138, 139, 140, 141, 142, 143, 144, 145, 146, 147, 148, 149, 150, 151, 152, 153, 154, 155, 156, 157, 158, 159, 160, 161, 162, 163, 164, 165, 166, 167, 168] (by decide +kernel) (by decide +kernel)
set_option maxRecDepth 20000 in
theorem gX9_readsAll_X9_isDone : GoodIn wsX9_readsAll (wsV RX9 361 RX9 yX9_isDone wsX9_isDone) := goodIn_app (goodIn_of _ (by decide +kernel)) ggX9_readsAll_X9_isDone
set_option maxRecDepth 20000 in
theorem ggX9_readsAll_X9_again : GoodIn wsX9_readsAll wsX9_again := goodIn_r _ [128, 70, 71, 72, 73, 74, 75, 76, 77, 78, 129, 130, 131, 132, 133, 134, 135, 136, 137, 138, 139, 140, 141, 142, 143, 144, 145, 146, 147, 148, 149, 150, 151, 152, 153, 154, 155, 156, 157, 158, 159, 160, 161, 162, 163, 164, 165, 166, 167, 168] (by decide +kernel) (by decide +kernel)
set_option maxRecDepth 20000 in
theorem gX9_readsAll_X9_again : GoodIn wsX9_readsAll (wsV RX9 364 RX9 yX9_again wsX9_again) := goodIn_app (goodIn_of _ (by decide +kernel)) ggX9_readsAll_X9_again
set_option maxRecDepth 20000 in
theorem ggX9_readsAll_X9_takes : GoodIn wsX9_readsAll wsX9_takes := goodIn_r _ [23, 1, 24, 25, 26, 10, 27, 12, 28, 129, 130, 131, 132, 133, 134, 135, 136, 137, 138, 139, 140, 141, 142, 143, 144, 145, 146, 147, 148, 149, 150, 151, 152, 153, 154, 155, 156, 157, 158, 159, 160, 161, 162, 163, 164, 165, 166, 167, 168] (by decide +kernel) (by decide +kernel)
set_option maxRecDepth 20000 in
theorem gX9_readsAll_X9_takes : GoodIn wsX9_readsAll (wsV RX9 292 RX9 yX9_takes wsX9_takes) := goodIn_app (goodIn_of _ (by decide +kernel)) ggX9_readsAll_X9_takes
theorem dX9_readsAll_0 : decode cX9_readsAll 0 = .ok (.aload_n 0, 1) := by decide +kernel
theorem dX9_readsAll_1 : decode cX9_readsAll 1 = .ok (.invokevirtual 354, 3) := by decide +kernel
theorem dX9_readsAll_4 : decode cX9_readsAll 4 = .ok (.ifCond .ne 12, 3) := by decide +kernel
theorem dX9_readsAll_7 : decode cX9_readsAll 7 = .ok (.sipush (-1000), 3) := by decide +kernel
theorem dX9_readsAll_10 : decode cX9_readsAll 10 = .ok (.aload_n 0, 1) := by decide +kernel
theorem dX9_readsAll_11 : decode cX9_readsAll 11 = .ok (.getfield 286, 3) := by decide +kernel
theorem dX9_readsAll_14 : decode cX9_readsAll 14 = .ok (.isub, 1) := by decide +kernel
theorem dX9_readsAll_15 : decode cX9_readsAll 15 = .ok (.ireturn, 1) := by decide +kernel
theorem dX9_readsAll_16 : decode cX9_readsAll 16 = .ok (.aload_n 0, 1) := by decide +kernel
theorem dX9_readsAll_17 : decode cX9_readsAll 17 = .ok (.aload_n 0, 1) := by decide +kernel
theorem dX9_readsAll_18 : decode cX9_readsAll 18 = .ok (.getfield 49, 3) := by decide +kernel
theorem dX9_readsAll_21 : decode cX9_readsAll 21 = .ok (.invokevirtual 357, 3) := by decide +kernel
theorem dX9_readsAll_24 : decode cX9_readsAll 24 = .ok (.iconst 0, 1) := by decide +kernel
theorem dX9_readsAll_25 : decode cX9_readsAll 25 = .ok (.istore_n 1, 1) := by decide +kernel
theorem dX9_readsAll_26 : decode cX9_readsAll 26 = .ok (.iload_n 1, 1) := by decide +kernel
theorem dX9_readsAll_27 : decode cX9_readsAll 27 = .ok (.bipush 60, 2) := by decide +kernel
theorem dX9_readsAll_29 : decode cX9_readsAll 29 = .ok (.if_icmp .ge 21, 3) := by decide +kernel
theorem dX9_readsAll_32 : decode cX9_readsAll 32 = .ok (.aload_n 0, 1) := by decide +kernel
theorem dX9_readsAll_33 : decode cX9_readsAll 33 = .ok (.getfield 52, 3) := by decide +kernel
theorem dX9_readsAll_36 : decode cX9_readsAll 36 = .ok (.iload_n 1, 1) := by decide +kernel
theorem dX9_readsAll_37 : decode cX9_readsAll 37 = .ok (.aload_n 0, 1) := by decide +kernel
theorem dX9_readsAll_38 : decode cX9_readsAll 38 = .ok (.getfield 31, 3) := by decide +kernel
theorem dX9_readsAll_41 : decode cX9_readsAll 41 = .ok (.iload_n 1, 1) := by decide +kernel
theorem dX9_readsAll_42 : decode cX9_readsAll 42 = .ok (.iaload, 1) := by decide +kernel
theorem dX9_readsAll_43 : decode cX9_readsAll 43 = .ok (.iastore, 1) := by decide +kernel
theorem dX9_readsAll_44 : decode cX9_readsAll 44 = .ok (.iinc 1 1, 3) := by decide +kernel
theorem dX9_readsAll_47 : decode cX9_readsAll 47 = .ok (.goto (-21), 3) := by decide +kernel
theorem dX9_readsAll_50 : decode cX9_readsAll 50 = .ok (.aload_n 0, 1) := by decide +kernel
theorem dX9_readsAll_51 : decode cX9_readsAll 51 = .ok (.getfield 87, 3) := by decide +kernel
theorem dX9_readsAll_54 : decode cX9_readsAll 54 = .ok (.istore_n 1, 1) := by decide +kernel
theorem dX9_readsAll_55 : decode cX9_readsAll 55 = .ok (.aload_n 0, 1) := by decide +kernel
theorem dX9_readsAll_56 : decode cX9_readsAll 56 = .ok (.getfield 90, 3) := by decide +kernel
theorem dX9_readsAll_59 : decode cX9_readsAll 59 = .ok (.istore_n 2, 1) := by decide +kernel
theorem dX9_readsAll_60 : decode cX9_readsAll 60 = .ok (.aload_n 0, 1) := by decide +kernel
theorem dX9_readsAll_61 : decode cX9_readsAll 61 = .ok (.iconst 0, 1) := by decide +kernel
theorem dX9_readsAll_62 : decode cX9_readsAll 62 = .ok (.putfield 286, 3) := by decide +kernel
theorem dX9_readsAll_65 : decode cX9_readsAll 65 = .ok (.iconst 0, 1) := by decide +kernel
theorem dX9_readsAll_66 : decode cX9_readsAll 66 = .ok (.istore_n 3, 1) := by decide +kernel
theorem dX9_readsAll_67 : decode cX9_readsAll 67 = .ok (.iconst 1, 1) := by decide +kernel
theorem dX9_readsAll_68 : decode cX9_readsAll 68 = .ok (.istore 4, 2) := by decide +kernel
theorem dX9_readsAll_70 : decode cX9_readsAll 70 = .ok (.iload 4, 2) := by decide +kernel
theorem dX9_readsAll_72 : decode cX9_readsAll 72 = .ok (.ifCond .eq 90, 3) := by decide +kernel
theorem dX9_readsAll_75 : decode cX9_readsAll 75 = .ok (.aload_n 0, 1) := by decide +kernel
theorem dX9_readsAll_76 : decode cX9_readsAll 76 = .ok (.getfield 286, 3) := by decide +kernel
theorem dX9_readsAll_79 : decode cX9_readsAll 79 = .ok (.istore 5, 2) := by decide +kernel
theorem dX9_readsAll_81 : decode cX9_readsAll 81 = .ok (.aload_n 0, 1) := by decide +kernel
theorem dX9_readsAll_82 : decode cX9_readsAll 82 = .ok (.invokevirtual 351, 3) := by decide +kernel
theorem dX9_readsAll_85 : decode cX9_readsAll 85 = .ok (.pop, 1) := by decide +kernel
theorem dX9_readsAll_86 : decode cX9_readsAll 86 = .ok (.aload_n 0, 1) := by decide +kernel
theorem dX9_readsAll_87 : decode cX9_readsAll 87 = .ok (.invokevirtual 361, 3) := by decide +kernel
theorem dX9_readsAll_90 : decode cX9_readsAll 90 = .ok (.ifCond .ne 58, 3) := by decide +kernel
theorem dX9_readsAll_93 : decode cX9_readsAll 93 = .ok (.aload_n 0, 1) := by decide +kernel
theorem dX9_readsAll_94 : decode cX9_readsAll 94 = .ok (.aload_n 0, 1) := by decide +kernel
theorem dX9_readsAll_95 : decode cX9_readsAll 95 = .ok (.getfield 49, 3) := by decide +kernel
theorem dX9_readsAll_98 : decode cX9_readsAll 98 = .ok (.invokevirtual 364, 3) := by decide +kernel
theorem dX9_readsAll_101 : decode cX9_readsAll 101 = .ok (.iconst 0, 1) := by decide +kernel
theorem dX9_readsAll_102 : decode cX9_readsAll 102 = .ok (.istore 6, 2) := by decide +kernel
theorem dX9_readsAll_104 : decode cX9_readsAll 104 = .ok (.iload 6, 2) := by decide +kernel
theorem dX9_readsAll_106 : decode cX9_readsAll 106 = .ok (.bipush 60, 2) := by decide +kernel
theorem dX9_readsAll_108 : decode cX9_readsAll 108 = .ok (.if_icmp .ge 23, 3) := by decide +kernel
theorem dX9_readsAll_111 : decode cX9_readsAll 111 = .ok (.aload_n 0, 1) := by decide +kernel
theorem dX9_readsAll_112 : decode cX9_readsAll 112 = .ok (.getfield 31, 3) := by decide +kernel
theorem dX9_readsAll_115 : decode cX9_readsAll 115 = .ok (.iload 6, 2) := by decide +kernel
theorem dX9_readsAll_117 : decode cX9_readsAll 117 = .ok (.aload_n 0, 1) := by decide +kernel
theorem dX9_readsAll_118 : decode cX9_readsAll 118 = .ok (.getfield 52, 3) := by decide +kernel
theorem dX9_readsAll_121 : decode cX9_readsAll 121 = .ok (.iload 6, 2) := by decide +kernel
theorem dX9_readsAll_123 : decode cX9_readsAll 123 = .ok (.iaload, 1) := by decide +kernel
theorem dX9_readsAll_124 : decode cX9_readsAll 124 = .ok (.iastore, 1) := by decide +kernel
theorem dX9_readsAll_125 : decode cX9_readsAll 125 = .ok (.iinc 6 1, 3) := by decide +kernel
theorem dX9_readsAll_128 : decode cX9_readsAll 128 = .ok (.goto (-24), 3) := by decide +kernel
theorem dX9_readsAll_131 : decode cX9_readsAll 131 = .ok (.aload_n 0, 1) := by decide +kernel
theorem dX9_readsAll_132 : decode cX9_readsAll 132 = .ok (.iload_n 1, 1) := by decide +kernel
theorem dX9_readsAll_133 : decode cX9_readsAll 133 = .ok (.putfield 87, 3) := by decide +kernel
theorem dX9_readsAll_136 : decode cX9_readsAll 136 = .ok (.aload_n 0, 1) := by decide +kernel
theorem dX9_readsAll_137 : decode cX9_readsAll 137 = .ok (.iload_n 2, 1) := by decide +kernel
theorem dX9_readsAll_138 : decode cX9_readsAll 138 = .ok (.putfield 90, 3) := by decide +kernel
theorem dX9_readsAll_141 : decode cX9_readsAll 141 = .ok (.sipush (-2000), 3) := by decide +kernel
theorem dX9_readsAll_144 : decode cX9_readsAll 144 = .ok (.iload 5, 2) := by decide +kernel
theorem dX9_readsAll_146 : decode cX9_readsAll 146 = .ok (.isub, 1) := by decide +kernel
theorem dX9_readsAll_147 : decode cX9_readsAll 147 = .ok (.ireturn, 1) := by decide +kernel
theorem dX9_readsAll_148 : decode cX9_readsAll 148 = .ok (.iinc 3 1, 3) := by decide +kernel
theorem dX9_readsAll_151 : decode cX9_readsAll 151 = .ok (.aload_n 0, 1) := by decide +kernel
theorem dX9_readsAll_152 : decode cX9_readsAll 152 = .ok (.bipush 59, 2) := by decide +kernel
theorem dX9_readsAll_154 : decode cX9_readsAll 154 = .ok (.invokevirtual 292, 3) := by decide +kernel
theorem dX9_readsAll_157 : decode cX9_readsAll 157 = .ok (.istore 4, 2) := by decide +kernel
theorem dX9_readsAll_159 : decode cX9_readsAll 159 = .ok (.goto (-89), 3) := by decide +kernel
theorem dX9_readsAll_162 : decode cX9_readsAll 162 = .ok (.iload_n 3, 1) := by decide +kernel
theorem dX9_readsAll_163 : decode cX9_readsAll 163 = .ok (.ireturn, 1) := by decide +kernel
set_option maxRecDepth 20000 in
theorem ggX9_reads_X9_readsAll : GoodIn wsX9_reads wsX9_readsAll := goodIn_r _ [6, 7, 8, 9, 10, 11, 12, 13, 14, 15, 5, 16, 1, 17, 18, 19, 20, 21, 22, 23, 24, 25, 26, 27, 28, 29, 30, 31, 32, 33, 34, 35, 36, 37, 38, 39, 40, 41, 42, 43, 44, 45, 46, 47, 48, 49, 50, 51, 52, 53, 54, 55, 56, 57, 58, 59, 60, 61, 62, 63, 64, 65, 66, 67, 68, 69, 70, 71, 72, 73, 74, 75, 76, 77, 78, 79, 80, 81, 82, 83, 84, 85, 86, 87, 88, 89, 90, 91, 92, 93, 94, 95, 96, 97, 98, 99, 100, 101, 102, 103, 104, 105, 106, 107, 108, 109, 110, 111, 112, 113, 114, 115, 116, 117, 118, 119, 120, 121, 122, 123, 124, 125, 126, 127, 128, 129, 130, 131, 132, 133, 134, 135, 136, 137, 138, 139, 140, 141, 142, 143, 144, 145, 146, 147, 148, 149, 150, 151, 152, 153, 154, 155, 156, 157, 158, 159, 160, 161, 162, 163, 164, 165, 166, 167, 168, 169, 170, 171, 172] (by decide +kernel) (by decide +kernel)
set_option maxRecDepth 20000 in
theorem gX9_reads_X9_readsAll : GoodIn wsX9_reads (wsV RX9 367 RX9 yX9_readsAll wsX9_readsAll) := goodIn_app (goodIn_of _ (by decide +kernel)) ggX9_reads_X9_readsAll
theorem dX9_reads_0 : decode cX9_reads 0 = .ok (.aload_n 0, 1) := by decide +kernel
theorem dX9_reads_1 : decode cX9_reads 1 = .ok (.invokevirtual 367, 3) := by decide +kernel
theorem dX9_reads_4 : decode cX9_reads 4 = .ok (.istore_n 1, 1) := by decide +kernel
theorem dX9_reads_5 : decode cX9_reads 5 = .ok (.aload_n 0, 1) := by decide +kernel
theorem dX9_reads_6 : decode cX9_reads 6 = .ok (.iconst 0, 1) := by decide +kernel
theorem dX9_reads_7 : decode cX9_reads 7 = .ok (.putfield 266, 3) := by decide +kernel
theorem dX9_reads_10 : decode cX9_reads 10 = .ok (.iload_n 1, 1) := by decide +kernel
theorem dX9_reads_11 : decode cX9_reads 11 = .ok (.ireturn, 1) := by decide +kernel
theorem dX9_keeps_0 : decode cX9_keeps 0 = .ok (.iconst 0, 1) := by decide +kernel
theorem dX9_keeps_1 : decode cX9_keeps 1 = .ok (.istore_n 2, 1) := by decide +kernel
theorem dX9_keeps_2 : decode cX9_keeps 2 = .ok (.iload_n 2, 1) := by decide +kernel
theorem dX9_keeps_3 : decode cX9_keeps 3 = .ok (.bipush 16, 2) := by decide +kernel
theorem dX9_keeps_5 : decode cX9_keeps 5 = .ok (.if_icmp .ge 90, 3) := by decide +kernel
theorem dX9_keeps_8 : decode cX9_keeps 8 = .ok (.aload_n 1, 1) := by decide +kernel
theorem dX9_keeps_9 : decode cX9_keeps 9 = .ok (.iload_n 2, 1) := by decide +kernel
theorem dX9_keeps_10 : decode cX9_keeps 10 = .ok (.aload_n 0, 1) := by decide +kernel
theorem dX9_keeps_11 : decode cX9_keeps 11 = .ok (.getfield 7, 3) := by decide +kernel
theorem dX9_keeps_14 : decode cX9_keeps 14 = .ok (.iload_n 2, 1) := by decide +kernel
theorem dX9_keeps_15 : decode cX9_keeps 15 = .ok (.iaload, 1) := by decide +kernel
theorem dX9_keeps_16 : decode cX9_keeps 16 = .ok (.iastore, 1) := by decide +kernel
theorem dX9_keeps_17 : decode cX9_keeps 17 = .ok (.aload_n 1, 1) := by decide +kernel
theorem dX9_keeps_18 : decode cX9_keeps 18 = .ok (.bipush 16, 2) := by decide +kernel
theorem dX9_keeps_20 : decode cX9_keeps 20 = .ok (.iload_n 2, 1) := by decide +kernel
theorem dX9_keeps_21 : decode cX9_keeps 21 = .ok (.iadd, 1) := by decide +kernel
theorem dX9_keeps_22 : decode cX9_keeps 22 = .ok (.aload_n 0, 1) := by decide +kernel
theorem dX9_keeps_23 : decode cX9_keeps 23 = .ok (.getfield 13, 3) := by decide +kernel
theorem dX9_keeps_26 : decode cX9_keeps 26 = .ok (.iload_n 2, 1) := by decide +kernel
theorem dX9_keeps_27 : decode cX9_keeps 27 = .ok (.iaload, 1) := by decide +kernel
theorem dX9_keeps_28 : decode cX9_keeps 28 = .ok (.iastore, 1) := by decide +kernel
theorem dX9_keeps_29 : decode cX9_keeps 29 = .ok (.aload_n 1, 1) := by decide +kernel
theorem dX9_keeps_30 : decode cX9_keeps 30 = .ok (.bipush 32, 2) := by decide +kernel
theorem dX9_keeps_32 : decode cX9_keeps 32 = .ok (.iload_n 2, 1) := by decide +kernel
theorem dX9_keeps_33 : decode cX9_keeps 33 = .ok (.iadd, 1) := by decide +kernel
theorem dX9_keeps_34 : decode cX9_keeps 34 = .ok (.aload_n 0, 1) := by decide +kernel
theorem dX9_keeps_35 : decode cX9_keeps 35 = .ok (.getfield 16, 3) := by decide +kernel
theorem dX9_keeps_38 : decode cX9_keeps 38 = .ok (.iload_n 2, 1) := by decide +kernel
theorem dX9_keeps_39 : decode cX9_keeps 39 = .ok (.iaload, 1) := by decide +kernel
theorem dX9_keeps_40 : decode cX9_keeps 40 = .ok (.iastore, 1) := by decide +kernel
theorem dX9_keeps_41 : decode cX9_keeps 41 = .ok (.aload_n 1, 1) := by decide +kernel
theorem dX9_keeps_42 : decode cX9_keeps 42 = .ok (.bipush 48, 2) := by decide +kernel
theorem dX9_keeps_44 : decode cX9_keeps 44 = .ok (.iload_n 2, 1) := by decide +kernel
theorem dX9_keeps_45 : decode cX9_keeps 45 = .ok (.iadd, 1) := by decide +kernel
theorem dX9_keeps_46 : decode cX9_keeps 46 = .ok (.aload_n 0, 1) := by decide +kernel
theorem dX9_keeps_47 : decode cX9_keeps 47 = .ok (.getfield 19, 3) := by decide +kernel
theorem dX9_keeps_50 : decode cX9_keeps 50 = .ok (.iload_n 2, 1) := by decide +kernel
theorem dX9_keeps_51 : decode cX9_keeps 51 = .ok (.iaload, 1) := by decide +kernel
theorem dX9_keeps_52 : decode cX9_keeps 52 = .ok (.iastore, 1) := by decide +kernel
theorem dX9_keeps_53 : decode cX9_keeps 53 = .ok (.aload_n 1, 1) := by decide +kernel
theorem dX9_keeps_54 : decode cX9_keeps 54 = .ok (.bipush 64, 2) := by decide +kernel
theorem dX9_keeps_56 : decode cX9_keeps 56 = .ok (.iload_n 2, 1) := by decide +kernel
theorem dX9_keeps_57 : decode cX9_keeps 57 = .ok (.iadd, 1) := by decide +kernel
theorem dX9_keeps_58 : decode cX9_keeps 58 = .ok (.aload_n 0, 1) := by decide +kernel
theorem dX9_keeps_59 : decode cX9_keeps 59 = .ok (.getfield 22, 3) := by decide +kernel
theorem dX9_keeps_62 : decode cX9_keeps 62 = .ok (.iload_n 2, 1) := by decide +kernel
theorem dX9_keeps_63 : decode cX9_keeps 63 = .ok (.iaload, 1) := by decide +kernel
theorem dX9_keeps_64 : decode cX9_keeps 64 = .ok (.iastore, 1) := by decide +kernel
theorem dX9_keeps_65 : decode cX9_keeps 65 = .ok (.aload_n 1, 1) := by decide +kernel
theorem dX9_keeps_66 : decode cX9_keeps 66 = .ok (.bipush 80, 2) := by decide +kernel
theorem dX9_keeps_68 : decode cX9_keeps 68 = .ok (.iload_n 2, 1) := by decide +kernel
theorem dX9_keeps_69 : decode cX9_keeps 69 = .ok (.iadd, 1) := by decide +kernel
theorem dX9_keeps_70 : decode cX9_keeps 70 = .ok (.aload_n 0, 1) := by decide +kernel
theorem dX9_keeps_71 : decode cX9_keeps 71 = .ok (.getfield 25, 3) := by decide +kernel
theorem dX9_keeps_74 : decode cX9_keeps 74 = .ok (.iload_n 2, 1) := by decide +kernel
theorem dX9_keeps_75 : decode cX9_keeps 75 = .ok (.iaload, 1) := by decide +kernel
theorem dX9_keeps_76 : decode cX9_keeps 76 = .ok (.iastore, 1) := by decide +kernel
theorem dX9_keeps_77 : decode cX9_keeps 77 = .ok (.aload_n 1, 1) := by decide +kernel
theorem dX9_keeps_78 : decode cX9_keeps 78 = .ok (.bipush 96, 2) := by decide +kernel
theorem dX9_keeps_80 : decode cX9_keeps 80 = .ok (.iload_n 2, 1) := by decide +kernel
theorem dX9_keeps_81 : decode cX9_keeps 81 = .ok (.iadd, 1) := by decide +kernel
theorem dX9_keeps_82 : decode cX9_keeps 82 = .ok (.aload_n 0, 1) := by decide +kernel
theorem dX9_keeps_83 : decode cX9_keeps 83 = .ok (.getfield 28, 3) := by decide +kernel
theorem dX9_keeps_86 : decode cX9_keeps 86 = .ok (.iload_n 2, 1) := by decide +kernel
theorem dX9_keeps_87 : decode cX9_keeps 87 = .ok (.iaload, 1) := by decide +kernel
theorem dX9_keeps_88 : decode cX9_keeps 88 = .ok (.iastore, 1) := by decide +kernel
theorem dX9_keeps_89 : decode cX9_keeps 89 = .ok (.iinc 2 1, 3) := by decide +kernel
theorem dX9_keeps_92 : decode cX9_keeps 92 = .ok (.goto (-90), 3) := by decide +kernel
theorem dX9_keeps_95 : decode cX9_keeps 95 = .ok (.aload_n 1, 1) := by decide +kernel
theorem dX9_keeps_96 : decode cX9_keeps 96 = .ok (.bipush 112, 2) := by decide +kernel
theorem dX9_keeps_98 : decode cX9_keeps 98 = .ok (.aload_n 0, 1) := by decide +kernel
theorem dX9_keeps_99 : decode cX9_keeps 99 = .ok (.getfield 93, 3) := by decide +kernel
theorem dX9_keeps_102 : decode cX9_keeps 102 = .ok (.iastore, 1) := by decide +kernel
theorem dX9_keeps_103 : decode cX9_keeps 103 = .ok (.aload_n 1, 1) := by decide +kernel
theorem dX9_keeps_104 : decode cX9_keeps 104 = .ok (.bipush 113, 2) := by decide +kernel
theorem dX9_keeps_106 : decode cX9_keeps 106 = .ok (.aload_n 0, 1) := by decide +kernel
theorem dX9_keeps_107 : decode cX9_keeps 107 = .ok (.getfield 77, 3) := by decide +kernel
theorem dX9_keeps_110 : decode cX9_keeps 110 = .ok (.iastore, 1) := by decide +kernel
theorem dX9_keeps_111 : decode cX9_keeps 111 = .ok (.return_, 1) := by decide +kernel
theorem dX9_again_0 : decode cX9_again 0 = .ok (.iconst 0, 1) := by decide +kernel
theorem dX9_again_1 : decode cX9_again 1 = .ok (.istore_n 2, 1) := by decide +kernel
theorem dX9_again_2 : decode cX9_again 2 = .ok (.iload_n 2, 1) := by decide +kernel
theorem dX9_again_3 : decode cX9_again 3 = .ok (.bipush 16, 2) := by decide +kernel
theorem dX9_again_5 : decode cX9_again 5 = .ok (.if_icmp .ge 90, 3) := by decide +kernel
theorem dX9_again_8 : decode cX9_again 8 = .ok (.aload_n 0, 1) := by decide +kernel
theorem dX9_again_9 : decode cX9_again 9 = .ok (.getfield 7, 3) := by decide +kernel
theorem dX9_again_12 : decode cX9_again 12 = .ok (.iload_n 2, 1) := by decide +kernel
theorem dX9_again_13 : decode cX9_again 13 = .ok (.aload_n 1, 1) := by decide +kernel
theorem dX9_again_14 : decode cX9_again 14 = .ok (.iload_n 2, 1) := by decide +kernel
theorem dX9_again_15 : decode cX9_again 15 = .ok (.iaload, 1) := by decide +kernel
theorem dX9_again_16 : decode cX9_again 16 = .ok (.iastore, 1) := by decide +kernel
theorem dX9_again_17 : decode cX9_again 17 = .ok (.aload_n 0, 1) := by decide +kernel
theorem dX9_again_18 : decode cX9_again 18 = .ok (.getfield 13, 3) := by decide +kernel
theorem dX9_again_21 : decode cX9_again 21 = .ok (.iload_n 2, 1) := by decide +kernel
theorem dX9_again_22 : decode cX9_again 22 = .ok (.aload_n 1, 1) := by decide +kernel
theorem dX9_again_23 : decode cX9_again 23 = .ok (.bipush 16, 2) := by decide +kernel
theorem dX9_again_25 : decode cX9_again 25 = .ok (.iload_n 2, 1) := by decide +kernel
theorem dX9_again_26 : decode cX9_again 26 = .ok (.iadd, 1) := by decide +kernel
theorem dX9_again_27 : decode cX9_again 27 = .ok (.iaload, 1) := by decide +kernel
theorem dX9_again_28 : decode cX9_again 28 = .ok (.iastore, 1) := by decide +kernel
theorem dX9_again_29 : decode cX9_again 29 = .ok (.aload_n 0, 1) := by decide +kernel
theorem dX9_again_30 : decode cX9_again 30 = .ok (.getfield 16, 3) := by decide +kernel
theorem dX9_again_33 : decode cX9_again 33 = .ok (.iload_n 2, 1) := by decide +kernel
theorem dX9_again_34 : decode cX9_again 34 = .ok (.aload_n 1, 1) := by decide +kernel
theorem dX9_again_35 : decode cX9_again 35 = .ok (.bipush 32, 2) := by decide +kernel
theorem dX9_again_37 : decode cX9_again 37 = .ok (.iload_n 2, 1) := by decide +kernel
theorem dX9_again_38 : decode cX9_again 38 = .ok (.iadd, 1) := by decide +kernel
theorem dX9_again_39 : decode cX9_again 39 = .ok (.iaload, 1) := by decide +kernel
theorem dX9_again_40 : decode cX9_again 40 = .ok (.iastore, 1) := by decide +kernel
theorem dX9_again_41 : decode cX9_again 41 = .ok (.aload_n 0, 1) := by decide +kernel
theorem dX9_again_42 : decode cX9_again 42 = .ok (.getfield 19, 3) := by decide +kernel
theorem dX9_again_45 : decode cX9_again 45 = .ok (.iload_n 2, 1) := by decide +kernel
theorem dX9_again_46 : decode cX9_again 46 = .ok (.aload_n 1, 1) := by decide +kernel
theorem dX9_again_47 : decode cX9_again 47 = .ok (.bipush 48, 2) := by decide +kernel
theorem dX9_again_49 : decode cX9_again 49 = .ok (.iload_n 2, 1) := by decide +kernel
theorem dX9_again_50 : decode cX9_again 50 = .ok (.iadd, 1) := by decide +kernel
theorem dX9_again_51 : decode cX9_again 51 = .ok (.iaload, 1) := by decide +kernel
theorem dX9_again_52 : decode cX9_again 52 = .ok (.iastore, 1) := by decide +kernel
theorem dX9_again_53 : decode cX9_again 53 = .ok (.aload_n 0, 1) := by decide +kernel
theorem dX9_again_54 : decode cX9_again 54 = .ok (.getfield 22, 3) := by decide +kernel
theorem dX9_again_57 : decode cX9_again 57 = .ok (.iload_n 2, 1) := by decide +kernel
theorem dX9_again_58 : decode cX9_again 58 = .ok (.aload_n 1, 1) := by decide +kernel
theorem dX9_again_59 : decode cX9_again 59 = .ok (.bipush 64, 2) := by decide +kernel
theorem dX9_again_61 : decode cX9_again 61 = .ok (.iload_n 2, 1) := by decide +kernel
theorem dX9_again_62 : decode cX9_again 62 = .ok (.iadd, 1) := by decide +kernel
theorem dX9_again_63 : decode cX9_again 63 = .ok (.iaload, 1) := by decide +kernel
theorem dX9_again_64 : decode cX9_again 64 = .ok (.iastore, 1) := by decide +kernel
theorem dX9_again_65 : decode cX9_again 65 = .ok (.aload_n 0, 1) := by decide +kernel
theorem dX9_again_66 : decode cX9_again 66 = .ok (.getfield 25, 3) := by decide +kernel
theorem dX9_again_69 : decode cX9_again 69 = .ok (.iload_n 2, 1) := by decide +kernel
theorem dX9_again_70 : decode cX9_again 70 = .ok (.aload_n 1, 1) := by decide +kernel
theorem dX9_again_71 : decode cX9_again 71 = .ok (.bipush 80, 2) := by decide +kernel
theorem dX9_again_73 : decode cX9_again 73 = .ok (.iload_n 2, 1) := by decide +kernel
theorem dX9_again_74 : decode cX9_again 74 = .ok (.iadd, 1) := by decide +kernel
theorem dX9_again_75 : decode cX9_again 75 = .ok (.iaload, 1) := by decide +kernel
theorem dX9_again_76 : decode cX9_again 76 = .ok (.iastore, 1) := by decide +kernel
theorem dX9_again_77 : decode cX9_again 77 = .ok (.aload_n 0, 1) := by decide +kernel
theorem dX9_again_78 : decode cX9_again 78 = .ok (.getfield 28, 3) := by decide +kernel
theorem dX9_again_81 : decode cX9_again 81 = .ok (.iload_n 2, 1) := by decide +kernel
theorem dX9_again_82 : decode cX9_again 82 = .ok (.aload_n 1, 1) := by decide +kernel
theorem dX9_again_83 : decode cX9_again 83 = .ok (.bipush 96, 2) := by decide +kernel
theorem dX9_again_85 : decode cX9_again 85 = .ok (.iload_n 2, 1) := by decide +kernel
theorem dX9_again_86 : decode cX9_again 86 = .ok (.iadd, 1) := by decide +kernel
theorem dX9_again_87 : decode cX9_again 87 = .ok (.iaload, 1) := by decide +kernel
theorem dX9_again_88 : decode cX9_again 88 = .ok (.iastore, 1) := by decide +kernel
theorem dX9_again_89 : decode cX9_again 89 = .ok (.iinc 2 1, 3) := by decide +kernel
theorem dX9_again_92 : decode cX9_again 92 = .ok (.goto (-90), 3) := by decide +kernel
theorem dX9_again_95 : decode cX9_again 95 = .ok (.aload_n 0, 1) := by decide +kernel
theorem dX9_again_96 : decode cX9_again 96 = .ok (.aload_n 1, 1) := by decide +kernel
theorem dX9_again_97 : decode cX9_again 97 = .ok (.bipush 112, 2) := by decide +kernel
theorem dX9_again_99 : decode cX9_again 99 = .ok (.iaload, 1) := by decide +kernel
theorem dX9_again_100 : decode cX9_again 100 = .ok (.putfield 93, 3) := by decide +kernel
theorem dX9_again_103 : decode cX9_again 103 = .ok (.aload_n 0, 1) := by decide +kernel
theorem dX9_again_104 : decode cX9_again 104 = .ok (.aload_n 1, 1) := by decide +kernel
theorem dX9_again_105 : decode cX9_again 105 = .ok (.bipush 113, 2) := by decide +kernel
theorem dX9_again_107 : decode cX9_again 107 = .ok (.iaload, 1) := by decide +kernel
theorem dX9_again_108 : decode cX9_again 108 = .ok (.putfield 77, 3) := by decide +kernel
theorem dX9_again_111 : decode cX9_again 111 = .ok (.return_, 1) := by decide +kernel
set_option maxRecDepth 20000 in
theorem ggX9_image_X9_keeps : GoodIn wsX9_image wsX9_keeps := goodIn_r _ [8, 9, 10, 11, 12, 13, 14, 15, 16, 3, 17, 18, 19, 20, 21, 22, 23, 24, 25, 26, 27, 28, 29, 30, 31, 32, 33, 34, 35, 36, 37, 38, 39, 40, 41, 42, 43, 44, 45, 46, 47, 48, 49, 50, 51, 52, 53, 54, 55, 56] (by decide +kernel) (by decide +kernel)
set_option maxRecDepth 20000 in
theorem gX9_image_X9_keeps : GoodIn wsX9_image (wsV RX9 357 RX9 yX9_keeps wsX9_keeps) := goodIn_app (goodIn_of _ (by decide +kernel)) ggX9_image_X9_keeps
theorem dX9_image_0 : decode cX9_image 0 = .ok (.aload_n 0, 1) := by decide +kernel
theorem dX9_image_1 : decode cX9_image 1 = .ok (.iconst 1, 1) := by decide +kernel
theorem dX9_image_2 : decode cX9_image 2 = .ok (.putfield 370, 3) := by decide +kernel
theorem dX9_image_5 : decode cX9_image 5 = .ok (.aload_n 0, 1) := by decide +kernel
theorem dX9_image_6 : decode cX9_image 6 = .ok (.aload_n 0, 1) := by decide +kernel
theorem dX9_image_7 : decode cX9_image 7 = .ok (.getfield 46, 3) := by decide +kernel
theorem dX9_image_10 : decode cX9_image 10 = .ok (.invokevirtual 357, 3) := by decide +kernel
theorem dX9_image_13 : decode cX9_image 13 = .ok (.aload_n 0, 1) := by decide +kernel
theorem dX9_image_14 : decode cX9_image 14 = .ok (.getfield 77, 3) := by decide +kernel
theorem dX9_image_17 : decode cX9_image 17 = .ok (.ireturn, 1) := by decide +kernel
set_option maxRecDepth 20000 in
theorem ggX9_back_X9_again : GoodIn wsX9_back wsX9_again := goodIn_r _ [10, 11, 12, 13, 14, 15, 16, 17, 18, 5, 19, 20, 21, 22, 23, 24, 25, 26, 27, 28, 29, 30, 31, 32, 33, 34, 35, 36, 37, 38, 39, 40, 41, 42, 43, 44, 45, 46, 47, 48, 49, 50, 51, 52, 53, 54, 55, 56, 57, 58] (by decide +kernel) (by decide +kernel)
set_option maxRecDepth 20000 in
theorem gX9_back_X9_again : GoodIn wsX9_back (wsV RX9 364 RX9 yX9_again wsX9_again) := goodIn_app (goodIn_of _ (by decide +kernel)) ggX9_back_X9_again
theorem dX9_back_0 : decode cX9_back 0 = .ok (.aload_n 0, 1) := by decide +kernel
theorem dX9_back_1 : decode cX9_back 1 = .ok (.getfield 370, 3) := by decide +kernel
theorem dX9_back_4 : decode cX9_back 4 = .ok (.ifCond .ne 6, 3) := by decide +kernel
theorem dX9_back_7 : decode cX9_back 7 = .ok (.bipush (-5), 2) := by decide +kernel
theorem dX9_back_9 : decode cX9_back 9 = .ok (.ireturn, 1) := by decide +kernel
theorem dX9_back_10 : decode cX9_back 10 = .ok (.aload_n 0, 1) := by decide +kernel
theorem dX9_back_11 : decode cX9_back 11 = .ok (.aload_n 0, 1) := by decide +kernel
theorem dX9_back_12 : decode cX9_back 12 = .ok (.getfield 46, 3) := by decide +kernel
theorem dX9_back_15 : decode cX9_back 15 = .ok (.invokevirtual 364, 3) := by decide +kernel
theorem dX9_back_18 : decode cX9_back 18 = .ok (.aload_n 0, 1) := by decide +kernel
theorem dX9_back_19 : decode cX9_back 19 = .ok (.iconst 0, 1) := by decide +kernel
theorem dX9_back_20 : decode cX9_back 20 = .ok (.putfield 87, 3) := by decide +kernel
theorem dX9_back_23 : decode cX9_back 23 = .ok (.aload_n 0, 1) := by decide +kernel
theorem dX9_back_24 : decode cX9_back 24 = .ok (.iconst 0, 1) := by decide +kernel
theorem dX9_back_25 : decode cX9_back 25 = .ok (.putfield 90, 3) := by decide +kernel
theorem dX9_back_28 : decode cX9_back 28 = .ok (.aload_n 0, 1) := by decide +kernel
theorem dX9_back_29 : decode cX9_back 29 = .ok (.getfield 77, 3) := by decide +kernel
theorem dX9_back_32 : decode cX9_back 32 = .ok (.ireturn, 1) := by decide +kernel
theorem dJ6_numberOfTrailingZeros_0f7a4_0 : decode cJ6_numberOfTrailingZeros_0f7a4 0 = .ok (.iload_n 0, 1) := by decide +kernel
theorem dJ6_numberOfTrailingZeros_0f7a4_1 : decode cJ6_numberOfTrailingZeros_0f7a4 1 = .ok (.iconst (-1), 1) := by decide +kernel
theorem dJ6_numberOfTrailingZeros_0f7a4_2 : decode cJ6_numberOfTrailingZeros_0f7a4 2 = .ok (.ixor, 1) := by decide +kernel
theorem dJ6_numberOfTrailingZeros_0f7a4_3 : decode cJ6_numberOfTrailingZeros_0f7a4 3 = .ok (.iload_n 0, 1) := by decide +kernel
theorem dJ6_numberOfTrailingZeros_0f7a4_4 : decode cJ6_numberOfTrailingZeros_0f7a4 4 = .ok (.iconst 1, 1) := by decide +kernel
theorem dJ6_numberOfTrailingZeros_0f7a4_5 : decode cJ6_numberOfTrailingZeros_0f7a4 5 = .ok (.isub, 1) := by decide +kernel
theorem dJ6_numberOfTrailingZeros_0f7a4_6 : decode cJ6_numberOfTrailingZeros_0f7a4 6 = .ok (.iand, 1) := by decide +kernel
theorem dJ6_numberOfTrailingZeros_0f7a4_7 : decode cJ6_numberOfTrailingZeros_0f7a4 7 = .ok (.istore_n 0, 1) := by decide +kernel
theorem dJ6_numberOfTrailingZeros_0f7a4_8 : decode cJ6_numberOfTrailingZeros_0f7a4 8 = .ok (.iload_n 0, 1) := by decide +kernel
theorem dJ6_numberOfTrailingZeros_0f7a4_9 : decode cJ6_numberOfTrailingZeros_0f7a4 9 = .ok (.ifCond .gt 8, 3) := by decide +kernel
theorem dJ6_numberOfTrailingZeros_0f7a4_12 : decode cJ6_numberOfTrailingZeros_0f7a4 12 = .ok (.iload_n 0, 1) := by decide +kernel
theorem dJ6_numberOfTrailingZeros_0f7a4_13 : decode cJ6_numberOfTrailingZeros_0f7a4 13 = .ok (.bipush 32, 2) := by decide +kernel
theorem dJ6_numberOfTrailingZeros_0f7a4_15 : decode cJ6_numberOfTrailingZeros_0f7a4 15 = .ok (.iand, 1) := by decide +kernel
theorem dJ6_numberOfTrailingZeros_0f7a4_16 : decode cJ6_numberOfTrailingZeros_0f7a4 16 = .ok (.ireturn, 1) := by decide +kernel
theorem dJ6_numberOfTrailingZeros_0f7a4_17 : decode cJ6_numberOfTrailingZeros_0f7a4 17 = .ok (.iconst 1, 1) := by decide +kernel
theorem dJ6_numberOfTrailingZeros_0f7a4_18 : decode cJ6_numberOfTrailingZeros_0f7a4 18 = .ok (.istore_n 1, 1) := by decide +kernel
theorem dJ6_numberOfTrailingZeros_0f7a4_19 : decode cJ6_numberOfTrailingZeros_0f7a4 19 = .ok (.iload_n 0, 1) := by decide +kernel
theorem dJ6_numberOfTrailingZeros_0f7a4_20 : decode cJ6_numberOfTrailingZeros_0f7a4 20 = .ok (.ldc_w 264, 3) := by decide +kernel
theorem dJ6_numberOfTrailingZeros_0f7a4_23 : decode cJ6_numberOfTrailingZeros_0f7a4 23 = .ok (.if_icmp .le 11, 3) := by decide +kernel
theorem dJ6_numberOfTrailingZeros_0f7a4_26 : decode cJ6_numberOfTrailingZeros_0f7a4 26 = .ok (.iinc 1 16, 3) := by decide +kernel
theorem dJ6_numberOfTrailingZeros_0f7a4_29 : decode cJ6_numberOfTrailingZeros_0f7a4 29 = .ok (.iload_n 0, 1) := by decide +kernel
theorem dJ6_numberOfTrailingZeros_0f7a4_30 : decode cJ6_numberOfTrailingZeros_0f7a4 30 = .ok (.bipush 16, 2) := by decide +kernel
theorem dJ6_numberOfTrailingZeros_0f7a4_32 : decode cJ6_numberOfTrailingZeros_0f7a4 32 = .ok (.iushr, 1) := by decide +kernel
theorem dJ6_numberOfTrailingZeros_0f7a4_33 : decode cJ6_numberOfTrailingZeros_0f7a4 33 = .ok (.istore_n 0, 1) := by decide +kernel
theorem dJ6_numberOfTrailingZeros_0f7a4_34 : decode cJ6_numberOfTrailingZeros_0f7a4 34 = .ok (.iload_n 0, 1) := by decide +kernel
theorem dJ6_numberOfTrailingZeros_0f7a4_35 : decode cJ6_numberOfTrailingZeros_0f7a4 35 = .ok (.sipush 256, 3) := by decide +kernel
theorem dJ6_numberOfTrailingZeros_0f7a4_38 : decode cJ6_numberOfTrailingZeros_0f7a4 38 = .ok (.if_icmp .le 11, 3) := by decide +kernel
theorem dJ6_numberOfTrailingZeros_0f7a4_41 : decode cJ6_numberOfTrailingZeros_0f7a4 41 = .ok (.iinc 1 8, 3) := by decide +kernel
theorem dJ6_numberOfTrailingZeros_0f7a4_44 : decode cJ6_numberOfTrailingZeros_0f7a4 44 = .ok (.iload_n 0, 1) := by decide +kernel
theorem dJ6_numberOfTrailingZeros_0f7a4_45 : decode cJ6_numberOfTrailingZeros_0f7a4 45 = .ok (.bipush 8, 2) := by decide +kernel
theorem dJ6_numberOfTrailingZeros_0f7a4_47 : decode cJ6_numberOfTrailingZeros_0f7a4 47 = .ok (.iushr, 1) := by decide +kernel
theorem dJ6_numberOfTrailingZeros_0f7a4_48 : decode cJ6_numberOfTrailingZeros_0f7a4 48 = .ok (.istore_n 0, 1) := by decide +kernel
theorem dJ6_numberOfTrailingZeros_0f7a4_49 : decode cJ6_numberOfTrailingZeros_0f7a4 49 = .ok (.iload_n 0, 1) := by decide +kernel
theorem dJ6_numberOfTrailingZeros_0f7a4_50 : decode cJ6_numberOfTrailingZeros_0f7a4 50 = .ok (.bipush 16, 2) := by decide +kernel
theorem dJ6_numberOfTrailingZeros_0f7a4_52 : decode cJ6_numberOfTrailingZeros_0f7a4 52 = .ok (.if_icmp .le 10, 3) := by decide +kernel
theorem dJ6_numberOfTrailingZeros_0f7a4_55 : decode cJ6_numberOfTrailingZeros_0f7a4 55 = .ok (.iinc 1 4, 3) := by decide +kernel
theorem dJ6_numberOfTrailingZeros_0f7a4_58 : decode cJ6_numberOfTrailingZeros_0f7a4 58 = .ok (.iload_n 0, 1) := by decide +kernel
theorem dJ6_numberOfTrailingZeros_0f7a4_59 : decode cJ6_numberOfTrailingZeros_0f7a4 59 = .ok (.iconst 4, 1) := by decide +kernel
theorem dJ6_numberOfTrailingZeros_0f7a4_60 : decode cJ6_numberOfTrailingZeros_0f7a4 60 = .ok (.iushr, 1) := by decide +kernel
theorem dJ6_numberOfTrailingZeros_0f7a4_61 : decode cJ6_numberOfTrailingZeros_0f7a4 61 = .ok (.istore_n 0, 1) := by decide +kernel
theorem dJ6_numberOfTrailingZeros_0f7a4_62 : decode cJ6_numberOfTrailingZeros_0f7a4 62 = .ok (.iload_n 0, 1) := by decide +kernel
theorem dJ6_numberOfTrailingZeros_0f7a4_63 : decode cJ6_numberOfTrailingZeros_0f7a4 63 = .ok (.iconst 4, 1) := by decide +kernel
theorem dJ6_numberOfTrailingZeros_0f7a4_64 : decode cJ6_numberOfTrailingZeros_0f7a4 64 = .ok (.if_icmp .le 10, 3) := by decide +kernel
theorem dJ6_numberOfTrailingZeros_0f7a4_67 : decode cJ6_numberOfTrailingZeros_0f7a4 67 = .ok (.iinc 1 2, 3) := by decide +kernel
theorem dJ6_numberOfTrailingZeros_0f7a4_70 : decode cJ6_numberOfTrailingZeros_0f7a4 70 = .ok (.iload_n 0, 1) := by decide +kernel
theorem dJ6_numberOfTrailingZeros_0f7a4_71 : decode cJ6_numberOfTrailingZeros_0f7a4 71 = .ok (.iconst 2, 1) := by decide +kernel
theorem dJ6_numberOfTrailingZeros_0f7a4_72 : decode cJ6_numberOfTrailingZeros_0f7a4 72 = .ok (.iushr, 1) := by decide +kernel
theorem dJ6_numberOfTrailingZeros_0f7a4_73 : decode cJ6_numberOfTrailingZeros_0f7a4 73 = .ok (.istore_n 0, 1) := by decide +kernel
theorem dJ6_numberOfTrailingZeros_0f7a4_74 : decode cJ6_numberOfTrailingZeros_0f7a4 74 = .ok (.iload_n 1, 1) := by decide +kernel
theorem dJ6_numberOfTrailingZeros_0f7a4_75 : decode cJ6_numberOfTrailingZeros_0f7a4 75 = .ok (.iload_n 0, 1) := by decide +kernel
theorem dJ6_numberOfTrailingZeros_0f7a4_76 : decode cJ6_numberOfTrailingZeros_0f7a4 76 = .ok (.iconst 1, 1) := by decide +kernel
theorem dJ6_numberOfTrailingZeros_0f7a4_77 : decode cJ6_numberOfTrailingZeros_0f7a4 77 = .ok (.iushr, 1) := by decide +kernel
theorem dJ6_numberOfTrailingZeros_0f7a4_78 : decode cJ6_numberOfTrailingZeros_0f7a4 78 = .ok (.iadd, 1) := by decide +kernel
theorem dJ6_numberOfTrailingZeros_0f7a4_79 : decode cJ6_numberOfTrailingZeros_0f7a4 79 = .ok (.ireturn, 1) := by decide +kernel
theorem dJ6_bitCount_0f7a4_0 : decode cJ6_bitCount_0f7a4 0 = .ok (.iload_n 0, 1) := by decide +kernel
theorem dJ6_bitCount_0f7a4_1 : decode cJ6_bitCount_0f7a4 1 = .ok (.iload_n 0, 1) := by decide +kernel
theorem dJ6_bitCount_0f7a4_2 : decode cJ6_bitCount_0f7a4 2 = .ok (.iconst 1, 1) := by decide +kernel
theorem dJ6_bitCount_0f7a4_3 : decode cJ6_bitCount_0f7a4 3 = .ok (.iushr, 1) := by decide +kernel
theorem dJ6_bitCount_0f7a4_4 : decode cJ6_bitCount_0f7a4 4 = .ok (.ldc_w 265, 3) := by decide +kernel
theorem dJ6_bitCount_0f7a4_7 : decode cJ6_bitCount_0f7a4 7 = .ok (.iand, 1) := by decide +kernel
theorem dJ6_bitCount_0f7a4_8 : decode cJ6_bitCount_0f7a4 8 = .ok (.isub, 1) := by decide +kernel
theorem dJ6_bitCount_0f7a4_9 : decode cJ6_bitCount_0f7a4 9 = .ok (.istore_n 0, 1) := by decide +kernel
theorem dJ6_bitCount_0f7a4_10 : decode cJ6_bitCount_0f7a4 10 = .ok (.iload_n 0, 1) := by decide +kernel
theorem dJ6_bitCount_0f7a4_11 : decode cJ6_bitCount_0f7a4 11 = .ok (.ldc_w 266, 3) := by decide +kernel
theorem dJ6_bitCount_0f7a4_14 : decode cJ6_bitCount_0f7a4 14 = .ok (.iand, 1) := by decide +kernel
theorem dJ6_bitCount_0f7a4_15 : decode cJ6_bitCount_0f7a4 15 = .ok (.iload_n 0, 1) := by decide +kernel
theorem dJ6_bitCount_0f7a4_16 : decode cJ6_bitCount_0f7a4 16 = .ok (.iconst 2, 1) := by decide +kernel
theorem dJ6_bitCount_0f7a4_17 : decode cJ6_bitCount_0f7a4 17 = .ok (.iushr, 1) := by decide +kernel
theorem dJ6_bitCount_0f7a4_18 : decode cJ6_bitCount_0f7a4 18 = .ok (.ldc_w 266, 3) := by decide +kernel
theorem dJ6_bitCount_0f7a4_21 : decode cJ6_bitCount_0f7a4 21 = .ok (.iand, 1) := by decide +kernel
theorem dJ6_bitCount_0f7a4_22 : decode cJ6_bitCount_0f7a4 22 = .ok (.iadd, 1) := by decide +kernel
theorem dJ6_bitCount_0f7a4_23 : decode cJ6_bitCount_0f7a4 23 = .ok (.istore_n 0, 1) := by decide +kernel
theorem dJ6_bitCount_0f7a4_24 : decode cJ6_bitCount_0f7a4 24 = .ok (.iload_n 0, 1) := by decide +kernel
theorem dJ6_bitCount_0f7a4_25 : decode cJ6_bitCount_0f7a4 25 = .ok (.iload_n 0, 1) := by decide +kernel
theorem dJ6_bitCount_0f7a4_26 : decode cJ6_bitCount_0f7a4 26 = .ok (.iconst 4, 1) := by decide +kernel
theorem dJ6_bitCount_0f7a4_27 : decode cJ6_bitCount_0f7a4 27 = .ok (.iushr, 1) := by decide +kernel
theorem dJ6_bitCount_0f7a4_28 : decode cJ6_bitCount_0f7a4 28 = .ok (.iadd, 1) := by decide +kernel
theorem dJ6_bitCount_0f7a4_29 : decode cJ6_bitCount_0f7a4 29 = .ok (.ldc_w 267, 3) := by decide +kernel
theorem dJ6_bitCount_0f7a4_32 : decode cJ6_bitCount_0f7a4 32 = .ok (.iand, 1) := by decide +kernel
theorem dJ6_bitCount_0f7a4_33 : decode cJ6_bitCount_0f7a4 33 = .ok (.istore_n 0, 1) := by decide +kernel
theorem dJ6_bitCount_0f7a4_34 : decode cJ6_bitCount_0f7a4 34 = .ok (.iload_n 0, 1) := by decide +kernel
theorem dJ6_bitCount_0f7a4_35 : decode cJ6_bitCount_0f7a4 35 = .ok (.iload_n 0, 1) := by decide +kernel
theorem dJ6_bitCount_0f7a4_36 : decode cJ6_bitCount_0f7a4 36 = .ok (.bipush 8, 2) := by decide +kernel
theorem dJ6_bitCount_0f7a4_38 : decode cJ6_bitCount_0f7a4 38 = .ok (.iushr, 1) := by decide +kernel
theorem dJ6_bitCount_0f7a4_39 : decode cJ6_bitCount_0f7a4 39 = .ok (.iadd, 1) := by decide +kernel
theorem dJ6_bitCount_0f7a4_40 : decode cJ6_bitCount_0f7a4 40 = .ok (.istore_n 0, 1) := by decide +kernel
theorem dJ6_bitCount_0f7a4_41 : decode cJ6_bitCount_0f7a4 41 = .ok (.iload_n 0, 1) := by decide +kernel
theorem dJ6_bitCount_0f7a4_42 : decode cJ6_bitCount_0f7a4 42 = .ok (.iload_n 0, 1) := by decide +kernel
theorem dJ6_bitCount_0f7a4_43 : decode cJ6_bitCount_0f7a4 43 = .ok (.bipush 16, 2) := by decide +kernel
theorem dJ6_bitCount_0f7a4_45 : decode cJ6_bitCount_0f7a4 45 = .ok (.iushr, 1) := by decide +kernel
theorem dJ6_bitCount_0f7a4_46 : decode cJ6_bitCount_0f7a4 46 = .ok (.iadd, 1) := by decide +kernel
theorem dJ6_bitCount_0f7a4_47 : decode cJ6_bitCount_0f7a4 47 = .ok (.istore_n 0, 1) := by decide +kernel
theorem dJ6_bitCount_0f7a4_48 : decode cJ6_bitCount_0f7a4 48 = .ok (.iload_n 0, 1) := by decide +kernel
theorem dJ6_bitCount_0f7a4_49 : decode cJ6_bitCount_0f7a4 49 = .ok (.bipush 63, 2) := by decide +kernel
theorem dJ6_bitCount_0f7a4_51 : decode cJ6_bitCount_0f7a4 51 = .ok (.iand, 1) := by decide +kernel
theorem dJ6_bitCount_0f7a4_52 : decode cJ6_bitCount_0f7a4 52 = .ok (.ireturn, 1) := by decide +kernel
theorem dJ7_fill_53178_0 : decode cJ7_fill_53178 0 = .ok (.iconst 0, 1) := by decide +kernel
theorem dJ7_fill_53178_1 : decode cJ7_fill_53178 1 = .ok (.istore_n 2, 1) := by decide +kernel
theorem dJ7_fill_53178_2 : decode cJ7_fill_53178 2 = .ok (.aload_n 0, 1) := by decide +kernel
theorem dJ7_fill_53178_3 : decode cJ7_fill_53178 3 = .ok (.arraylength, 1) := by decide +kernel
theorem dJ7_fill_53178_4 : decode cJ7_fill_53178 4 = .ok (.istore_n 3, 1) := by decide +kernel
theorem dJ7_fill_53178_5 : decode cJ7_fill_53178 5 = .ok (.iload_n 2, 1) := by decide +kernel
theorem dJ7_fill_53178_6 : decode cJ7_fill_53178 6 = .ok (.iload_n 3, 1) := by decide +kernel
theorem dJ7_fill_53178_7 : decode cJ7_fill_53178 7 = .ok (.if_icmp .ge 13, 3) := by decide +kernel
theorem dJ7_fill_53178_10 : decode cJ7_fill_53178 10 = .ok (.aload_n 0, 1) := by decide +kernel
theorem dJ7_fill_53178_11 : decode cJ7_fill_53178 11 = .ok (.iload_n 2, 1) := by decide +kernel
theorem dJ7_fill_53178_12 : decode cJ7_fill_53178 12 = .ok (.iload_n 1, 1) := by decide +kernel
theorem dJ7_fill_53178_13 : decode cJ7_fill_53178 13 = .ok (.iastore, 1) := by decide +kernel
theorem dJ7_fill_53178_14 : decode cJ7_fill_53178 14 = .ok (.iinc 2 1, 3) := by decide +kernel
theorem dJ7_fill_53178_17 : decode cJ7_fill_53178 17 = .ok (.goto (-12), 3) := by decide +kernel
theorem dJ7_fill_53178_20 : decode cJ7_fill_53178 20 = .ok (.return_, 1) := by decide +kernel
set_option maxRecDepth 20000 in
theorem ggL_law_X8_init : GoodIn wsL_law wsX8_init := goodIn_r _ [8, 9, 10, 11, 12, 13, 14, 15, 16, 17, 18, 19, 20, 21, 22, 23, 24, 25, 26, 27, 28, 29, 30, 31, 32, 33, 34, 35, 36, 37, 38, 39, 40, 41, 42, 43, 44, 45, 46, 47, 48, 49, 50, 51, 52, 53, 54, 55, 56, 57, 58, 59, 60, 61, 62, 63, 64, 65, 66, 67, 68, 69, 70, 71, 72, 73, 74, 75, 76, 77, 78, 79, 80, 81, 82, 83, 84, 85, 86, 87, 88, 89, 90, 91, 92, 93, 94, 95, 96, 97, 98, 99, 100, 101, 102, 103, 104, 105, 106, 107, 108, 109, 110, 111, 112, 113, 114, 115, 116, 117, 118, 119, 120, 121, 1218, 1219, 1220, 1221, 1222, 1223, 1224, 1225, 1226, 1166, 1167, 1168, 1169, 1170, 1171, 1172, 1173, 1174, 1175, 1176, 1177, 1227, 1228, 1229, 1230, 1231, 1232, 1233, 1234, 1235, 1236, 1237, 1238, 1239, 1240, 1241, 1242, 1243, 1244, 1245, 1246, 1247, 1248, 1249, 1250, 1251, 1252, 1253, 1254, 1255, 1256, 1257, 1258, 1259, 1260, 1261, 1262] (by decide +kernel) (by decide +kernel)
set_option maxRecDepth 20000 in
theorem gL_law_X8_init : GoodIn wsL_law (wsX8_init) := ggL_law_X8_init
set_option maxRecDepth 20000 in
theorem ggL_law_X9_init : GoodIn wsL_law wsX9_init := goodIn_r _ [124, 125, 10, 11, 48, 126, 127, 128, 129, 130, 131, 132, 133, 134, 135, 136, 137, 138, 139, 140, 141, 142, 143, 144, 145, 146, 1178, 1179, 1180, 1181, 1182, 1183, 1184, 1185, 1186, 1187, 1188, 1189, 1190, 1191, 1192, 1193, 1194, 1195, 1196, 1197, 1198, 1199, 1200, 1201, 1202, 1203, 1204, 1205, 1206, 1207, 1208, 1209, 1210, 1211, 1212, 1213, 1214, 1215, 1216, 1217] (by decide +kernel) (by decide +kernel)
set_option maxRecDepth 20000 in
theorem gL_law_X9_init : GoodIn wsL_law (wsX9_init) := ggL_law_X9_init
set_option maxRecDepth 20000 in
theorem ggL_law_X8_begin : GoodIn wsL_law wsX8_begin := goodIn_r _ [150, 15, 151, 152, 153, 154, 14, 155, 55, 56, 57, 156, 157, 158, 2, 159, 29, 44, 160, 161, 162, 28, 163, 96, 97, 95, 164, 165, 166, 167, 49, 168, 169, 170, 171, 50, 51, 52, 53, 54, 1166, 1167, 1168, 1169, 1170, 1171, 1172, 1173, 1174, 1175, 1176, 1177, 1218, 1219, 1220, 1221, 1222, 1223, 1224, 1225, 1226, 1234, 1235, 1236] (by decide +kernel) (by decide +kernel)
set_option maxRecDepth 20000 in
theorem gL_law_X8_begin : GoodIn wsL_law (wsV RL 13 RX8 yX8_begin wsX8_begin) := goodIn_app (goodIn_of _ (by decide +kernel)) ggL_law_X8_begin
set_option maxRecDepth 20000 in
theorem ggL_law_X9_begin : GoodIn wsL_law wsX9_begin := goodIn_r _ [175, 176, 177, 178, 179, 1178, 1179, 1180, 1181, 1182, 1183, 1184, 1185, 1186, 1187, 1188, 1189, 1190, 1191, 1192, 1193, 1194, 1195, 1196, 1197, 1198, 1199, 1200, 1201, 1202, 1203, 1204, 1205, 1206, 1207, 1208, 1209, 1210, 1211, 1212, 1213, 1214, 1215, 1216, 1217] (by decide +kernel) (by decide +kernel)
set_option maxRecDepth 20000 in
theorem gL_law_X9_begin : GoodIn wsL_law (wsV RL 17 RX9 yX9_begin wsX9_begin) := goodIn_app (goodIn_of _ (by decide +kernel)) ggL_law_X9_begin
set_option maxRecDepth 20000 in
theorem ggL_law_X8_fact : GoodIn wsL_law wsX8_fact := goodIn_r _ [183, 15, 184, 185, 186, 2, 187, 188, 189, 190, 191, 192, 193, 194, 195, 196, 197, 198, 199, 200, 29, 44, 201, 202, 203, 28, 204, 96, 97, 95, 205, 206, 207, 208, 164, 165, 166, 14, 167, 49, 168, 169, 170, 171, 50, 51, 52, 53, 54, 55, 56, 57, 1166, 1167, 1168, 1169, 1170, 1171, 1172, 1173, 1174, 1175, 1176, 1177, 1218, 1219, 1220, 1221, 1222, 1223, 1224, 1225, 1226, 1234, 1235, 1236] (by decide +kernel) (by decide +kernel)
set_option maxRecDepth 20000 in
theorem gL_law_X8_fact : GoodIn wsL_law (wsV RL 18 RX8 yX8_fact wsX8_fact) := goodIn_app (goodIn_of _ (by decide +kernel)) ggL_law_X8_fact
set_option maxRecDepth 20000 in
theorem ggL_law_X9_fact : GoodIn wsL_law wsX9_fact := goodIn_r _ [212, 177, 213, 214, 5, 215, 216, 217, 218, 219, 220, 221, 222, 223, 224, 225, 226, 227, 228, 229, 176, 131, 130, 132, 230, 231, 232, 233, 178, 133, 179, 1178, 1179, 1180, 1181, 1182, 1183, 1184, 1185, 1186, 1187, 1188, 1189, 1190, 1191, 1192, 1193, 1194, 1195, 1196, 1197, 1198, 1199, 1200, 1201, 1202, 1203, 1204, 1205, 1206, 1207, 1208, 1209, 1210, 1211, 1212, 1213, 1214, 1215, 1216, 1217] (by decide +kernel) (by decide +kernel)
set_option maxRecDepth 20000 in
theorem gL_law_X9_fact : GoodIn wsL_law (wsV RL 22 RX9 yX9_fact wsX9_fact) := goodIn_app (goodIn_of _ (by decide +kernel)) ggL_law_X9_fact
set_option maxRecDepth 20000 in
theorem ggL_law_X8_rule : GoodIn wsL_law wsX8_rule := goodIn_r _ [237, 15, 151, 185, 186, 2, 187, 238, 239, 240, 241, 242, 243, 244, 245, 246, 247, 14, 248, 56, 49, 50, 51, 52, 53, 54, 197, 198, 199, 200, 29, 44, 201, 202, 203, 28, 204, 96, 97, 95, 205, 206, 207, 208, 164, 165, 166, 167, 168, 169, 170, 171, 55, 57, 1166, 1167, 1168, 1169, 1170, 1171, 1172, 1173, 1174, 1175, 1176, 1177, 1218, 1219, 1220, 1221, 1222, 1223, 1224, 1225, 1226, 1234, 1235, 1236] (by decide +kernel) (by decide +kernel)
set_option maxRecDepth 20000 in
theorem gL_law_X8_rule : GoodIn wsL_law (wsV RL 23 RX8 yX8_rule wsX8_rule) := goodIn_app (goodIn_of _ (by decide +kernel)) ggL_law_X8_rule
set_option maxRecDepth 20000 in
theorem ggL_law_X9_rule : GoodIn wsL_law wsX9_rule := goodIn_r _ [252, 253, 176, 216, 217, 5, 218, 213, 214, 215, 254, 255, 256, 257, 126, 127, 128, 129, 130, 131, 132, 222, 223, 224, 225, 226, 227, 228, 229, 177, 230, 231, 232, 233, 178, 133, 179, 1178, 1179, 1180, 1181, 1182, 1183, 1184, 1185, 1186, 1187, 1188, 1189, 1190, 1191, 1192, 1193, 1194, 1195, 1196, 1197, 1198, 1199, 1200, 1201, 1202, 1203, 1204, 1205, 1206, 1207, 1208, 1209, 1210, 1211, 1212, 1213, 1214, 1215, 1216, 1217] (by decide +kernel) (by decide +kernel)
set_option maxRecDepth 20000 in
theorem gL_law_X9_rule : GoodIn wsL_law (wsV RL 27 RX9 yX9_rule wsX9_rule) := goodIn_app (goodIn_of _ (by decide +kernel)) ggL_law_X9_rule
set_option maxRecDepth 20000 in
theorem ggL_law_X8_off : GoodIn wsL_law wsX8_off := goodIn_r _ [261, 15, 262, 263, 264, 265, 14, 266, 56, 188, 189, 2, 190, 191, 192, 193, 194, 195, 196, 197, 198, 199, 200, 29, 44, 201, 202, 203, 28, 204, 96, 97, 95, 205, 206, 207, 208, 164, 165, 166, 167, 49, 168, 169, 170, 171, 50, 51, 52, 53, 54, 55, 57, 1166, 1167, 1168, 1169, 1170, 1171, 1172, 1173, 1174, 1175, 1176, 1177, 1218, 1219, 1220, 1221, 1222, 1223, 1224, 1225, 1226, 1234, 1235, 1236] (by decide +kernel) (by decide +kernel)
set_option maxRecDepth 20000 in
theorem gL_law_X8_off : GoodIn wsL_law (wsV RL 28 RX8 yX8_off wsX8_off) := goodIn_app (goodIn_of _ (by decide +kernel)) ggL_law_X8_off
set_option maxRecDepth 20000 in
theorem ggL_law_X9_off : GoodIn wsL_law wsX9_off := goodIn_r _ [270, 131, 271, 272, 273, 5, 274, 176, 216, 217, 218, 219, 220, 221, 222, 223, 224, 225, 226, 227, 228, 229, 177, 130, 132, 230, 231, 232, 233, 178, 133, 179, 1178, 1179, 1180, 1181, 1182, 1183, 1184, 1185, 1186, 1187, 1188, 1189, 1190, 1191, 1192, 1193, 1194, 1195, 1196, 1197, 1198, 1199, 1200, 1201, 1202, 1203, 1204, 1205, 1206, 1207, 1208, 1209, 1210, 1211, 1212, 1213, 1214, 1215, 1216, 1217] (by decide +kernel) (by decide +kernel)
set_option maxRecDepth 20000 in
theorem gL_law_X9_off : GoodIn wsL_law (wsV RL 31 RX9 yX9_off wsX9_off) := goodIn_app (goodIn_of _ (by decide +kernel)) ggL_law_X9_off
set_option maxRecDepth 20000 in
theorem ggL_law_X8_strength : GoodIn wsL_law wsX8_strength := goodIn_r _ [278, 15, 279, 263, 264, 265, 14, 266, 56, 238, 239, 2, 240, 197, 198, 199, 200, 29, 44, 201, 202, 203, 28, 204, 96, 97, 95, 205, 206, 207, 208, 164, 165, 166, 167, 49, 168, 169, 170, 171, 50, 51, 52, 53, 54, 55, 57, 1166, 1167, 1168, 1169, 1170, 1171, 1172, 1173, 1174, 1175, 1176, 1177, 1218, 1219, 1220, 1221, 1222, 1223, 1224, 1225, 1226, 1234, 1235, 1236] (by decide +kernel) (by decide +kernel)
set_option maxRecDepth 20000 in
theorem gL_law_X8_strength : GoodIn wsL_law (wsV RL 32 RX8 yX8_strength wsX8_strength) := goodIn_app (goodIn_of _ (by decide +kernel)) ggL_law_X8_strength
set_option maxRecDepth 20000 in
theorem ggL_law_X9_strength : GoodIn wsL_law wsX9_strength := goodIn_r _ [283, 130, 271, 272, 273, 5, 274, 176, 216, 217, 218, 222, 223, 224, 225, 226, 227, 228, 229, 177, 131, 132, 230, 231, 232, 233, 178, 133, 179, 1178, 1179, 1180, 1181, 1182, 1183, 1184, 1185, 1186, 1187, 1188, 1189, 1190, 1191, 1192, 1193, 1194, 1195, 1196, 1197, 1198, 1199, 1200, 1201, 1202, 1203, 1204, 1205, 1206, 1207, 1208, 1209, 1210, 1211, 1212, 1213, 1214, 1215, 1216, 1217] (by decide +kernel) (by decide +kernel)
set_option maxRecDepth 20000 in
theorem gL_law_X9_strength : GoodIn wsL_law (wsV RL 35 RX9 yX9_strength wsX9_strength) := goodIn_app (goodIn_of _ (by decide +kernel)) ggL_law_X9_strength
set_option maxRecDepth 20000 in
theorem ggL_law_X8_over : GoodIn wsL_law wsX8_over := goodIn_r _ [287, 15, 288, 263, 264, 265, 14, 266, 56, 188, 189, 2, 190, 289, 290, 291, 191, 192, 193, 194, 195, 196, 197, 198, 199, 200, 29, 44, 201, 202, 203, 28, 204, 96, 97, 95, 205, 206, 207, 208, 164, 165, 166, 167, 49, 168, 169, 170, 171, 50, 51, 52, 53, 54, 55, 57, 1166, 1167, 1168, 1169, 1170, 1171, 1172, 1173, 1174, 1175, 1176, 1177, 1218, 1219, 1220, 1221, 1222, 1223, 1224, 1225, 1226, 1234, 1235, 1236] (by decide +kernel) (by decide +kernel)
set_option maxRecDepth 20000 in
theorem gL_law_X8_over : GoodIn wsL_law (wsV RL 36 RX8 yX8_over wsX8_over) := goodIn_app (goodIn_of _ (by decide +kernel)) ggL_law_X8_over
set_option maxRecDepth 20000 in
theorem ggL_law_X9_over : GoodIn wsL_law wsX9_over := goodIn_r _ [295, 132, 271, 272, 273, 5, 274, 176, 216, 217, 218, 219, 220, 221, 296, 297, 298, 222, 223, 224, 225, 226, 227, 228, 229, 177, 131, 130, 230, 231, 232, 233, 178, 133, 179, 1178, 1179, 1180, 1181, 1182, 1183, 1184, 1185, 1186, 1187, 1188, 1189, 1190, 1191, 1192, 1193, 1194, 1195, 1196, 1197, 1198, 1199, 1200, 1201, 1202, 1203, 1204, 1205, 1206, 1207, 1208, 1209, 1210, 1211, 1212, 1213, 1214, 1215, 1216, 1217] (by decide +kernel) (by decide +kernel)
set_option maxRecDepth 20000 in
theorem gL_law_X9_over : GoodIn wsL_law (wsV RL 40 RX9 yX9_over wsX9_over) := goodIn_app (goodIn_of _ (by decide +kernel)) ggL_law_X9_over
set_option maxRecDepth 20000 in
theorem ggL_law_X8_feed : GoodIn wsL_law wsX8_feed := goodIn_r _ [302, 34, 303, 304, 305, 306, 33, 307, 108, 101, 1166, 1167, 1168, 1169, 1170, 1171, 1172, 1173, 1174, 1175, 1176, 1177, 1237, 1238, 1239, 1240, 1241, 1242, 1243, 1244, 1245, 1246] (by decide +kernel) (by decide +kernel)
set_option maxRecDepth 20000 in
theorem gL_law_X8_feed : GoodIn wsL_law (wsV RL 41 RX8 yX8_feed wsX8_feed) := goodIn_app (goodIn_of _ (by decide +kernel)) ggL_law_X8_feed
set_option maxRecDepth 20000 in
theorem ggL_law_X9_feed : GoodIn wsL_law wsX9_feed := goodIn_r _ [311, 312, 134, 216, 217, 5, 218, 1178, 1179, 1180, 1181, 1182, 1183, 1184, 1185, 1186, 1187, 1188, 1189, 1190, 1191, 1192, 1193, 1194, 1195, 1196, 1197, 1198, 1199, 1200, 1201, 1202, 1203, 1204, 1205, 1206, 1207, 1208, 1209, 1210, 1211, 1212, 1213, 1214, 1215, 1216, 1217] (by decide +kernel) (by decide +kernel)
set_option maxRecDepth 20000 in
theorem gL_law_X9_feed : GoodIn wsL_law (wsV RL 45 RX9 yX9_feed wsX9_feed) := goodIn_app (goodIn_of _ (by decide +kernel)) ggL_law_X9_feed
set_option maxRecDepth 20000 in
theorem ggL_law_X8_reads : GoodIn wsL_law wsX8_reads := goodIn_r _ [316, 34, 303, 317, 20, 15, 318, 319, 320, 321, 322, 33, 323, 109, 110, 107, 108, 324, 325, 326, 327, 328, 329, 330, 331, 101, 332, 333, 334, 335, 102, 103, 336, 337, 338, 339, 340, 341, 342, 343, 344, 2, 345, 346, 347, 348, 349, 350, 351, 352, 104, 353, 354, 355, 356, 357, 358, 359, 360, 361, 362, 363, 364, 105, 106, 365, 366, 367, 368, 369, 370, 371, 372, 373, 374, 375, 376, 377, 165, 166, 14, 167, 49, 168, 169, 170, 171, 50, 51, 52, 53, 54, 55, 56, 57, 378, 379, 380, 381, 382, 383, 384, 385, 386, 290, 291, 387, 388, 389, 390, 391, 392, 264, 265, 266, 393, 394, 395, 396, 397, 398, 399, 400, 401, 246, 247, 248, 197, 198, 199, 200, 29, 44, 201, 202, 203, 28, 204, 96, 97, 95, 205, 206, 207, 208, 164, 1166, 1167, 1168, 1169, 1170, 1171, 1172, 1173, 1174, 1175, 1176, 1177, 1237, 1238, 1239, 1240, 1241, 1242, 1243, 1244, 1245, 1246, 1218, 1219, 1220, 1221, 1222, 1223, 1224, 1225, 1226, 1234, 1235, 1236] (by decide +kernel) (by decide +kernel)
set_option maxRecDepth 20000 in
theorem gL_law_X8_reads : GoodIn wsL_law (wsV RL 46 RX8 yX8_reads wsX8_reads) := goodIn_app (goodIn_of _ (by decide +kernel)) ggL_law_X8_reads
set_option maxRecDepth 20000 in
theorem ggL_law_X9_reads : GoodIn wsL_law wsX9_reads := goodIn_r _ [405, 312, 406, 407, 408, 5, 409, 410, 139, 140, 133, 178, 179, 411, 412, 413, 414, 415, 416, 417, 418, 419, 420, 421, 422, 423, 424, 425, 426, 427, 428, 429, 134, 430, 431, 432, 433, 216, 217, 218, 434, 435, 436, 437, 438, 439, 440, 441, 442, 443, 444, 445, 446, 447, 448, 449, 450, 451, 452, 453, 454, 455, 456, 457, 458, 459, 460, 461, 462, 463, 464, 465, 466, 467, 126, 127, 128, 129, 130, 131, 132, 177, 176, 468, 469, 470, 471, 296, 297, 298, 472, 210, 211, 212, 213, 214, 215, 219, 220, 221, 222, 223, 224, 225, 226, 227, 228, 229, 230, 231, 232, 233, 473, 250, 251, 252, 253, 254, 255, 256, 257, 271, 272, 273, 274, 474, 293, 294, 295, 475, 476, 477, 478, 1178, 1179, 1180, 1181, 1182, 1183, 1184, 1185, 1186, 1187, 1188, 1189, 1190, 1191, 1192, 1193, 1194, 1195, 1196, 1197, 1198, 1199, 1200, 1201, 1202, 1203, 1204, 1205, 1206, 1207, 1208, 1209, 1210, 1211, 1212, 1213, 1214, 1215, 1216, 1217] (by decide +kernel) (by decide +kernel)
set_option maxRecDepth 20000 in
theorem gL_law_X9_reads : GoodIn wsL_law (wsV RL 49 RX9 yX9_reads wsX9_reads) := goodIn_app (goodIn_of _ (by decide +kernel)) ggL_law_X9_reads
set_option maxRecDepth 20000 in
theorem ggL_law_X8_ruleOf : GoodIn wsL_law wsX8_ruleOf := goodIn_r _ [482, 15, 483, 484, 485, 486, 279, 262, 288, 263, 264, 265, 14, 266, 56, 191, 192, 2, 193, 487, 488, 489, 490, 54, 53, 491, 394, 395, 396, 290, 291, 1166, 1167, 1168, 1169, 1170, 1171, 1172, 1173, 1174, 1175, 1176, 1177, 1218, 1219, 1220, 1221, 1222, 1223, 1224, 1225, 1226] (by decide +kernel) (by decide +kernel)
set_option maxRecDepth 20000 in
theorem gL_law_X8_ruleOf : GoodIn wsL_law (wsV RL 50 RX8 yX8_ruleOf wsX8_ruleOf) := goodIn_app (goodIn_of _ (by decide +kernel)) ggL_law_X8_ruleOf
set_option maxRecDepth 20000 in
theorem ggL_law_X9_ruleOf : GoodIn wsL_law wsX9_ruleOf := goodIn_r _ [495, 126, 127, 128, 129, 130, 131, 132, 271, 272, 273, 5, 274, 176, 216, 217, 218, 496, 497, 498, 499, 500, 501, 502, 503, 296, 297, 298, 1178, 1179, 1180, 1181, 1182, 1183, 1184, 1185, 1186, 1187, 1188, 1189, 1190, 1191, 1192, 1193, 1194, 1195, 1196, 1197, 1198, 1199, 1200, 1201, 1202, 1203, 1204, 1205, 1206, 1207, 1208, 1209, 1210, 1211, 1212, 1213, 1214, 1215, 1216, 1217] (by decide +kernel) (by decide +kernel)
set_option maxRecDepth 20000 in
theorem gL_law_X9_ruleOf : GoodIn wsL_law (wsV RL 53 RX9 yX9_ruleOf wsX9_ruleOf) := goodIn_app (goodIn_of _ (by decide +kernel)) ggL_law_X9_ruleOf
set_option maxRecDepth 20000 in
theorem ggL_law_X8_rulesFor : GoodIn wsL_law wsX8_rulesFor := goodIn_r _ [507, 508, 509, 185, 186, 2, 187, 510, 511, 512, 513, 44, 19, 15, 514, 515, 516, 18, 517, 65, 66, 64, 518, 519, 520, 521, 522, 523, 524, 63, 525, 70, 72, 73, 74, 75, 526, 77, 527, 528, 529, 530, 531, 532, 488, 489, 14, 490, 54, 56, 53, 491, 394, 395, 396, 290, 291, 533, 534, 535, 536, 537, 538, 539, 540, 78, 79, 80, 81, 541, 542, 543, 544, 545, 546, 547, 548, 549, 550, 71, 551, 552, 553, 554, 555, 556, 557, 558, 559, 560, 561, 562, 563, 564, 565, 566, 344, 345, 567, 568, 569, 570, 571, 572, 573, 574, 575, 576, 577, 578, 579, 580, 581, 582, 583, 584, 585, 586, 587, 588, 589, 590, 591, 592, 1227, 1228, 1229, 1251, 1252, 1253, 1254, 1255, 1256, 1257, 1258, 1259, 1260, 1261, 1262, 1166, 1167, 1168, 1169, 1170, 1171, 1172, 1173, 1174, 1175, 1176, 1177, 1218, 1219, 1220, 1221, 1222, 1223, 1224, 1225, 1226] (by decide +kernel) (by decide +kernel)
set_option maxRecDepth 20000 in
theorem gL_law_X8_rulesFor : GoodIn wsL_law (wsV RL 54 RX8 yX8_rulesFor wsX8_rulesFor) := goodIn_app (goodIn_of _ (by decide +kernel)) ggL_law_X8_rulesFor
set_option maxRecDepth 20000 in
theorem ggL_law_X9_rulesFor : GoodIn wsL_law wsX9_rulesFor := goodIn_r _ [596, 176, 213, 214, 5, 215, 216, 217, 218, 597, 598, 599, 600, 131, 127, 1178, 1179, 1180, 1181, 1182, 1183, 1184, 1185, 1186, 1187, 1188, 1189, 1190, 1191, 1192, 1193, 1194, 1195, 1196, 1197, 1198, 1199, 1200, 1201, 1202, 1203, 1204, 1205, 1206, 1207, 1208, 1209, 1210, 1211, 1212, 1213, 1214, 1215, 1216, 1217] (by decide +kernel) (by decide +kernel)
set_option maxRecDepth 20000 in
theorem gL_law_X9_rulesFor : GoodIn wsL_law (wsV RL 57 RX9 yX9_rulesFor wsX9_rulesFor) := goodIn_app (goodIn_of _ (by decide +kernel)) ggL_law_X9_rulesFor
set_option maxRecDepth 20000 in
theorem ggL_law_X8_count : GoodIn wsL_law wsX8_count := goodIn_r _ [604, 15, 184, 508, 151, 605, 29, 606, 607, 34, 303, 38, 608, 510, 511, 512, 2, 513, 44, 19, 514, 515, 516, 18, 517, 65, 66, 64, 518, 519, 520, 521, 522, 523, 524, 63, 525, 70, 72, 73, 74, 75, 526, 77, 527, 528, 529, 530, 531, 532, 488, 489, 14, 490, 54, 56, 53, 491, 394, 395, 396, 290, 291, 533, 534, 535, 536, 537, 538, 539, 540, 78, 79, 80, 81, 541, 542, 543, 544, 545, 546, 547, 548, 549, 550, 71, 551, 552, 553, 554, 555, 556, 557, 558, 559, 560, 561, 562, 563, 564, 565, 566, 344, 345, 567, 568, 569, 570, 571, 572, 573, 574, 575, 576, 577, 578, 579, 580, 581, 582, 583, 584, 585, 586, 587, 588, 589, 590, 591, 592, 609, 610, 611, 612, 76, 613, 169, 170, 171, 614, 615, 616, 617, 618, 619, 620, 621, 622, 623, 624, 625, 626, 627, 628, 629, 630, 631, 632, 633, 634, 635, 636, 637, 638, 1166, 1167, 1168, 1169, 1170, 1171, 1172, 1173, 1174, 1175, 1176, 1177, 1218, 1219, 1220, 1221, 1222, 1223, 1224, 1225, 1226, 1227, 1228, 1229, 1234, 1235, 1236, 1237, 1238, 1239, 1240, 1241, 1242, 1243, 1244, 1245, 1246, 1247, 1248, 1251, 1252, 1253, 1254, 1255, 1256, 1257, 1258, 1259, 1260, 1261, 1262] (by decide +kernel) (by decide +kernel)
set_option maxRecDepth 20000 in
theorem gL_law_X8_count : GoodIn wsL_law (wsV RL 58 RX8 yX8_count wsX8_count) := goodIn_app (goodIn_of _ (by decide +kernel)) ggL_law_X8_count
set_option maxRecDepth 20000 in
theorem ggL_law_X9_count : GoodIn wsL_law wsX9_count := goodIn_r _ [642, 177, 176, 178, 179, 312, 643, 644, 645, 646, 5, 647, 141, 496, 497, 498, 499, 500, 501, 502, 503, 132, 130, 296, 297, 298, 648, 649, 650, 651, 253, 143, 652, 653, 654, 655, 142, 656, 144, 657, 658, 659, 660, 661, 662, 663, 664, 126, 128, 597, 598, 599, 600, 131, 127, 665, 666, 667, 668, 669, 670, 671, 672, 673, 674, 675, 676, 677, 678, 679, 680, 681, 682, 683, 684, 685, 686, 687, 129, 688, 689, 690, 691, 692, 693, 694, 695, 696, 697, 698, 699, 700, 701, 702, 703, 704, 705, 706, 707, 708, 709, 710, 711, 712, 713, 714, 715, 716, 628, 629, 630, 631, 632, 633, 717, 718, 719, 720, 721, 722, 723, 724, 1178, 1179, 1180, 1181, 1182, 1183, 1184, 1185, 1186, 1187, 1188, 1189, 1190, 1191, 1192, 1193, 1194, 1195, 1196, 1197, 1198, 1199, 1200, 1201, 1202, 1203, 1204, 1205, 1206, 1207, 1208, 1209, 1210, 1211, 1212, 1213, 1214, 1215, 1216, 1217] (by decide +kernel) (by decide +kernel)
set_option maxRecDepth 20000 in
theorem gL_law_X9_count : GoodIn wsL_law (wsV RL 61 RX9 yX9_count wsX9_count) := goodIn_app (goodIn_of _ (by decide +kernel)) ggL_law_X9_count
set_option maxRecDepth 20000 in
theorem ggL_law_X8_tag : GoodIn wsL_law wsX8_tag := goodIn_r _ [728, 185, 186, 2, 187, 729, 730, 731, 510, 511, 512, 513, 44, 19, 15, 514, 515, 516, 18, 517, 65, 66, 64, 518, 519, 520, 521, 522, 523, 524, 63, 525, 70, 72, 73, 74, 75, 526, 77, 527, 528, 529, 530, 531, 532, 488, 489, 14, 490, 54, 56, 53, 491, 394, 395, 396, 290, 291, 533, 534, 535, 536, 537, 538, 539, 540, 78, 79, 80, 81, 541, 542, 543, 544, 545, 546, 547, 548, 549, 550, 71, 551, 552, 553, 554, 555, 556, 557, 558, 559, 560, 561, 562, 563, 564, 565, 566, 344, 345, 567, 568, 569, 570, 571, 572, 573, 574, 575, 576, 577, 578, 579, 580, 581, 582, 583, 584, 585, 586, 587, 588, 589, 590, 591, 592, 732, 733, 734, 735, 1166, 1167, 1168, 1169, 1170, 1171, 1172, 1173, 1174, 1175, 1176, 1177, 1227, 1228, 1229, 1251, 1252, 1253, 1254, 1255, 1256, 1257, 1258, 1259, 1260, 1261, 1262, 1218, 1219, 1220, 1221, 1222, 1223, 1224, 1225, 1226] (by decide +kernel) (by decide +kernel)
set_option maxRecDepth 20000 in
theorem gL_law_X8_tag : GoodIn wsL_law (wsV RL 62 RX8 yX8_tag wsX8_tag) := goodIn_app (goodIn_of _ (by decide +kernel)) ggL_law_X8_tag
set_option maxRecDepth 20000 in
theorem ggL_law_X9_tag : GoodIn wsL_law wsX9_tag := goodIn_r _ [739, 142, 213, 214, 5, 215, 216, 217, 218, 740, 741, 742, 652, 653, 654, 655, 143, 656, 144, 296, 297, 298, 657, 658, 659, 660, 661, 662, 663, 664, 177, 176, 126, 128, 597, 598, 599, 600, 131, 127, 665, 666, 667, 668, 669, 670, 671, 672, 673, 674, 675, 676, 677, 678, 679, 680, 681, 682, 683, 684, 685, 686, 687, 129, 500, 501, 502, 503, 132, 130, 688, 689, 690, 691, 692, 693, 694, 695, 696, 697, 698, 699, 700, 701, 702, 703, 704, 705, 706, 707, 1178, 1179, 1180, 1181, 1182, 1183, 1184, 1185, 1186, 1187, 1188, 1189, 1190, 1191, 1192, 1193, 1194, 1195, 1196, 1197, 1198, 1199, 1200, 1201, 1202, 1203, 1204, 1205, 1206, 1207, 1208, 1209, 1210, 1211, 1212, 1213, 1214, 1215, 1216, 1217] (by decide +kernel) (by decide +kernel)
set_option maxRecDepth 20000 in
theorem gL_law_X9_tag : GoodIn wsL_law (wsV RL 65 RX9 yX9_tag wsX9_tag) := goodIn_app (goodIn_of _ (by decide +kernel)) ggL_law_X9_tag
set_option maxRecDepth 20000 in
theorem ggL_law_X8_tagged : GoodIn wsL_law wsX8_tagged := goodIn_r _ [746, 508, 747, 729, 730, 2, 731, 510, 511, 512, 513, 44, 19, 15, 514, 515, 516, 18, 517, 65, 66, 64, 518, 519, 520, 521, 522, 523, 524, 63, 525, 70, 72, 73, 74, 75, 526, 77, 527, 528, 529, 530, 531, 532, 488, 489, 14, 490, 54, 56, 53, 491, 394, 395, 396, 290, 291, 533, 534, 535, 536, 537, 538, 539, 540, 78, 79, 80, 81, 541, 542, 543, 544, 545, 546, 547, 548, 549, 550, 71, 551, 552, 553, 554, 555, 556, 557, 558, 559, 560, 561, 562, 563, 564, 565, 566, 344, 345, 567, 568, 569, 570, 571, 572, 573, 574, 575, 576, 577, 578, 579, 580, 581, 582, 583, 584, 585, 586, 587, 588, 589, 590, 591, 592, 748, 749, 750, 751, 752, 733, 734, 735, 1227, 1228, 1229, 1251, 1252, 1253, 1254, 1255, 1256, 1257, 1258, 1259, 1260, 1261, 1262, 1166, 1167, 1168, 1169, 1170, 1171, 1172, 1173, 1174, 1175, 1176, 1177, 1218, 1219, 1220, 1221, 1222, 1223, 1224, 1225, 1226] (by decide +kernel) (by decide +kernel)
set_option maxRecDepth 20000 in
theorem gL_law_X8_tagged : GoodIn wsL_law (wsV RL 66 RX8 yX8_tagged wsX8_tagged) := goodIn_app (goodIn_of _ (by decide +kernel)) ggL_law_X8_tagged
set_option maxRecDepth 20000 in
theorem ggL_law_X9_tagged : GoodIn wsL_law wsX9_tagged := goodIn_r _ [756, 143, 740, 741, 5, 742, 216, 217, 218, 652, 653, 654, 655, 142, 656, 144, 296, 297, 298, 657, 658, 659, 660, 661, 662, 663, 664, 177, 176, 126, 128, 597, 598, 599, 600, 131, 127, 665, 666, 667, 668, 669, 670, 671, 672, 673, 674, 675, 676, 677, 678, 679, 680, 681, 682, 683, 684, 685, 686, 687, 129, 500, 501, 502, 503, 132, 130, 688, 689, 690, 691, 692, 693, 694, 695, 696, 697, 698, 699, 700, 701, 702, 703, 704, 705, 706, 707, 757, 758, 759, 760, 1178, 1179, 1180, 1181, 1182, 1183, 1184, 1185, 1186, 1187, 1188, 1189, 1190, 1191, 1192, 1193, 1194, 1195, 1196, 1197, 1198, 1199, 1200, 1201, 1202, 1203, 1204, 1205, 1206, 1207, 1208, 1209, 1210, 1211, 1212, 1213, 1214, 1215, 1216, 1217] (by decide +kernel) (by decide +kernel)
set_option maxRecDepth 20000 in
theorem gL_law_X9_tagged : GoodIn wsL_law (wsV RL 69 RX9 yX9_tagged wsX9_tagged) := goodIn_app (goodIn_of _ (by decide +kernel)) ggL_law_X9_tagged
set_option maxRecDepth 20000 in
theorem ggL_law_X8_state : GoodIn wsL_law wsX8_state := goodIn_r _ [764, 15, 508, 765, 766, 263, 264, 265, 14, 266, 56, 510, 511, 512, 2, 513, 44, 19, 514, 515, 516, 18, 517, 65, 66, 64, 518, 519, 520, 521, 522, 523, 524, 63, 525, 70, 72, 73, 74, 75, 526, 77, 527, 528, 529, 530, 531, 532, 488, 489, 490, 54, 53, 491, 394, 395, 396, 290, 291, 533, 534, 535, 536, 537, 538, 539, 540, 78, 79, 80, 81, 541, 542, 543, 544, 545, 546, 547, 548, 549, 550, 71, 551, 552, 553, 554, 555, 556, 557, 558, 559, 560, 561, 562, 563, 564, 565, 566, 344, 345, 567, 568, 569, 570, 571, 572, 573, 574, 575, 576, 577, 578, 579, 580, 581, 582, 583, 584, 585, 586, 587, 588, 589, 590, 591, 592, 191, 192, 193, 1166, 1167, 1168, 1169, 1170, 1171, 1172, 1173, 1174, 1175, 1176, 1177, 1227, 1228, 1229, 1251, 1252, 1253, 1254, 1255, 1256, 1257, 1258, 1259, 1260, 1261, 1262, 1218, 1219, 1220, 1221, 1222, 1223, 1224, 1225, 1226] (by decide +kernel) (by decide +kernel)
set_option maxRecDepth 20000 in
theorem gL_law_X8_state : GoodIn wsL_law (wsV RL 70 RX8 yX8_state wsX8_state) := goodIn_app (goodIn_of _ (by decide +kernel)) ggL_law_X8_state
set_option maxRecDepth 20000 in
theorem ggL_law_X9_state : GoodIn wsL_law wsX9_state := goodIn_r _ [770, 271, 272, 273, 5, 274, 176, 216, 217, 218, 652, 653, 654, 655, 142, 143, 656, 144, 296, 297, 298, 657, 658, 659, 660, 661, 662, 663, 664, 177, 126, 128, 597, 598, 599, 600, 131, 127, 665, 666, 667, 668, 669, 670, 671, 672, 673, 674, 675, 676, 677, 678, 679, 680, 681, 682, 683, 684, 685, 686, 687, 129, 500, 501, 502, 503, 132, 130, 688, 689, 690, 691, 692, 693, 694, 695, 696, 697, 698, 699, 700, 701, 702, 703, 704, 705, 706, 707, 1178, 1179, 1180, 1181, 1182, 1183, 1184, 1185, 1186, 1187, 1188, 1189, 1190, 1191, 1192, 1193, 1194, 1195, 1196, 1197, 1198, 1199, 1200, 1201, 1202, 1203, 1204, 1205, 1206, 1207, 1208, 1209, 1210, 1211, 1212, 1213, 1214, 1215, 1216, 1217] (by decide +kernel) (by decide +kernel)
set_option maxRecDepth 20000 in
theorem gL_law_X9_state : GoodIn wsL_law (wsV RL 73 RX9 yX9_state wsX9_state) := goodIn_app (goodIn_of _ (by decide +kernel)) ggL_law_X9_state
set_option maxRecDepth 20000 in
theorem ggL_law_X8_sides : GoodIn wsL_law wsX8_sides := goodIn_r _ [774, 508, 185, 186, 2, 187, 188, 189, 190, 510, 511, 512, 513, 44, 19, 15, 514, 515, 516, 18, 517, 65, 66, 64, 518, 519, 520, 521, 522, 523, 524, 63, 525, 70, 72, 73, 74, 75, 526, 77, 527, 528, 529, 530, 531, 532, 488, 489, 14, 490, 54, 56, 53, 491, 394, 395, 396, 290, 291, 533, 534, 535, 536, 537, 538, 539, 540, 78, 79, 80, 81, 541, 542, 543, 544, 545, 546, 547, 548, 549, 550, 71, 551, 552, 553, 554, 555, 556, 557, 558, 559, 560, 561, 562, 563, 564, 565, 566, 344, 345, 567, 568, 569, 570, 571, 572, 573, 574, 575, 576, 577, 578, 579, 580, 581, 582, 583, 584, 585, 586, 587, 588, 589, 590, 591, 592, 775, 776, 1227, 1228, 1229, 1166, 1167, 1168, 1169, 1170, 1171, 1172, 1173, 1174, 1175, 1176, 1177, 1251, 1252, 1253, 1254, 1255, 1256, 1257, 1258, 1259, 1260, 1261, 1262, 1218, 1219, 1220, 1221, 1222, 1223, 1224, 1225, 1226] (by decide +kernel) (by decide +kernel)
set_option maxRecDepth 20000 in
theorem gL_law_X8_sides : GoodIn wsL_law (wsV RL 74 RX8 yX8_sides wsX8_sides) := goodIn_app (goodIn_of _ (by decide +kernel)) ggL_law_X8_sides
set_option maxRecDepth 20000 in
theorem ggL_law_X9_sides : GoodIn wsL_law wsX9_sides := goodIn_r _ [780, 213, 214, 5, 215, 216, 217, 218, 219, 220, 221, 652, 653, 654, 655, 142, 143, 656, 144, 296, 297, 298, 657, 658, 659, 660, 661, 662, 663, 664, 177, 176, 126, 128, 597, 598, 599, 600, 131, 127, 665, 666, 667, 668, 669, 670, 671, 672, 673, 674, 675, 676, 677, 678, 679, 680, 681, 682, 683, 684, 685, 686, 687, 129, 500, 501, 502, 503, 132, 130, 688, 689, 690, 691, 692, 693, 694, 695, 696, 697, 698, 699, 700, 701, 702, 703, 704, 705, 706, 707, 781, 782, 783, 784, 785, 786, 787, 788, 1178, 1179, 1180, 1181, 1182, 1183, 1184, 1185, 1186, 1187, 1188, 1189, 1190, 1191, 1192, 1193, 1194, 1195, 1196, 1197, 1198, 1199, 1200, 1201, 1202, 1203, 1204, 1205, 1206, 1207, 1208, 1209, 1210, 1211, 1212, 1213, 1214, 1215, 1216, 1217] (by decide +kernel) (by decide +kernel)
set_option maxRecDepth 20000 in
theorem gL_law_X9_sides : GoodIn wsL_law (wsV RL 77 RX9 yX9_sides wsX9_sides) := goodIn_app (goodIn_of _ (by decide +kernel)) ggL_law_X9_sides
set_option maxRecDepth 20000 in
theorem ggL_law_X8_proof : GoodIn wsL_law wsX8_proof := goodIn_r _ [792, 25, 15, 19, 793, 185, 186, 2, 187, 729, 730, 731, 510, 511, 512, 513, 44, 514, 515, 516, 18, 517, 65, 66, 64, 518, 519, 520, 521, 522, 523, 524, 63, 525, 70, 72, 73, 74, 75, 526, 77, 527, 528, 529, 530, 531, 532, 488, 489, 14, 490, 54, 56, 53, 491, 394, 395, 396, 290, 291, 533, 534, 535, 536, 537, 538, 539, 540, 78, 79, 80, 81, 541, 542, 543, 544, 545, 546, 547, 548, 549, 550, 71, 551, 552, 553, 554, 555, 556, 557, 558, 559, 560, 561, 562, 563, 564, 565, 566, 344, 345, 567, 568, 569, 570, 571, 572, 573, 574, 575, 576, 577, 578, 579, 580, 581, 582, 583, 584, 585, 586, 587, 588, 589, 590, 591, 592, 732, 733, 734, 735, 794, 795, 796, 24, 797, 87, 86, 89, 798, 799, 800, 801, 802, 803, 804, 805, 806, 807, 808, 809, 752, 810, 811, 812, 813, 814, 815, 749, 750, 751, 816, 817, 818, 819, 820, 821, 822, 823, 824, 825, 826, 827, 828, 829, 289, 830, 831, 832, 833, 834, 835, 836, 837, 838, 839, 840, 841, 842, 843, 844, 845, 846, 847, 848, 849, 850, 851, 852, 853, 854, 855, 856, 857, 858, 859, 860, 861, 862, 863, 864, 865, 866, 867, 868, 869, 870, 871, 88, 872, 873, 874, 875, 876, 877, 878, 879, 1166, 1167, 1168, 1169, 1170, 1171, 1172, 1173, 1174, 1175, 1176, 1177, 1230, 1231, 1232, 1233, 1227, 1228, 1229, 1251, 1252, 1253, 1254, 1255, 1256, 1257, 1258, 1259, 1260, 1261, 1262, 1218, 1219, 1220, 1221, 1222, 1223, 1224, 1225, 1226] (by decide +kernel) (by decide +kernel)
set_option maxRecDepth 20000 in
theorem gL_law_X8_proof : GoodIn wsL_law (wsV RL 78 RX8 yX8_proof wsX8_proof) := goodIn_app (goodIn_of _ (by decide +kernel)) ggL_law_X8_proof
set_option maxRecDepth 20000 in
theorem ggL_law_X9_proof : GoodIn wsL_law wsX9_proof := goodIn_r _ [883, 884, 146, 213, 214, 5, 215, 216, 217, 218, 740, 741, 742, 885, 886, 887, 888, 142, 145, 143, 652, 653, 654, 655, 656, 144, 296, 297, 298, 657, 658, 659, 660, 661, 662, 663, 664, 177, 176, 126, 128, 597, 598, 599, 600, 131, 127, 665, 666, 667, 668, 669, 670, 671, 672, 673, 674, 675, 676, 677, 678, 679, 680, 681, 682, 683, 684, 685, 686, 687, 129, 500, 501, 502, 503, 132, 130, 688, 689, 690, 691, 692, 693, 694, 695, 696, 697, 698, 699, 700, 701, 702, 703, 704, 705, 706, 707, 757, 758, 759, 760, 889, 890, 891, 892, 893, 894, 895, 896, 897, 898, 899, 900, 901, 902, 903, 904, 905, 629, 906, 907, 908, 909, 910, 911, 912, 913, 914, 915, 916, 917, 918, 919, 920, 921, 922, 923, 1178, 1179, 1180, 1181, 1182, 1183, 1184, 1185, 1186, 1187, 1188, 1189, 1190, 1191, 1192, 1193, 1194, 1195, 1196, 1197, 1198, 1199, 1200, 1201, 1202, 1203, 1204, 1205, 1206, 1207, 1208, 1209, 1210, 1211, 1212, 1213, 1214, 1215, 1216, 1217] (by decide +kernel) (by decide +kernel)
set_option maxRecDepth 20000 in
theorem gL_law_X9_proof : GoodIn wsL_law (wsV RL 81 RX9 yX9_proof wsX9_proof) := goodIn_app (goodIn_of _ (by decide +kernel)) ggL_law_X9_proof
set_option maxRecDepth 20000 in
theorem ggL_law_X8_prints : GoodIn wsL_law wsX8_prints := goodIn_r _ [927, 38, 15, 608, 25, 19, 928, 929, 930, 37, 931, 115, 932, 933, 934, 935, 936, 937, 938, 939, 940, 941, 942, 290, 2, 291, 943, 944, 945, 946, 114, 947, 948, 949, 950, 344, 345, 185, 186, 187, 729, 730, 731, 510, 511, 512, 513, 44, 514, 515, 516, 18, 517, 65, 66, 64, 518, 519, 520, 521, 522, 523, 524, 63, 525, 70, 72, 73, 74, 75, 526, 77, 527, 528, 529, 530, 531, 532, 488, 489, 14, 490, 54, 56, 53, 491, 394, 395, 396, 533, 534, 535, 536, 537, 538, 539, 540, 78, 79, 80, 81, 541, 542, 543, 544, 545, 546, 547, 548, 549, 550, 71, 551, 552, 553, 554, 555, 556, 557, 558, 559, 560, 561, 562, 563, 564, 565, 566, 567, 568, 569, 570, 571, 572, 573, 574, 575, 576, 577, 578, 579, 580, 581, 582, 583, 584, 585, 586, 587, 588, 589, 590, 591, 592, 732, 733, 734, 735, 794, 795, 796, 24, 797, 87, 86, 89, 798, 799, 800, 801, 802, 803, 804, 805, 806, 807, 808, 809, 752, 810, 811, 812, 813, 814, 815, 749, 750, 751, 816, 817, 818, 819, 820, 821, 822, 823, 824, 825, 826, 827, 828, 829, 289, 830, 831, 832, 833, 834, 835, 836, 837, 838, 839, 840, 841, 842, 843, 844, 845, 846, 847, 848, 849, 850, 851, 852, 853, 854, 855, 856, 857, 858, 859, 860, 861, 862, 863, 864, 865, 866, 867, 868, 869, 870, 871, 88, 951, 952, 953, 954, 955, 956, 957, 873, 874, 875, 958, 877, 878, 879, 1166, 1167, 1168, 1169, 1170, 1171, 1172, 1173, 1174, 1175, 1176, 1177, 1247, 1248, 1218, 1219, 1220, 1221, 1222, 1223, 1224, 1225, 1226, 1227, 1228, 1229, 1251, 1252, 1253, 1254, 1255, 1256, 1257, 1258, 1259, 1260, 1261, 1262, 1230, 1231, 1232, 1233] (by decide +kernel) (by decide +kernel)
set_option maxRecDepth 20000 in
theorem gL_law_X8_prints : GoodIn wsL_law (wsV RL 82 RX8 yX8_prints wsX8_prints) := goodIn_app (goodIn_of _ (by decide +kernel)) ggL_law_X8_prints
set_option maxRecDepth 20000 in
theorem ggL_law_X9_prints : GoodIn wsL_law wsX9_prints := goodIn_r _ [962, 643, 176, 884, 146, 213, 214, 5, 215, 216, 217, 218, 740, 741, 742, 885, 886, 887, 888, 142, 145, 143, 652, 653, 654, 655, 656, 144, 296, 297, 298, 657, 658, 659, 660, 661, 662, 663, 664, 177, 126, 128, 597, 598, 599, 600, 131, 127, 665, 666, 667, 668, 669, 670, 671, 672, 673, 674, 675, 676, 677, 678, 679, 680, 681, 682, 683, 684, 685, 686, 687, 129, 500, 501, 502, 503, 132, 130, 688, 689, 690, 691, 692, 693, 694, 695, 696, 697, 698, 699, 700, 701, 702, 703, 704, 705, 706, 707, 757, 758, 759, 760, 889, 890, 891, 892, 893, 894, 895, 896, 897, 898, 899, 900, 901, 902, 903, 904, 905, 629, 906, 907, 908, 909, 910, 911, 912, 913, 914, 915, 916, 917, 918, 919, 920, 921, 922, 923, 963, 964, 965, 966, 967, 968, 969, 970, 971, 972, 973, 974, 135, 975, 976, 977, 978, 979, 980, 981, 982, 1178, 1179, 1180, 1181, 1182, 1183, 1184, 1185, 1186, 1187, 1188, 1189, 1190, 1191, 1192, 1193, 1194, 1195, 1196, 1197, 1198, 1199, 1200, 1201, 1202, 1203, 1204, 1205, 1206, 1207, 1208, 1209, 1210, 1211, 1212, 1213, 1214, 1215, 1216, 1217] (by decide +kernel) (by decide +kernel)
set_option maxRecDepth 20000 in
theorem gL_law_X9_prints : GoodIn wsL_law (wsV RL 85 RX9 yX9_prints wsX9_prints) := goodIn_app (goodIn_of _ (by decide +kernel)) ggL_law_X9_prints
set_option maxRecDepth 20000 in
theorem ggL_law_X8_paper : GoodIn wsL_law wsX8_paper := goodIn_r _ [986, 38, 608, 987, 1166, 1167, 1168, 1169, 1170, 1171, 1172, 1173, 1174, 1175, 1176, 1177, 1247, 1248] (by decide +kernel) (by decide +kernel)
set_option maxRecDepth 20000 in
theorem gL_law_X8_paper : GoodIn wsL_law (wsV RL 86 RX8 yX8_paper wsX8_paper) := goodIn_app (goodIn_of _ (by decide +kernel)) ggL_law_X8_paper
set_option maxRecDepth 20000 in
theorem ggL_law_X9_paper : GoodIn wsL_law wsX9_paper := goodIn_r _ [991, 643, 135, 1178, 1179, 1180, 1181, 1182, 1183, 1184, 1185, 1186, 1187, 1188, 1189, 1190, 1191, 1192, 1193, 1194, 1195, 1196, 1197, 1198, 1199, 1200, 1201, 1202, 1203, 1204, 1205, 1206, 1207, 1208, 1209, 1210, 1211, 1212, 1213, 1214, 1215, 1216, 1217] (by decide +kernel) (by decide +kernel)
set_option maxRecDepth 20000 in
theorem gL_law_X9_paper : GoodIn wsL_law (wsV RL 89 RX9 yX9_paper wsX9_paper) := goodIn_app (goodIn_of _ (by decide +kernel)) ggL_law_X9_paper
set_option maxRecDepth 20000 in
theorem ggL_law_X8_would : GoodIn wsL_law wsX8_would := goodIn_r _ [995, 20, 15, 184, 21, 185, 186, 2, 187, 188, 189, 190, 377, 165, 166, 14, 167, 49, 168, 169, 170, 171, 50, 51, 52, 53, 54, 55, 56, 57, 194, 195, 196, 514, 515, 516, 18, 517, 65, 66, 64, 518, 519, 520, 521, 522, 523, 524, 63, 525, 70, 72, 73, 74, 75, 526, 77, 527, 528, 529, 530, 531, 532, 488, 489, 490, 491, 394, 395, 396, 290, 291, 533, 534, 535, 536, 537, 538, 539, 540, 78, 79, 80, 81, 541, 542, 543, 544, 545, 546, 547, 548, 549, 550, 71, 551, 552, 553, 554, 555, 556, 557, 558, 559, 560, 561, 562, 563, 564, 565, 566, 344, 345, 567, 568, 569, 570, 571, 572, 573, 574, 575, 576, 577, 578, 579, 580, 581, 582, 583, 584, 585, 586, 587, 588, 589, 590, 591, 592, 996, 997, 998, 999, 752, 733, 734, 735, 1166, 1167, 1168, 1169, 1170, 1171, 1172, 1173, 1174, 1175, 1176, 1177, 1218, 1219, 1220, 1221, 1222, 1223, 1224, 1225, 1226, 1227, 1228, 1229, 1251, 1252, 1253, 1254, 1255, 1256, 1257, 1258, 1259, 1260, 1261, 1262] (by decide +kernel) (by decide +kernel)
set_option maxRecDepth 20000 in
theorem gL_law_X8_would : GoodIn wsL_law (wsV RL 90 RX8 yX8_would wsX8_would) := goodIn_app (goodIn_of _ (by decide +kernel)) ggL_law_X8_would
set_option maxRecDepth 20000 in
theorem ggL_law_X9_would : GoodIn wsL_law wsX9_would := goodIn_r _ [1003, 177, 143, 213, 214, 5, 215, 216, 217, 218, 219, 220, 221, 1004, 1005, 1006, 652, 653, 654, 655, 142, 656, 144, 296, 297, 298, 657, 658, 659, 660, 661, 662, 663, 664, 176, 126, 128, 597, 598, 599, 600, 131, 127, 665, 666, 667, 668, 669, 670, 671, 672, 673, 674, 675, 676, 677, 678, 679, 680, 681, 682, 683, 684, 685, 686, 687, 129, 500, 501, 502, 503, 132, 130, 688, 689, 690, 691, 692, 693, 694, 695, 696, 697, 698, 699, 700, 701, 702, 703, 704, 705, 706, 707, 1178, 1179, 1180, 1181, 1182, 1183, 1184, 1185, 1186, 1187, 1188, 1189, 1190, 1191, 1192, 1193, 1194, 1195, 1196, 1197, 1198, 1199, 1200, 1201, 1202, 1203, 1204, 1205, 1206, 1207, 1208, 1209, 1210, 1211, 1212, 1213, 1214, 1215, 1216, 1217] (by decide +kernel) (by decide +kernel)
set_option maxRecDepth 20000 in
theorem gL_law_X9_would : GoodIn wsL_law (wsV RL 93 RX9 yX9_would wsX9_would) := goodIn_app (goodIn_of _ (by decide +kernel)) ggL_law_X9_would
set_option maxRecDepth 20000 in
theorem ggL_law_X8_key : GoodIn wsL_law wsX8_key := goodIn_r _ [1010, 20, 15, 184, 185, 186, 2, 187, 510, 511, 512, 513, 44, 19, 514, 515, 516, 18, 517, 65, 66, 64, 518, 519, 520, 521, 522, 523, 524, 63, 525, 70, 72, 73, 74, 75, 526, 77, 527, 528, 529, 530, 531, 532, 488, 489, 14, 490, 54, 56, 53, 491, 394, 395, 396, 290, 291, 533, 534, 535, 536, 537, 538, 539, 540, 78, 79, 80, 81, 541, 542, 543, 544, 545, 546, 547, 548, 549, 550, 71, 551, 552, 553, 554, 555, 556, 557, 558, 559, 560, 561, 562, 563, 564, 565, 566, 344, 345, 567, 568, 569, 570, 571, 572, 573, 574, 575, 576, 577, 578, 579, 580, 581, 582, 583, 584, 585, 586, 587, 588, 589, 590, 591, 592, 732, 733, 734, 735, 377, 165, 166, 167, 49, 168, 169, 170, 171, 50, 51, 52, 55, 57, 194, 195, 196, 289, 1011, 1012, 1013, 1014, 21, 1166, 1167, 1168, 1169, 1170, 1171, 1172, 1173, 1174, 1175, 1176, 1177, 1218, 1219, 1220, 1221, 1222, 1223, 1224, 1225, 1226, 1227, 1228, 1229, 1251, 1252, 1253, 1254, 1255, 1256, 1257, 1258, 1259, 1260, 1261, 1262] (by decide +kernel) (by decide +kernel)
set_option maxRecDepth 20000 in
theorem gL_law_X8_key : GoodIn wsL_law (wsV RL 94 RX8 yX8_key wsX8_key) := goodIn_app (goodIn_of _ (by decide +kernel)) ggL_law_X8_key
set_option maxRecDepth 20000 in
theorem ggL_law_X9_key : GoodIn wsL_law wsX9_key := goodIn_r _ [1018, 177, 213, 214, 5, 215, 216, 217, 218, 1019, 1020, 1021, 1022, 143, 652, 653, 654, 655, 142, 656, 144, 296, 297, 298, 657, 658, 659, 660, 661, 662, 663, 664, 176, 126, 128, 597, 598, 599, 600, 131, 127, 665, 666, 667, 668, 669, 670, 671, 672, 673, 674, 675, 676, 677, 678, 679, 680, 681, 682, 683, 684, 685, 686, 687, 129, 500, 501, 502, 503, 132, 130, 688, 689, 690, 691, 692, 693, 694, 695, 696, 697, 698, 699, 700, 701, 702, 703, 704, 705, 706, 707, 1004, 1005, 1006, 1178, 1179, 1180, 1181, 1182, 1183, 1184, 1185, 1186, 1187, 1188, 1189, 1190, 1191, 1192, 1193, 1194, 1195, 1196, 1197, 1198, 1199, 1200, 1201, 1202, 1203, 1204, 1205, 1206, 1207, 1208, 1209, 1210, 1211, 1212, 1213, 1214, 1215, 1216, 1217] (by decide +kernel) (by decide +kernel)
set_option maxRecDepth 20000 in
theorem gL_law_X9_key : GoodIn wsL_law (wsV RL 97 RX9 yX9_key wsX9_key) := goodIn_app (goodIn_of _ (by decide +kernel)) ggL_law_X9_key
set_option maxRecDepth 20000 in
theorem ggL_law_X8_hinges : GoodIn wsL_law wsX8_hinges := goodIn_r _ [1026, 20, 15, 151, 262, 185, 186, 2, 187, 729, 730, 731, 510, 511, 512, 513, 44, 19, 514, 515, 516, 18, 517, 65, 66, 64, 518, 519, 520, 521, 522, 523, 524, 63, 525, 70, 72, 73, 74, 75, 526, 77, 527, 528, 529, 530, 531, 532, 488, 489, 14, 490, 54, 56, 53, 491, 394, 395, 396, 290, 291, 533, 534, 535, 536, 537, 538, 539, 540, 78, 79, 80, 81, 541, 542, 543, 544, 545, 546, 547, 548, 549, 550, 71, 551, 552, 553, 554, 555, 556, 557, 558, 559, 560, 561, 562, 563, 564, 565, 566, 344, 345, 567, 568, 569, 570, 571, 572, 573, 574, 575, 576, 577, 578, 579, 580, 581, 582, 583, 584, 585, 586, 587, 588, 589, 590, 591, 592, 732, 733, 734, 735, 377, 165, 166, 167, 49, 168, 169, 170, 171, 50, 51, 52, 55, 57, 194, 195, 196, 289, 1011, 1012, 1013, 1014, 21, 1166, 1167, 1168, 1169, 1170, 1171, 1172, 1173, 1174, 1175, 1176, 1177, 1218, 1219, 1220, 1221, 1222, 1223, 1224, 1225, 1226, 1227, 1228, 1229, 1251, 1252, 1253, 1254, 1255, 1256, 1257, 1258, 1259, 1260, 1261, 1262] (by decide +kernel) (by decide +kernel)
set_option maxRecDepth 20000 in
theorem gL_law_X8_hinges : GoodIn wsL_law (wsV RL 98 RX8 yX8_hinges wsX8_hinges) := goodIn_app (goodIn_of _ (by decide +kernel)) ggL_law_X8_hinges
set_option maxRecDepth 20000 in
theorem ggL_law_X9_hinges : GoodIn wsL_law wsX9_hinges := goodIn_r _ [1030, 176, 131, 213, 214, 5, 215, 216, 217, 218, 740, 741, 742, 1019, 1020, 1021, 1022, 143, 652, 653, 654, 655, 142, 656, 144, 296, 297, 298, 657, 658, 659, 660, 661, 662, 663, 664, 177, 126, 128, 597, 598, 599, 600, 127, 665, 666, 667, 668, 669, 670, 671, 672, 673, 674, 675, 676, 677, 678, 679, 680, 681, 682, 683, 684, 685, 686, 687, 129, 500, 501, 502, 503, 132, 130, 688, 689, 690, 691, 692, 693, 694, 695, 696, 697, 698, 699, 700, 701, 702, 703, 704, 705, 706, 707, 1178, 1179, 1180, 1181, 1182, 1183, 1184, 1185, 1186, 1187, 1188, 1189, 1190, 1191, 1192, 1193, 1194, 1195, 1196, 1197, 1198, 1199, 1200, 1201, 1202, 1203, 1204, 1205, 1206, 1207, 1208, 1209, 1210, 1211, 1212, 1213, 1214, 1215, 1216, 1217] (by decide +kernel) (by decide +kernel)
set_option maxRecDepth 20000 in
theorem gL_law_X9_hinges : GoodIn wsL_law (wsV RL 101 RX9 yX9_hinges wsX9_hinges) := goodIn_app (goodIn_of _ (by decide +kernel)) ggL_law_X9_hinges
set_option maxRecDepth 20000 in
theorem ggL_law_X8_least : GoodIn wsL_law wsX8_least := goodIn_r _ [1034, 15, 20, 279, 263, 264, 265, 14, 266, 56, 185, 186, 2, 187, 377, 165, 166, 167, 49, 168, 169, 170, 171, 50, 51, 52, 53, 54, 55, 57, 1011, 1012, 1013, 1014, 21, 514, 515, 516, 18, 517, 65, 66, 64, 518, 519, 520, 521, 522, 523, 524, 63, 525, 70, 72, 73, 74, 75, 526, 77, 527, 528, 529, 530, 531, 532, 488, 489, 490, 491, 394, 395, 396, 290, 291, 533, 534, 535, 536, 537, 538, 539, 540, 78, 79, 80, 81, 541, 542, 543, 544, 545, 546, 547, 548, 549, 550, 71, 551, 552, 553, 554, 555, 556, 557, 558, 559, 560, 561, 562, 563, 564, 565, 566, 344, 345, 567, 568, 569, 570, 571, 572, 573, 574, 575, 576, 577, 578, 579, 580, 581, 582, 583, 584, 585, 586, 587, 588, 589, 590, 591, 592, 732, 733, 734, 735, 1166, 1167, 1168, 1169, 1170, 1171, 1172, 1173, 1174, 1175, 1176, 1177, 1218, 1219, 1220, 1221, 1222, 1223, 1224, 1225, 1226, 1227, 1228, 1229, 1251, 1252, 1253, 1254, 1255, 1256, 1257, 1258, 1259, 1260, 1261, 1262] (by decide +kernel) (by decide +kernel)
set_option maxRecDepth 20000 in
theorem gL_law_X8_least : GoodIn wsL_law (wsV RL 102 RX8 yX8_least wsX8_least) := goodIn_app (goodIn_of _ (by decide +kernel)) ggL_law_X8_least
set_option maxRecDepth 20000 in
theorem ggL_law_X9_least : GoodIn wsL_law wsX9_least := goodIn_r _ [1038, 130, 271, 272, 273, 5, 274, 176, 216, 217, 218, 213, 214, 215, 1019, 1020, 1021, 1022, 143, 652, 653, 654, 655, 142, 656, 144, 296, 297, 298, 657, 658, 659, 660, 661, 662, 663, 664, 177, 126, 128, 597, 598, 599, 600, 131, 127, 665, 666, 667, 668, 669, 670, 671, 672, 673, 674, 675, 676, 677, 678, 679, 680, 681, 682, 683, 684, 685, 686, 687, 129, 500, 501, 502, 503, 132, 688, 689, 690, 691, 692, 693, 694, 695, 696, 697, 698, 699, 700, 701, 702, 703, 704, 705, 706, 707, 1178, 1179, 1180, 1181, 1182, 1183, 1184, 1185, 1186, 1187, 1188, 1189, 1190, 1191, 1192, 1193, 1194, 1195, 1196, 1197, 1198, 1199, 1200, 1201, 1202, 1203, 1204, 1205, 1206, 1207, 1208, 1209, 1210, 1211, 1212, 1213, 1214, 1215, 1216, 1217] (by decide +kernel) (by decide +kernel)
set_option maxRecDepth 20000 in
theorem gL_law_X9_least : GoodIn wsL_law (wsV RL 105 RX9 yX9_least wsX9_least) := goodIn_app (goodIn_of _ (by decide +kernel)) ggL_law_X9_least
set_option maxRecDepth 20000 in
theorem ggL_law_X8_lots : GoodIn wsL_law wsX8_lots := goodIn_r _ [1042, 20, 15, 184, 185, 186, 2, 187, 729, 730, 731, 377, 165, 166, 14, 167, 49, 168, 169, 170, 171, 50, 51, 52, 53, 54, 55, 56, 57, 1043, 1044, 1045, 1046, 1047, 1048, 1049, 1050, 1051, 1052, 1053, 1054, 1055, 344, 345, 1011, 1012, 1013, 1014, 21, 514, 515, 516, 18, 517, 65, 66, 64, 518, 519, 520, 521, 522, 523, 524, 63, 525, 70, 72, 73, 74, 75, 526, 77, 527, 528, 529, 530, 531, 532, 488, 489, 490, 491, 394, 395, 396, 290, 291, 533, 534, 535, 536, 537, 538, 539, 540, 78, 79, 80, 81, 541, 542, 543, 544, 545, 546, 547, 548, 549, 550, 71, 551, 552, 553, 554, 555, 556, 557, 558, 559, 560, 561, 562, 563, 564, 565, 566, 567, 568, 569, 570, 571, 572, 573, 574, 575, 576, 577, 578, 579, 580, 581, 582, 583, 584, 585, 586, 587, 588, 589, 590, 591, 592, 732, 733, 734, 735, 1166, 1167, 1168, 1169, 1170, 1171, 1172, 1173, 1174, 1175, 1176, 1177, 1218, 1219, 1220, 1221, 1222, 1223, 1224, 1225, 1226, 1227, 1228, 1229, 1251, 1252, 1253, 1254, 1255, 1256, 1257, 1258, 1259, 1260, 1261, 1262] (by decide +kernel) (by decide +kernel)
set_option maxRecDepth 20000 in
theorem gL_law_X8_lots : GoodIn wsL_law (wsV RL 106 RX8 yX8_lots wsX8_lots) := goodIn_app (goodIn_of _ (by decide +kernel)) ggL_law_X8_lots
set_option maxRecDepth 20000 in
theorem ggL_law_X9_lots : GoodIn wsL_law wsX9_lots := goodIn_r _ [1059, 177, 1060, 1061, 1062, 213, 214, 5, 215, 216, 217, 218, 740, 741, 742, 1019, 1020, 1021, 1022, 143, 652, 653, 654, 655, 142, 656, 144, 296, 297, 298, 657, 658, 659, 660, 661, 662, 663, 664, 176, 126, 128, 597, 598, 599, 600, 131, 127, 665, 666, 667, 668, 669, 670, 671, 672, 673, 674, 675, 676, 677, 678, 679, 680, 681, 682, 683, 684, 685, 686, 687, 129, 500, 501, 502, 503, 132, 130, 688, 689, 690, 691, 692, 693, 694, 695, 696, 697, 698, 699, 700, 701, 702, 703, 704, 705, 706, 707, 1178, 1179, 1180, 1181, 1182, 1183, 1184, 1185, 1186, 1187, 1188, 1189, 1190, 1191, 1192, 1193, 1194, 1195, 1196, 1197, 1198, 1199, 1200, 1201, 1202, 1203, 1204, 1205, 1206, 1207, 1208, 1209, 1210, 1211, 1212, 1213, 1214, 1215, 1216, 1217] (by decide +kernel) (by decide +kernel)
set_option maxRecDepth 20000 in
theorem gL_law_X9_lots : GoodIn wsL_law (wsV RL 110 RX9 yX9_lots wsX9_lots) := goodIn_app (goodIn_of _ (by decide +kernel)) ggL_law_X9_lots
set_option maxRecDepth 20000 in
theorem ggL_law_X8_judge : GoodIn wsL_law wsX8_judge := goodIn_r _ [1066, 42, 1067, 1068, 1069, 2, 1070, 729, 730, 731, 1071, 1072, 1073, 41, 1074, 121, 1075, 1076, 1077, 1078, 120, 510, 511, 512, 513, 44, 19, 15, 514, 515, 516, 18, 517, 65, 66, 64, 518, 519, 520, 521, 522, 523, 524, 63, 525, 70, 72, 73, 74, 75, 526, 77, 527, 528, 529, 530, 531, 532, 488, 489, 14, 490, 54, 56, 53, 491, 394, 395, 396, 290, 291, 533, 534, 535, 536, 537, 538, 539, 540, 78, 79, 80, 81, 541, 542, 543, 544, 545, 546, 547, 548, 549, 550, 71, 551, 552, 553, 554, 555, 556, 557, 558, 559, 560, 561, 562, 563, 564, 565, 566, 344, 345, 567, 568, 569, 570, 571, 572, 573, 574, 575, 576, 577, 578, 579, 580, 581, 582, 583, 584, 585, 586, 587, 588, 589, 590, 591, 592, 732, 733, 734, 735, 1166, 1167, 1168, 1169, 1170, 1171, 1172, 1173, 1174, 1175, 1176, 1177, 1249, 1250, 1227, 1228, 1229, 1251, 1252, 1253, 1254, 1255, 1256, 1257, 1258, 1259, 1260, 1261, 1262, 1218, 1219, 1220, 1221, 1222, 1223, 1224, 1225, 1226] (by decide +kernel) (by decide +kernel)
set_option maxRecDepth 20000 in
theorem gL_law_X8_judge : GoodIn wsL_law (wsV RL 111 RX8 yX8_judge wsX8_judge) := goodIn_app (goodIn_of _ (by decide +kernel)) ggL_law_X8_judge
set_option maxRecDepth 20000 in
theorem ggL_law_X9_judge : GoodIn wsL_law wsX9_judge := goodIn_r _ [1082, 136, 137, 142, 1083, 1084, 5, 1085, 216, 217, 218, 740, 741, 742, 652, 653, 654, 655, 143, 656, 144, 296, 297, 298, 657, 658, 659, 660, 661, 662, 663, 664, 177, 176, 126, 128, 597, 598, 599, 600, 131, 127, 665, 666, 667, 668, 669, 670, 671, 672, 673, 674, 675, 676, 677, 678, 679, 680, 681, 682, 683, 684, 685, 686, 687, 129, 500, 501, 502, 503, 132, 130, 688, 689, 690, 691, 692, 693, 694, 695, 696, 697, 698, 699, 700, 701, 702, 703, 704, 705, 706, 707, 1178, 1179, 1180, 1181, 1182, 1183, 1184, 1185, 1186, 1187, 1188, 1189, 1190, 1191, 1192, 1193, 1194, 1195, 1196, 1197, 1198, 1199, 1200, 1201, 1202, 1203, 1204, 1205, 1206, 1207, 1208, 1209, 1210, 1211, 1212, 1213, 1214, 1215, 1216, 1217] (by decide +kernel) (by decide +kernel)
set_option maxRecDepth 20000 in
theorem gL_law_X9_judge : GoodIn wsL_law (wsV RL 114 RX9 yX9_judge wsX9_judge) := goodIn_app (goodIn_of _ (by decide +kernel)) ggL_law_X9_judge
set_option maxRecDepth 20000 in
theorem ggL_law_X8_list : GoodIn wsL_law wsX8_list := goodIn_r _ [1089, 42, 1068, 1069, 2, 1070, 1090, 1091, 1092, 41, 1093, 120, 121, 1094, 519, 520, 521, 1166, 1167, 1168, 1169, 1170, 1171, 1172, 1173, 1174, 1175, 1176, 1177, 1249, 1250] (by decide +kernel) (by decide +kernel)
set_option maxRecDepth 20000 in
theorem gL_law_X8_list : GoodIn wsL_law (wsV RL 115 RX8 yX8_list wsX8_list) := goodIn_app (goodIn_of _ (by decide +kernel)) ggL_law_X8_list
set_option maxRecDepth 20000 in
theorem ggL_law_X9_list : GoodIn wsL_law wsX9_list := goodIn_r _ [1098, 136, 137, 1083, 1084, 5, 1085, 216, 217, 218, 1178, 1179, 1180, 1181, 1182, 1183, 1184, 1185, 1186, 1187, 1188, 1189, 1190, 1191, 1192, 1193, 1194, 1195, 1196, 1197, 1198, 1199, 1200, 1201, 1202, 1203, 1204, 1205, 1206, 1207, 1208, 1209, 1210, 1211, 1212, 1213, 1214, 1215, 1216, 1217] (by decide +kernel) (by decide +kernel)
set_option maxRecDepth 20000 in
theorem gL_law_X9_list : GoodIn wsL_law (wsV RL 118 RX9 yX9_list wsX9_list) := goodIn_app (goodIn_of _ (by decide +kernel)) ggL_law_X9_list
set_option maxRecDepth 20000 in
theorem ggL_law_X8_set : GoodIn wsL_law wsX8_set := goodIn_r _ [1102, 42, 1068, 1069, 2, 1070, 1071, 1072, 1073, 41, 1074, 121, 1103, 1104, 1105, 1106, 1107, 1108, 1109, 1110, 120, 1166, 1167, 1168, 1169, 1170, 1171, 1172, 1173, 1174, 1175, 1176, 1177, 1249, 1250] (by decide +kernel) (by decide +kernel)
set_option maxRecDepth 20000 in
theorem gL_law_X8_set : GoodIn wsL_law (wsV RL 119 RX8 yX8_set wsX8_set) := goodIn_app (goodIn_of _ (by decide +kernel)) ggL_law_X8_set
set_option maxRecDepth 20000 in
theorem ggL_law_X9_set : GoodIn wsL_law wsX9_set := goodIn_r _ [1114, 136, 137, 1083, 1084, 5, 1085, 216, 217, 218, 1178, 1179, 1180, 1181, 1182, 1183, 1184, 1185, 1186, 1187, 1188, 1189, 1190, 1191, 1192, 1193, 1194, 1195, 1196, 1197, 1198, 1199, 1200, 1201, 1202, 1203, 1204, 1205, 1206, 1207, 1208, 1209, 1210, 1211, 1212, 1213, 1214, 1215, 1216, 1217] (by decide +kernel) (by decide +kernel)
set_option maxRecDepth 20000 in
theorem gL_law_X9_set : GoodIn wsL_law (wsV RL 122 RX9 yX9_set wsX9_set) := goodIn_app (goodIn_of _ (by decide +kernel)) ggL_law_X9_set
set_option maxRecDepth 20000 in
theorem ggL_law_X8_get : GoodIn wsL_law wsX8_get := goodIn_r _ [1118, 42, 1119, 1068, 1069, 2, 1070, 1071, 1072, 1073, 41, 1074, 121, 1103, 1104, 1105, 1106, 1075, 1076, 1077, 1078, 120, 1166, 1167, 1168, 1169, 1170, 1171, 1172, 1173, 1174, 1175, 1176, 1177, 1249, 1250] (by decide +kernel) (by decide +kernel)
set_option maxRecDepth 20000 in
theorem gL_law_X8_get : GoodIn wsL_law (wsV RL 123 RX8 yX8_get wsX8_get) := goodIn_app (goodIn_of _ (by decide +kernel)) ggL_law_X8_get
set_option maxRecDepth 20000 in
theorem ggL_law_X9_get : GoodIn wsL_law wsX9_get := goodIn_r _ [1123, 136, 137, 1124, 1083, 1084, 5, 1085, 216, 217, 218, 1178, 1179, 1180, 1181, 1182, 1183, 1184, 1185, 1186, 1187, 1188, 1189, 1190, 1191, 1192, 1193, 1194, 1195, 1196, 1197, 1198, 1199, 1200, 1201, 1202, 1203, 1204, 1205, 1206, 1207, 1208, 1209, 1210, 1211, 1212, 1213, 1214, 1215, 1216, 1217] (by decide +kernel) (by decide +kernel)
set_option maxRecDepth 20000 in
theorem gL_law_X9_get : GoodIn wsL_law (wsV RL 127 RX9 yX9_get wsX9_get) := goodIn_app (goodIn_of _ (by decide +kernel)) ggL_law_X9_get
set_option maxRecDepth 20000 in
theorem ggL_law_X8_undo : GoodIn wsL_law wsX8_undo := goodIn_r _ [1128, 29, 15, 44, 606, 1129, 1130, 1131, 28, 1132, 96, 97, 95, 164, 165, 166, 14, 167, 49, 168, 169, 170, 171, 50, 51, 52, 53, 54, 55, 56, 57, 1166, 1167, 1168, 1169, 1170, 1171, 1172, 1173, 1174, 1175, 1176, 1177, 1234, 1235, 1236, 1218, 1219, 1220, 1221, 1222, 1223, 1224, 1225, 1226] (by decide +kernel) (by decide +kernel)
set_option maxRecDepth 20000 in
theorem gL_law_X8_undo : GoodIn wsL_law (wsV RL 128 RX8 yX8_undo wsX8_undo) := goodIn_app (goodIn_of _ (by decide +kernel)) ggL_law_X8_undo
set_option maxRecDepth 20000 in
theorem ggL_law_X9_undo : GoodIn wsL_law wsX9_undo := goodIn_r _ [1136, 178, 179, 133, 226, 227, 228, 5, 229, 177, 176, 131, 130, 132, 1178, 1179, 1180, 1181, 1182, 1183, 1184, 1185, 1186, 1187, 1188, 1189, 1190, 1191, 1192, 1193, 1194, 1195, 1196, 1197, 1198, 1199, 1200, 1201, 1202, 1203, 1204, 1205, 1206, 1207, 1208, 1209, 1210, 1211, 1212, 1213, 1214, 1215, 1216, 1217] (by decide +kernel) (by decide +kernel)
set_option maxRecDepth 20000 in
theorem gL_law_X9_undo : GoodIn wsL_law (wsV RL 131 RX9 yX9_undo wsX9_undo) := goodIn_app (goodIn_of _ (by decide +kernel)) ggL_law_X9_undo
set_option maxRecDepth 20000 in
theorem ggL_law_X8_redo : GoodIn wsL_law wsX8_redo := goodIn_r _ [1140, 29, 15, 44, 607, 1141, 1142, 1143, 28, 1144, 97, 96, 95, 164, 165, 166, 14, 167, 49, 168, 169, 170, 171, 50, 51, 52, 53, 54, 55, 56, 57, 1166, 1167, 1168, 1169, 1170, 1171, 1172, 1173, 1174, 1175, 1176, 1177, 1234, 1235, 1236, 1218, 1219, 1220, 1221, 1222, 1223, 1224, 1225, 1226] (by decide +kernel) (by decide +kernel)
set_option maxRecDepth 20000 in
theorem gL_law_X8_redo : GoodIn wsL_law (wsV RL 132 RX8 yX8_redo wsX8_redo) := goodIn_app (goodIn_of _ (by decide +kernel)) ggL_law_X8_redo
set_option maxRecDepth 20000 in
theorem ggL_law_X9_redo : GoodIn wsL_law wsX9_redo := goodIn_r _ [1148, 179, 178, 133, 226, 227, 228, 5, 229, 177, 176, 131, 130, 132, 1178, 1179, 1180, 1181, 1182, 1183, 1184, 1185, 1186, 1187, 1188, 1189, 1190, 1191, 1192, 1193, 1194, 1195, 1196, 1197, 1198, 1199, 1200, 1201, 1202, 1203, 1204, 1205, 1206, 1207, 1208, 1209, 1210, 1211, 1212, 1213, 1214, 1215, 1216, 1217] (by decide +kernel) (by decide +kernel)
set_option maxRecDepth 20000 in
theorem gL_law_X9_redo : GoodIn wsL_law (wsV RL 135 RX9 yX9_redo wsX9_redo) := goodIn_app (goodIn_of _ (by decide +kernel)) ggL_law_X9_redo
set_option maxRecDepth 20000 in
theorem ggL_law_X8_image : GoodIn wsL_law wsX8_image := goodIn_r _ [1152, 30, 15, 43, 151, 377, 165, 166, 14, 167, 49, 168, 169, 170, 171, 50, 51, 52, 53, 54, 55, 56, 57, 1166, 1167, 1168, 1169, 1170, 1171, 1172, 1173, 1174, 1175, 1176, 1177, 1218, 1219, 1220, 1221, 1222, 1223, 1224, 1225, 1226] (by decide +kernel) (by decide +kernel)
set_option maxRecDepth 20000 in
theorem gL_law_X8_image : GoodIn wsL_law (wsV RL 136 RX8 yX8_image wsX8_image) := goodIn_app (goodIn_of _ (by decide +kernel)) ggL_law_X8_image
set_option maxRecDepth 20000 in
theorem ggL_law_X9_image : GoodIn wsL_law wsX9_image := goodIn_r _ [1156, 1157, 138, 176, 464, 465, 466, 5, 467, 126, 127, 128, 129, 130, 131, 132, 177, 1178, 1179, 1180, 1181, 1182, 1183, 1184, 1185, 1186, 1187, 1188, 1189, 1190, 1191, 1192, 1193, 1194, 1195, 1196, 1197, 1198, 1199, 1200, 1201, 1202, 1203, 1204, 1205, 1206, 1207, 1208, 1209, 1210, 1211, 1212, 1213, 1214, 1215, 1216, 1217] (by decide +kernel) (by decide +kernel)
set_option maxRecDepth 20000 in
theorem gL_law_X9_image : GoodIn wsL_law (wsV RL 139 RX9 yX9_image wsX9_image) := goodIn_app (goodIn_of _ (by decide +kernel)) ggL_law_X9_image
set_option maxRecDepth 20000 in
theorem ggL_law_X8_back : GoodIn wsL_law wsX8_back := goodIn_r _ [1161, 43, 15, 30, 151, 377, 165, 166, 14, 167, 49, 168, 169, 170, 171, 50, 51, 52, 53, 54, 55, 56, 57, 156, 157, 158, 2, 159, 29, 44, 160, 161, 162, 28, 163, 96, 97, 95, 164, 1166, 1167, 1168, 1169, 1170, 1171, 1172, 1173, 1174, 1175, 1176, 1177, 1218, 1219, 1220, 1221, 1222, 1223, 1224, 1225, 1226, 1234, 1235, 1236] (by decide +kernel) (by decide +kernel)
set_option maxRecDepth 20000 in
theorem gL_law_X8_back : GoodIn wsL_law (wsV RL 140 RX8 yX8_back wsX8_back) := goodIn_app (goodIn_of _ (by decide +kernel)) ggL_law_X8_back
set_option maxRecDepth 20000 in
theorem ggL_law_X9_back : GoodIn wsL_law wsX9_back := goodIn_r _ [1165, 1157, 138, 178, 179, 176, 475, 476, 477, 5, 478, 126, 127, 128, 129, 130, 131, 132, 177, 1178, 1179, 1180, 1181, 1182, 1183, 1184, 1185, 1186, 1187, 1188, 1189, 1190, 1191, 1192, 1193, 1194, 1195, 1196, 1197, 1198, 1199, 1200, 1201, 1202, 1203, 1204, 1205, 1206, 1207, 1208, 1209, 1210, 1211, 1212, 1213, 1214, 1215, 1216, 1217] (by decide +kernel) (by decide +kernel)
set_option maxRecDepth 20000 in
theorem gL_law_X9_back : GoodIn wsL_law (wsV RL 143 RX9 yX9_back wsX9_back) := goodIn_app (goodIn_of _ (by decide +kernel)) ggL_law_X9_back
theorem dL_law_0 : decode cL_law 0 = .ok (.new 7, 3) := by decide +kernel
theorem dL_law_3 : decode cL_law 3 = .ok (.dup, 1) := by decide +kernel
theorem dL_law_4 : decode cL_law 4 = .ok (.invokespecial 9, 3) := by decide +kernel
theorem dL_law_7 : decode cL_law 7 = .ok (.astore_n 1, 1) := by decide +kernel
theorem dL_law_8 : decode cL_law 8 = .ok (.new 10, 3) := by decide +kernel
theorem dL_law_11 : decode cL_law 11 = .ok (.dup, 1) := by decide +kernel
theorem dL_law_12 : decode cL_law 12 = .ok (.invokespecial 12, 3) := by decide +kernel
theorem dL_law_15 : decode cL_law 15 = .ok (.astore_n 2, 1) := by decide +kernel
theorem dL_law_16 : decode cL_law 16 = .ok (.iconst 0, 1) := by decide +kernel
theorem dL_law_17 : decode cL_law 17 = .ok (.istore_n 3, 1) := by decide +kernel
theorem dL_law_18 : decode cL_law 18 = .ok (.iload_n 3, 1) := by decide +kernel
theorem dL_law_19 : decode cL_law 19 = .ok (.aload_n 0, 1) := by decide +kernel
theorem dL_law_20 : decode cL_law 20 = .ok (.arraylength, 1) := by decide +kernel
theorem dL_law_21 : decode cL_law 21 = .ok (.bipush 6, 2) := by decide +kernel
theorem dL_law_23 : decode cL_law 23 = .ok (.isub, 1) := by decide +kernel
theorem dL_law_24 : decode cL_law 24 = .ok (.if_icmp .gt 1098, 3) := by decide +kernel
theorem dL_law_27 : decode cL_law 27 = .ok (.aload_n 0, 1) := by decide +kernel
theorem dL_law_28 : decode cL_law 28 = .ok (.iload_n 3, 1) := by decide +kernel
theorem dL_law_29 : decode cL_law 29 = .ok (.iaload, 1) := by decide +kernel
theorem dL_law_30 : decode cL_law 30 = .ok (.bipush 31, 2) := by decide +kernel
theorem dL_law_32 : decode cL_law 32 = .ok (.iand, 1) := by decide +kernel
theorem dL_law_33 : decode cL_law 33 = .ok (.tableswitch 1083 0 30 #[139, 152, 185, 248, 281, 314, 357, 380, 393, 426, 449, 472, 505, 538, 561, 594, 637, 670, 693, 736, 759, 792, 825, 878, 921, 954, 997, 1031, 1044, 1057, 1070], 139) := by decide +kernel
theorem dL_law_172 : decode cL_law 172 = .ok (.aload_n 1, 1) := by decide +kernel
theorem dL_law_173 : decode cL_law 173 = .ok (.invokevirtual 13, 3) := by decide +kernel
theorem dL_law_176 : decode cL_law 176 = .ok (.aload_n 2, 1) := by decide +kernel
theorem dL_law_177 : decode cL_law 177 = .ok (.invokevirtual 17, 3) := by decide +kernel
theorem dL_law_180 : decode cL_law 180 = .ok (.if_icmp .eq 936, 3) := by decide +kernel
theorem dL_law_183 : decode cL_law 183 = .ok (.iconst 0, 1) := by decide +kernel
theorem dL_law_184 : decode cL_law 184 = .ok (.ireturn, 1) := by decide +kernel
theorem dL_law_185 : decode cL_law 185 = .ok (.aload_n 1, 1) := by decide +kernel
theorem dL_law_186 : decode cL_law 186 = .ok (.aload_n 0, 1) := by decide +kernel
theorem dL_law_187 : decode cL_law 187 = .ok (.iload_n 3, 1) := by decide +kernel
theorem dL_law_188 : decode cL_law 188 = .ok (.iconst 1, 1) := by decide +kernel
theorem dL_law_189 : decode cL_law 189 = .ok (.iadd, 1) := by decide +kernel
theorem dL_law_190 : decode cL_law 190 = .ok (.iaload, 1) := by decide +kernel
theorem dL_law_191 : decode cL_law 191 = .ok (.aload_n 0, 1) := by decide +kernel
theorem dL_law_192 : decode cL_law 192 = .ok (.iload_n 3, 1) := by decide +kernel
theorem dL_law_193 : decode cL_law 193 = .ok (.iconst 2, 1) := by decide +kernel
theorem dL_law_194 : decode cL_law 194 = .ok (.iadd, 1) := by decide +kernel
theorem dL_law_195 : decode cL_law 195 = .ok (.iaload, 1) := by decide +kernel
theorem dL_law_196 : decode cL_law 196 = .ok (.invokevirtual 18, 3) := by decide +kernel
theorem dL_law_199 : decode cL_law 199 = .ok (.aload_n 2, 1) := by decide +kernel
theorem dL_law_200 : decode cL_law 200 = .ok (.aload_n 0, 1) := by decide +kernel
theorem dL_law_201 : decode cL_law 201 = .ok (.iload_n 3, 1) := by decide +kernel
theorem dL_law_202 : decode cL_law 202 = .ok (.iconst 1, 1) := by decide +kernel
theorem dL_law_203 : decode cL_law 203 = .ok (.iadd, 1) := by decide +kernel
theorem dL_law_204 : decode cL_law 204 = .ok (.iaload, 1) := by decide +kernel
theorem dL_law_205 : decode cL_law 205 = .ok (.aload_n 0, 1) := by decide +kernel
theorem dL_law_206 : decode cL_law 206 = .ok (.iload_n 3, 1) := by decide +kernel
theorem dL_law_207 : decode cL_law 207 = .ok (.iconst 2, 1) := by decide +kernel
theorem dL_law_208 : decode cL_law 208 = .ok (.iadd, 1) := by decide +kernel
theorem dL_law_209 : decode cL_law 209 = .ok (.iaload, 1) := by decide +kernel
theorem dL_law_210 : decode cL_law 210 = .ok (.invokevirtual 22, 3) := by decide +kernel
theorem dL_law_213 : decode cL_law 213 = .ok (.if_icmp .eq 903, 3) := by decide +kernel
theorem dL_law_216 : decode cL_law 216 = .ok (.iconst 0, 1) := by decide +kernel
theorem dL_law_217 : decode cL_law 217 = .ok (.ireturn, 1) := by decide +kernel
theorem dL_law_218 : decode cL_law 218 = .ok (.aload_n 1, 1) := by decide +kernel
theorem dL_law_219 : decode cL_law 219 = .ok (.aload_n 0, 1) := by decide +kernel
theorem dL_law_220 : decode cL_law 220 = .ok (.iload_n 3, 1) := by decide +kernel
theorem dL_law_221 : decode cL_law 221 = .ok (.iconst 1, 1) := by decide +kernel
theorem dL_law_222 : decode cL_law 222 = .ok (.iadd, 1) := by decide +kernel
theorem dL_law_223 : decode cL_law 223 = .ok (.iaload, 1) := by decide +kernel
theorem dL_law_224 : decode cL_law 224 = .ok (.aload_n 0, 1) := by decide +kernel
theorem dL_law_225 : decode cL_law 225 = .ok (.iload_n 3, 1) := by decide +kernel
theorem dL_law_226 : decode cL_law 226 = .ok (.iconst 2, 1) := by decide +kernel
theorem dL_law_227 : decode cL_law 227 = .ok (.iadd, 1) := by decide +kernel
theorem dL_law_228 : decode cL_law 228 = .ok (.iaload, 1) := by decide +kernel
theorem dL_law_229 : decode cL_law 229 = .ok (.aload_n 0, 1) := by decide +kernel
theorem dL_law_230 : decode cL_law 230 = .ok (.iload_n 3, 1) := by decide +kernel
theorem dL_law_231 : decode cL_law 231 = .ok (.iconst 3, 1) := by decide +kernel
theorem dL_law_232 : decode cL_law 232 = .ok (.iadd, 1) := by decide +kernel
theorem dL_law_233 : decode cL_law 233 = .ok (.iaload, 1) := by decide +kernel
theorem dL_law_234 : decode cL_law 234 = .ok (.aload_n 0, 1) := by decide +kernel
theorem dL_law_235 : decode cL_law 235 = .ok (.iload_n 3, 1) := by decide +kernel
theorem dL_law_236 : decode cL_law 236 = .ok (.iconst 4, 1) := by decide +kernel
theorem dL_law_237 : decode cL_law 237 = .ok (.iadd, 1) := by decide +kernel
theorem dL_law_238 : decode cL_law 238 = .ok (.iaload, 1) := by decide +kernel
theorem dL_law_239 : decode cL_law 239 = .ok (.aload_n 0, 1) := by decide +kernel
theorem dL_law_240 : decode cL_law 240 = .ok (.iload_n 3, 1) := by decide +kernel
theorem dL_law_241 : decode cL_law 241 = .ok (.iconst 5, 1) := by decide +kernel
theorem dL_law_242 : decode cL_law 242 = .ok (.iadd, 1) := by decide +kernel
theorem dL_law_243 : decode cL_law 243 = .ok (.iaload, 1) := by decide +kernel
theorem dL_law_244 : decode cL_law 244 = .ok (.invokevirtual 23, 3) := by decide +kernel
theorem dL_law_247 : decode cL_law 247 = .ok (.aload_n 2, 1) := by decide +kernel
theorem dL_law_248 : decode cL_law 248 = .ok (.aload_n 0, 1) := by decide +kernel
theorem dL_law_249 : decode cL_law 249 = .ok (.iload_n 3, 1) := by decide +kernel
theorem dL_law_250 : decode cL_law 250 = .ok (.iconst 1, 1) := by decide +kernel
theorem dL_law_251 : decode cL_law 251 = .ok (.iadd, 1) := by decide +kernel
theorem dL_law_252 : decode cL_law 252 = .ok (.iaload, 1) := by decide +kernel
theorem dL_law_253 : decode cL_law 253 = .ok (.aload_n 0, 1) := by decide +kernel
theorem dL_law_254 : decode cL_law 254 = .ok (.iload_n 3, 1) := by decide +kernel
theorem dL_law_255 : decode cL_law 255 = .ok (.iconst 2, 1) := by decide +kernel
theorem dL_law_256 : decode cL_law 256 = .ok (.iadd, 1) := by decide +kernel
theorem dL_law_257 : decode cL_law 257 = .ok (.iaload, 1) := by decide +kernel
theorem dL_law_258 : decode cL_law 258 = .ok (.aload_n 0, 1) := by decide +kernel
theorem dL_law_259 : decode cL_law 259 = .ok (.iload_n 3, 1) := by decide +kernel
theorem dL_law_260 : decode cL_law 260 = .ok (.iconst 3, 1) := by decide +kernel
theorem dL_law_261 : decode cL_law 261 = .ok (.iadd, 1) := by decide +kernel
theorem dL_law_262 : decode cL_law 262 = .ok (.iaload, 1) := by decide +kernel
theorem dL_law_263 : decode cL_law 263 = .ok (.aload_n 0, 1) := by decide +kernel
theorem dL_law_264 : decode cL_law 264 = .ok (.iload_n 3, 1) := by decide +kernel
theorem dL_law_265 : decode cL_law 265 = .ok (.iconst 4, 1) := by decide +kernel
theorem dL_law_266 : decode cL_law 266 = .ok (.iadd, 1) := by decide +kernel
theorem dL_law_267 : decode cL_law 267 = .ok (.iaload, 1) := by decide +kernel
theorem dL_law_268 : decode cL_law 268 = .ok (.aload_n 0, 1) := by decide +kernel
theorem dL_law_269 : decode cL_law 269 = .ok (.iload_n 3, 1) := by decide +kernel
theorem dL_law_270 : decode cL_law 270 = .ok (.iconst 5, 1) := by decide +kernel
theorem dL_law_271 : decode cL_law 271 = .ok (.iadd, 1) := by decide +kernel
theorem dL_law_272 : decode cL_law 272 = .ok (.iaload, 1) := by decide +kernel
theorem dL_law_273 : decode cL_law 273 = .ok (.invokevirtual 27, 3) := by decide +kernel
theorem dL_law_276 : decode cL_law 276 = .ok (.if_icmp .eq 840, 3) := by decide +kernel
theorem dL_law_279 : decode cL_law 279 = .ok (.iconst 0, 1) := by decide +kernel
theorem dL_law_280 : decode cL_law 280 = .ok (.ireturn, 1) := by decide +kernel
theorem dL_law_281 : decode cL_law 281 = .ok (.aload_n 1, 1) := by decide +kernel
theorem dL_law_282 : decode cL_law 282 = .ok (.aload_n 0, 1) := by decide +kernel
theorem dL_law_283 : decode cL_law 283 = .ok (.iload_n 3, 1) := by decide +kernel
theorem dL_law_284 : decode cL_law 284 = .ok (.iconst 1, 1) := by decide +kernel
theorem dL_law_285 : decode cL_law 285 = .ok (.iadd, 1) := by decide +kernel
theorem dL_law_286 : decode cL_law 286 = .ok (.iaload, 1) := by decide +kernel
theorem dL_law_287 : decode cL_law 287 = .ok (.aload_n 0, 1) := by decide +kernel
theorem dL_law_288 : decode cL_law 288 = .ok (.iload_n 3, 1) := by decide +kernel
theorem dL_law_289 : decode cL_law 289 = .ok (.iconst 2, 1) := by decide +kernel
theorem dL_law_290 : decode cL_law 290 = .ok (.iadd, 1) := by decide +kernel
theorem dL_law_291 : decode cL_law 291 = .ok (.iaload, 1) := by decide +kernel
theorem dL_law_292 : decode cL_law 292 = .ok (.invokevirtual 28, 3) := by decide +kernel
theorem dL_law_295 : decode cL_law 295 = .ok (.aload_n 2, 1) := by decide +kernel
theorem dL_law_296 : decode cL_law 296 = .ok (.aload_n 0, 1) := by decide +kernel
theorem dL_law_297 : decode cL_law 297 = .ok (.iload_n 3, 1) := by decide +kernel
theorem dL_law_298 : decode cL_law 298 = .ok (.iconst 1, 1) := by decide +kernel
theorem dL_law_299 : decode cL_law 299 = .ok (.iadd, 1) := by decide +kernel
theorem dL_law_300 : decode cL_law 300 = .ok (.iaload, 1) := by decide +kernel
theorem dL_law_301 : decode cL_law 301 = .ok (.aload_n 0, 1) := by decide +kernel
theorem dL_law_302 : decode cL_law 302 = .ok (.iload_n 3, 1) := by decide +kernel
theorem dL_law_303 : decode cL_law 303 = .ok (.iconst 2, 1) := by decide +kernel
theorem dL_law_304 : decode cL_law 304 = .ok (.iadd, 1) := by decide +kernel
theorem dL_law_305 : decode cL_law 305 = .ok (.iaload, 1) := by decide +kernel
theorem dL_law_306 : decode cL_law 306 = .ok (.invokevirtual 31, 3) := by decide +kernel
theorem dL_law_309 : decode cL_law 309 = .ok (.if_icmp .eq 807, 3) := by decide +kernel
theorem dL_law_312 : decode cL_law 312 = .ok (.iconst 0, 1) := by decide +kernel
theorem dL_law_313 : decode cL_law 313 = .ok (.ireturn, 1) := by decide +kernel
theorem dL_law_314 : decode cL_law 314 = .ok (.aload_n 1, 1) := by decide +kernel
theorem dL_law_315 : decode cL_law 315 = .ok (.aload_n 0, 1) := by decide +kernel
theorem dL_law_316 : decode cL_law 316 = .ok (.iload_n 3, 1) := by decide +kernel
theorem dL_law_317 : decode cL_law 317 = .ok (.iconst 1, 1) := by decide +kernel
theorem dL_law_318 : decode cL_law 318 = .ok (.iadd, 1) := by decide +kernel
theorem dL_law_319 : decode cL_law 319 = .ok (.iaload, 1) := by decide +kernel
theorem dL_law_320 : decode cL_law 320 = .ok (.aload_n 0, 1) := by decide +kernel
theorem dL_law_321 : decode cL_law 321 = .ok (.iload_n 3, 1) := by decide +kernel
theorem dL_law_322 : decode cL_law 322 = .ok (.iconst 2, 1) := by decide +kernel
theorem dL_law_323 : decode cL_law 323 = .ok (.iadd, 1) := by decide +kernel
theorem dL_law_324 : decode cL_law 324 = .ok (.iaload, 1) := by decide +kernel
theorem dL_law_325 : decode cL_law 325 = .ok (.invokevirtual 32, 3) := by decide +kernel
theorem dL_law_328 : decode cL_law 328 = .ok (.aload_n 2, 1) := by decide +kernel
theorem dL_law_329 : decode cL_law 329 = .ok (.aload_n 0, 1) := by decide +kernel
theorem dL_law_330 : decode cL_law 330 = .ok (.iload_n 3, 1) := by decide +kernel
theorem dL_law_331 : decode cL_law 331 = .ok (.iconst 1, 1) := by decide +kernel
theorem dL_law_332 : decode cL_law 332 = .ok (.iadd, 1) := by decide +kernel
theorem dL_law_333 : decode cL_law 333 = .ok (.iaload, 1) := by decide +kernel
theorem dL_law_334 : decode cL_law 334 = .ok (.aload_n 0, 1) := by decide +kernel
theorem dL_law_335 : decode cL_law 335 = .ok (.iload_n 3, 1) := by decide +kernel
theorem dL_law_336 : decode cL_law 336 = .ok (.iconst 2, 1) := by decide +kernel
theorem dL_law_337 : decode cL_law 337 = .ok (.iadd, 1) := by decide +kernel
theorem dL_law_338 : decode cL_law 338 = .ok (.iaload, 1) := by decide +kernel
theorem dL_law_339 : decode cL_law 339 = .ok (.invokevirtual 35, 3) := by decide +kernel
theorem dL_law_342 : decode cL_law 342 = .ok (.if_icmp .eq 774, 3) := by decide +kernel
theorem dL_law_345 : decode cL_law 345 = .ok (.iconst 0, 1) := by decide +kernel
theorem dL_law_346 : decode cL_law 346 = .ok (.ireturn, 1) := by decide +kernel
theorem dL_law_347 : decode cL_law 347 = .ok (.aload_n 1, 1) := by decide +kernel
theorem dL_law_348 : decode cL_law 348 = .ok (.aload_n 0, 1) := by decide +kernel
theorem dL_law_349 : decode cL_law 349 = .ok (.iload_n 3, 1) := by decide +kernel
theorem dL_law_350 : decode cL_law 350 = .ok (.iconst 1, 1) := by decide +kernel
theorem dL_law_351 : decode cL_law 351 = .ok (.iadd, 1) := by decide +kernel
theorem dL_law_352 : decode cL_law 352 = .ok (.iaload, 1) := by decide +kernel
theorem dL_law_353 : decode cL_law 353 = .ok (.aload_n 0, 1) := by decide +kernel
theorem dL_law_354 : decode cL_law 354 = .ok (.iload_n 3, 1) := by decide +kernel
theorem dL_law_355 : decode cL_law 355 = .ok (.iconst 2, 1) := by decide +kernel
theorem dL_law_356 : decode cL_law 356 = .ok (.iadd, 1) := by decide +kernel
theorem dL_law_357 : decode cL_law 357 = .ok (.iaload, 1) := by decide +kernel
theorem dL_law_358 : decode cL_law 358 = .ok (.aload_n 0, 1) := by decide +kernel
theorem dL_law_359 : decode cL_law 359 = .ok (.iload_n 3, 1) := by decide +kernel
theorem dL_law_360 : decode cL_law 360 = .ok (.iconst 3, 1) := by decide +kernel
theorem dL_law_361 : decode cL_law 361 = .ok (.iadd, 1) := by decide +kernel
theorem dL_law_362 : decode cL_law 362 = .ok (.iaload, 1) := by decide +kernel
theorem dL_law_363 : decode cL_law 363 = .ok (.invokevirtual 36, 3) := by decide +kernel
theorem dL_law_366 : decode cL_law 366 = .ok (.aload_n 2, 1) := by decide +kernel
theorem dL_law_367 : decode cL_law 367 = .ok (.aload_n 0, 1) := by decide +kernel
theorem dL_law_368 : decode cL_law 368 = .ok (.iload_n 3, 1) := by decide +kernel
theorem dL_law_369 : decode cL_law 369 = .ok (.iconst 1, 1) := by decide +kernel
theorem dL_law_370 : decode cL_law 370 = .ok (.iadd, 1) := by decide +kernel
theorem dL_law_371 : decode cL_law 371 = .ok (.iaload, 1) := by decide +kernel
theorem dL_law_372 : decode cL_law 372 = .ok (.aload_n 0, 1) := by decide +kernel
theorem dL_law_373 : decode cL_law 373 = .ok (.iload_n 3, 1) := by decide +kernel
theorem dL_law_374 : decode cL_law 374 = .ok (.iconst 2, 1) := by decide +kernel
theorem dL_law_375 : decode cL_law 375 = .ok (.iadd, 1) := by decide +kernel
theorem dL_law_376 : decode cL_law 376 = .ok (.iaload, 1) := by decide +kernel
theorem dL_law_377 : decode cL_law 377 = .ok (.aload_n 0, 1) := by decide +kernel
theorem dL_law_378 : decode cL_law 378 = .ok (.iload_n 3, 1) := by decide +kernel
theorem dL_law_379 : decode cL_law 379 = .ok (.iconst 3, 1) := by decide +kernel
theorem dL_law_380 : decode cL_law 380 = .ok (.iadd, 1) := by decide +kernel
theorem dL_law_381 : decode cL_law 381 = .ok (.iaload, 1) := by decide +kernel
theorem dL_law_382 : decode cL_law 382 = .ok (.invokevirtual 40, 3) := by decide +kernel
theorem dL_law_385 : decode cL_law 385 = .ok (.if_icmp .eq 731, 3) := by decide +kernel
theorem dL_law_388 : decode cL_law 388 = .ok (.iconst 0, 1) := by decide +kernel
theorem dL_law_389 : decode cL_law 389 = .ok (.ireturn, 1) := by decide +kernel
theorem dL_law_390 : decode cL_law 390 = .ok (.aload_n 1, 1) := by decide +kernel
theorem dL_law_391 : decode cL_law 391 = .ok (.aload_n 0, 1) := by decide +kernel
theorem dL_law_392 : decode cL_law 392 = .ok (.iload_n 3, 1) := by decide +kernel
theorem dL_law_393 : decode cL_law 393 = .ok (.iconst 1, 1) := by decide +kernel
theorem dL_law_394 : decode cL_law 394 = .ok (.iadd, 1) := by decide +kernel
theorem dL_law_395 : decode cL_law 395 = .ok (.iaload, 1) := by decide +kernel
theorem dL_law_396 : decode cL_law 396 = .ok (.invokevirtual 41, 3) := by decide +kernel
theorem dL_law_399 : decode cL_law 399 = .ok (.aload_n 2, 1) := by decide +kernel
theorem dL_law_400 : decode cL_law 400 = .ok (.aload_n 0, 1) := by decide +kernel
theorem dL_law_401 : decode cL_law 401 = .ok (.iload_n 3, 1) := by decide +kernel
theorem dL_law_402 : decode cL_law 402 = .ok (.iconst 1, 1) := by decide +kernel
theorem dL_law_403 : decode cL_law 403 = .ok (.iadd, 1) := by decide +kernel
theorem dL_law_404 : decode cL_law 404 = .ok (.iaload, 1) := by decide +kernel
theorem dL_law_405 : decode cL_law 405 = .ok (.invokevirtual 45, 3) := by decide +kernel
theorem dL_law_408 : decode cL_law 408 = .ok (.if_icmp .eq 708, 3) := by decide +kernel
theorem dL_law_411 : decode cL_law 411 = .ok (.iconst 0, 1) := by decide +kernel
theorem dL_law_412 : decode cL_law 412 = .ok (.ireturn, 1) := by decide +kernel
theorem dL_law_413 : decode cL_law 413 = .ok (.aload_n 1, 1) := by decide +kernel
theorem dL_law_414 : decode cL_law 414 = .ok (.invokevirtual 46, 3) := by decide +kernel
theorem dL_law_417 : decode cL_law 417 = .ok (.aload_n 2, 1) := by decide +kernel
theorem dL_law_418 : decode cL_law 418 = .ok (.invokevirtual 49, 3) := by decide +kernel
theorem dL_law_421 : decode cL_law 421 = .ok (.if_icmp .eq 695, 3) := by decide +kernel
theorem dL_law_424 : decode cL_law 424 = .ok (.iconst 0, 1) := by decide +kernel
theorem dL_law_425 : decode cL_law 425 = .ok (.ireturn, 1) := by decide +kernel
theorem dL_law_426 : decode cL_law 426 = .ok (.aload_n 1, 1) := by decide +kernel
theorem dL_law_427 : decode cL_law 427 = .ok (.aload_n 0, 1) := by decide +kernel
theorem dL_law_428 : decode cL_law 428 = .ok (.iload_n 3, 1) := by decide +kernel
theorem dL_law_429 : decode cL_law 429 = .ok (.iconst 1, 1) := by decide +kernel
theorem dL_law_430 : decode cL_law 430 = .ok (.iadd, 1) := by decide +kernel
theorem dL_law_431 : decode cL_law 431 = .ok (.iaload, 1) := by decide +kernel
theorem dL_law_432 : decode cL_law 432 = .ok (.aload_n 0, 1) := by decide +kernel
theorem dL_law_433 : decode cL_law 433 = .ok (.iload_n 3, 1) := by decide +kernel
theorem dL_law_434 : decode cL_law 434 = .ok (.iconst 2, 1) := by decide +kernel
theorem dL_law_435 : decode cL_law 435 = .ok (.iadd, 1) := by decide +kernel
theorem dL_law_436 : decode cL_law 436 = .ok (.iaload, 1) := by decide +kernel
theorem dL_law_437 : decode cL_law 437 = .ok (.invokevirtual 50, 3) := by decide +kernel
theorem dL_law_440 : decode cL_law 440 = .ok (.aload_n 2, 1) := by decide +kernel
theorem dL_law_441 : decode cL_law 441 = .ok (.aload_n 0, 1) := by decide +kernel
theorem dL_law_442 : decode cL_law 442 = .ok (.iload_n 3, 1) := by decide +kernel
theorem dL_law_443 : decode cL_law 443 = .ok (.iconst 1, 1) := by decide +kernel
theorem dL_law_444 : decode cL_law 444 = .ok (.iadd, 1) := by decide +kernel
theorem dL_law_445 : decode cL_law 445 = .ok (.iaload, 1) := by decide +kernel
theorem dL_law_446 : decode cL_law 446 = .ok (.aload_n 0, 1) := by decide +kernel
theorem dL_law_447 : decode cL_law 447 = .ok (.iload_n 3, 1) := by decide +kernel
theorem dL_law_448 : decode cL_law 448 = .ok (.iconst 2, 1) := by decide +kernel
theorem dL_law_449 : decode cL_law 449 = .ok (.iadd, 1) := by decide +kernel
theorem dL_law_450 : decode cL_law 450 = .ok (.iaload, 1) := by decide +kernel
theorem dL_law_451 : decode cL_law 451 = .ok (.invokevirtual 53, 3) := by decide +kernel
theorem dL_law_454 : decode cL_law 454 = .ok (.if_icmp .eq 662, 3) := by decide +kernel
theorem dL_law_457 : decode cL_law 457 = .ok (.iconst 0, 1) := by decide +kernel
theorem dL_law_458 : decode cL_law 458 = .ok (.ireturn, 1) := by decide +kernel
theorem dL_law_459 : decode cL_law 459 = .ok (.aload_n 1, 1) := by decide +kernel
theorem dL_law_460 : decode cL_law 460 = .ok (.aload_n 0, 1) := by decide +kernel
theorem dL_law_461 : decode cL_law 461 = .ok (.iload_n 3, 1) := by decide +kernel
theorem dL_law_462 : decode cL_law 462 = .ok (.iconst 1, 1) := by decide +kernel
theorem dL_law_463 : decode cL_law 463 = .ok (.iadd, 1) := by decide +kernel
theorem dL_law_464 : decode cL_law 464 = .ok (.iaload, 1) := by decide +kernel
theorem dL_law_465 : decode cL_law 465 = .ok (.invokevirtual 54, 3) := by decide +kernel
theorem dL_law_468 : decode cL_law 468 = .ok (.aload_n 2, 1) := by decide +kernel
theorem dL_law_469 : decode cL_law 469 = .ok (.aload_n 0, 1) := by decide +kernel
theorem dL_law_470 : decode cL_law 470 = .ok (.iload_n 3, 1) := by decide +kernel
theorem dL_law_471 : decode cL_law 471 = .ok (.iconst 1, 1) := by decide +kernel
theorem dL_law_472 : decode cL_law 472 = .ok (.iadd, 1) := by decide +kernel
theorem dL_law_473 : decode cL_law 473 = .ok (.iaload, 1) := by decide +kernel
theorem dL_law_474 : decode cL_law 474 = .ok (.invokevirtual 57, 3) := by decide +kernel
theorem dL_law_477 : decode cL_law 477 = .ok (.if_icmp .eq 639, 3) := by decide +kernel
theorem dL_law_480 : decode cL_law 480 = .ok (.iconst 0, 1) := by decide +kernel
theorem dL_law_481 : decode cL_law 481 = .ok (.ireturn, 1) := by decide +kernel
theorem dL_law_482 : decode cL_law 482 = .ok (.aload_n 1, 1) := by decide +kernel
theorem dL_law_483 : decode cL_law 483 = .ok (.aload_n 0, 1) := by decide +kernel
theorem dL_law_484 : decode cL_law 484 = .ok (.iload_n 3, 1) := by decide +kernel
theorem dL_law_485 : decode cL_law 485 = .ok (.iconst 1, 1) := by decide +kernel
theorem dL_law_486 : decode cL_law 486 = .ok (.iadd, 1) := by decide +kernel
theorem dL_law_487 : decode cL_law 487 = .ok (.iaload, 1) := by decide +kernel
theorem dL_law_488 : decode cL_law 488 = .ok (.invokevirtual 58, 3) := by decide +kernel
theorem dL_law_491 : decode cL_law 491 = .ok (.aload_n 2, 1) := by decide +kernel
theorem dL_law_492 : decode cL_law 492 = .ok (.aload_n 0, 1) := by decide +kernel
theorem dL_law_493 : decode cL_law 493 = .ok (.iload_n 3, 1) := by decide +kernel
theorem dL_law_494 : decode cL_law 494 = .ok (.iconst 1, 1) := by decide +kernel
theorem dL_law_495 : decode cL_law 495 = .ok (.iadd, 1) := by decide +kernel
theorem dL_law_496 : decode cL_law 496 = .ok (.iaload, 1) := by decide +kernel
theorem dL_law_497 : decode cL_law 497 = .ok (.invokevirtual 61, 3) := by decide +kernel
theorem dL_law_500 : decode cL_law 500 = .ok (.if_icmp .eq 616, 3) := by decide +kernel
theorem dL_law_503 : decode cL_law 503 = .ok (.iconst 0, 1) := by decide +kernel
theorem dL_law_504 : decode cL_law 504 = .ok (.ireturn, 1) := by decide +kernel
theorem dL_law_505 : decode cL_law 505 = .ok (.aload_n 1, 1) := by decide +kernel
theorem dL_law_506 : decode cL_law 506 = .ok (.aload_n 0, 1) := by decide +kernel
theorem dL_law_507 : decode cL_law 507 = .ok (.iload_n 3, 1) := by decide +kernel
theorem dL_law_508 : decode cL_law 508 = .ok (.iconst 1, 1) := by decide +kernel
theorem dL_law_509 : decode cL_law 509 = .ok (.iadd, 1) := by decide +kernel
theorem dL_law_510 : decode cL_law 510 = .ok (.iaload, 1) := by decide +kernel
theorem dL_law_511 : decode cL_law 511 = .ok (.aload_n 0, 1) := by decide +kernel
theorem dL_law_512 : decode cL_law 512 = .ok (.iload_n 3, 1) := by decide +kernel
theorem dL_law_513 : decode cL_law 513 = .ok (.iconst 2, 1) := by decide +kernel
theorem dL_law_514 : decode cL_law 514 = .ok (.iadd, 1) := by decide +kernel
theorem dL_law_515 : decode cL_law 515 = .ok (.iaload, 1) := by decide +kernel
theorem dL_law_516 : decode cL_law 516 = .ok (.invokevirtual 62, 3) := by decide +kernel
theorem dL_law_519 : decode cL_law 519 = .ok (.aload_n 2, 1) := by decide +kernel
theorem dL_law_520 : decode cL_law 520 = .ok (.aload_n 0, 1) := by decide +kernel
theorem dL_law_521 : decode cL_law 521 = .ok (.iload_n 3, 1) := by decide +kernel
theorem dL_law_522 : decode cL_law 522 = .ok (.iconst 1, 1) := by decide +kernel
theorem dL_law_523 : decode cL_law 523 = .ok (.iadd, 1) := by decide +kernel
theorem dL_law_524 : decode cL_law 524 = .ok (.iaload, 1) := by decide +kernel
theorem dL_law_525 : decode cL_law 525 = .ok (.aload_n 0, 1) := by decide +kernel
theorem dL_law_526 : decode cL_law 526 = .ok (.iload_n 3, 1) := by decide +kernel
theorem dL_law_527 : decode cL_law 527 = .ok (.iconst 2, 1) := by decide +kernel
theorem dL_law_528 : decode cL_law 528 = .ok (.iadd, 1) := by decide +kernel
theorem dL_law_529 : decode cL_law 529 = .ok (.iaload, 1) := by decide +kernel
theorem dL_law_530 : decode cL_law 530 = .ok (.invokevirtual 65, 3) := by decide +kernel
theorem dL_law_533 : decode cL_law 533 = .ok (.if_icmp .eq 583, 3) := by decide +kernel
theorem dL_law_536 : decode cL_law 536 = .ok (.iconst 0, 1) := by decide +kernel
theorem dL_law_537 : decode cL_law 537 = .ok (.ireturn, 1) := by decide +kernel
theorem dL_law_538 : decode cL_law 538 = .ok (.aload_n 1, 1) := by decide +kernel
theorem dL_law_539 : decode cL_law 539 = .ok (.aload_n 0, 1) := by decide +kernel
theorem dL_law_540 : decode cL_law 540 = .ok (.iload_n 3, 1) := by decide +kernel
theorem dL_law_541 : decode cL_law 541 = .ok (.iconst 1, 1) := by decide +kernel
theorem dL_law_542 : decode cL_law 542 = .ok (.iadd, 1) := by decide +kernel
theorem dL_law_543 : decode cL_law 543 = .ok (.iaload, 1) := by decide +kernel
theorem dL_law_544 : decode cL_law 544 = .ok (.aload_n 0, 1) := by decide +kernel
theorem dL_law_545 : decode cL_law 545 = .ok (.iload_n 3, 1) := by decide +kernel
theorem dL_law_546 : decode cL_law 546 = .ok (.iconst 2, 1) := by decide +kernel
theorem dL_law_547 : decode cL_law 547 = .ok (.iadd, 1) := by decide +kernel
theorem dL_law_548 : decode cL_law 548 = .ok (.iaload, 1) := by decide +kernel
theorem dL_law_549 : decode cL_law 549 = .ok (.invokevirtual 66, 3) := by decide +kernel
theorem dL_law_552 : decode cL_law 552 = .ok (.aload_n 2, 1) := by decide +kernel
theorem dL_law_553 : decode cL_law 553 = .ok (.aload_n 0, 1) := by decide +kernel
theorem dL_law_554 : decode cL_law 554 = .ok (.iload_n 3, 1) := by decide +kernel
theorem dL_law_555 : decode cL_law 555 = .ok (.iconst 1, 1) := by decide +kernel
theorem dL_law_556 : decode cL_law 556 = .ok (.iadd, 1) := by decide +kernel
theorem dL_law_557 : decode cL_law 557 = .ok (.iaload, 1) := by decide +kernel
theorem dL_law_558 : decode cL_law 558 = .ok (.aload_n 0, 1) := by decide +kernel
theorem dL_law_559 : decode cL_law 559 = .ok (.iload_n 3, 1) := by decide +kernel
theorem dL_law_560 : decode cL_law 560 = .ok (.iconst 2, 1) := by decide +kernel
theorem dL_law_561 : decode cL_law 561 = .ok (.iadd, 1) := by decide +kernel
theorem dL_law_562 : decode cL_law 562 = .ok (.iaload, 1) := by decide +kernel
theorem dL_law_563 : decode cL_law 563 = .ok (.invokevirtual 69, 3) := by decide +kernel
theorem dL_law_566 : decode cL_law 566 = .ok (.if_icmp .eq 550, 3) := by decide +kernel
theorem dL_law_569 : decode cL_law 569 = .ok (.iconst 0, 1) := by decide +kernel
theorem dL_law_570 : decode cL_law 570 = .ok (.ireturn, 1) := by decide +kernel
theorem dL_law_571 : decode cL_law 571 = .ok (.aload_n 1, 1) := by decide +kernel
theorem dL_law_572 : decode cL_law 572 = .ok (.aload_n 0, 1) := by decide +kernel
theorem dL_law_573 : decode cL_law 573 = .ok (.iload_n 3, 1) := by decide +kernel
theorem dL_law_574 : decode cL_law 574 = .ok (.iconst 1, 1) := by decide +kernel
theorem dL_law_575 : decode cL_law 575 = .ok (.iadd, 1) := by decide +kernel
theorem dL_law_576 : decode cL_law 576 = .ok (.iaload, 1) := by decide +kernel
theorem dL_law_577 : decode cL_law 577 = .ok (.invokevirtual 70, 3) := by decide +kernel
theorem dL_law_580 : decode cL_law 580 = .ok (.aload_n 2, 1) := by decide +kernel
theorem dL_law_581 : decode cL_law 581 = .ok (.aload_n 0, 1) := by decide +kernel
theorem dL_law_582 : decode cL_law 582 = .ok (.iload_n 3, 1) := by decide +kernel
theorem dL_law_583 : decode cL_law 583 = .ok (.iconst 1, 1) := by decide +kernel
theorem dL_law_584 : decode cL_law 584 = .ok (.iadd, 1) := by decide +kernel
theorem dL_law_585 : decode cL_law 585 = .ok (.iaload, 1) := by decide +kernel
theorem dL_law_586 : decode cL_law 586 = .ok (.invokevirtual 73, 3) := by decide +kernel
theorem dL_law_589 : decode cL_law 589 = .ok (.if_icmp .eq 527, 3) := by decide +kernel
theorem dL_law_592 : decode cL_law 592 = .ok (.iconst 0, 1) := by decide +kernel
theorem dL_law_593 : decode cL_law 593 = .ok (.ireturn, 1) := by decide +kernel
theorem dL_law_594 : decode cL_law 594 = .ok (.aload_n 1, 1) := by decide +kernel
theorem dL_law_595 : decode cL_law 595 = .ok (.aload_n 0, 1) := by decide +kernel
theorem dL_law_596 : decode cL_law 596 = .ok (.iload_n 3, 1) := by decide +kernel
theorem dL_law_597 : decode cL_law 597 = .ok (.iconst 1, 1) := by decide +kernel
theorem dL_law_598 : decode cL_law 598 = .ok (.iadd, 1) := by decide +kernel
theorem dL_law_599 : decode cL_law 599 = .ok (.iaload, 1) := by decide +kernel
theorem dL_law_600 : decode cL_law 600 = .ok (.aload_n 0, 1) := by decide +kernel
theorem dL_law_601 : decode cL_law 601 = .ok (.iload_n 3, 1) := by decide +kernel
theorem dL_law_602 : decode cL_law 602 = .ok (.iconst 2, 1) := by decide +kernel
theorem dL_law_603 : decode cL_law 603 = .ok (.iadd, 1) := by decide +kernel
theorem dL_law_604 : decode cL_law 604 = .ok (.iaload, 1) := by decide +kernel
theorem dL_law_605 : decode cL_law 605 = .ok (.invokevirtual 74, 3) := by decide +kernel
theorem dL_law_608 : decode cL_law 608 = .ok (.aload_n 2, 1) := by decide +kernel
theorem dL_law_609 : decode cL_law 609 = .ok (.aload_n 0, 1) := by decide +kernel
theorem dL_law_610 : decode cL_law 610 = .ok (.iload_n 3, 1) := by decide +kernel
theorem dL_law_611 : decode cL_law 611 = .ok (.iconst 1, 1) := by decide +kernel
theorem dL_law_612 : decode cL_law 612 = .ok (.iadd, 1) := by decide +kernel
theorem dL_law_613 : decode cL_law 613 = .ok (.iaload, 1) := by decide +kernel
theorem dL_law_614 : decode cL_law 614 = .ok (.aload_n 0, 1) := by decide +kernel
theorem dL_law_615 : decode cL_law 615 = .ok (.iload_n 3, 1) := by decide +kernel
theorem dL_law_616 : decode cL_law 616 = .ok (.iconst 2, 1) := by decide +kernel
theorem dL_law_617 : decode cL_law 617 = .ok (.iadd, 1) := by decide +kernel
theorem dL_law_618 : decode cL_law 618 = .ok (.iaload, 1) := by decide +kernel
theorem dL_law_619 : decode cL_law 619 = .ok (.invokevirtual 77, 3) := by decide +kernel
theorem dL_law_622 : decode cL_law 622 = .ok (.if_icmp .eq 494, 3) := by decide +kernel
theorem dL_law_625 : decode cL_law 625 = .ok (.iconst 0, 1) := by decide +kernel
theorem dL_law_626 : decode cL_law 626 = .ok (.ireturn, 1) := by decide +kernel
theorem dL_law_627 : decode cL_law 627 = .ok (.aload_n 1, 1) := by decide +kernel
theorem dL_law_628 : decode cL_law 628 = .ok (.aload_n 0, 1) := by decide +kernel
theorem dL_law_629 : decode cL_law 629 = .ok (.iload_n 3, 1) := by decide +kernel
theorem dL_law_630 : decode cL_law 630 = .ok (.iconst 1, 1) := by decide +kernel
theorem dL_law_631 : decode cL_law 631 = .ok (.iadd, 1) := by decide +kernel
theorem dL_law_632 : decode cL_law 632 = .ok (.iaload, 1) := by decide +kernel
theorem dL_law_633 : decode cL_law 633 = .ok (.aload_n 0, 1) := by decide +kernel
theorem dL_law_634 : decode cL_law 634 = .ok (.iload_n 3, 1) := by decide +kernel
theorem dL_law_635 : decode cL_law 635 = .ok (.iconst 2, 1) := by decide +kernel
theorem dL_law_636 : decode cL_law 636 = .ok (.iadd, 1) := by decide +kernel
theorem dL_law_637 : decode cL_law 637 = .ok (.iaload, 1) := by decide +kernel
theorem dL_law_638 : decode cL_law 638 = .ok (.aload_n 0, 1) := by decide +kernel
theorem dL_law_639 : decode cL_law 639 = .ok (.iload_n 3, 1) := by decide +kernel
theorem dL_law_640 : decode cL_law 640 = .ok (.iconst 3, 1) := by decide +kernel
theorem dL_law_641 : decode cL_law 641 = .ok (.iadd, 1) := by decide +kernel
theorem dL_law_642 : decode cL_law 642 = .ok (.iaload, 1) := by decide +kernel
theorem dL_law_643 : decode cL_law 643 = .ok (.invokevirtual 78, 3) := by decide +kernel
theorem dL_law_646 : decode cL_law 646 = .ok (.aload_n 2, 1) := by decide +kernel
theorem dL_law_647 : decode cL_law 647 = .ok (.aload_n 0, 1) := by decide +kernel
theorem dL_law_648 : decode cL_law 648 = .ok (.iload_n 3, 1) := by decide +kernel
theorem dL_law_649 : decode cL_law 649 = .ok (.iconst 1, 1) := by decide +kernel
theorem dL_law_650 : decode cL_law 650 = .ok (.iadd, 1) := by decide +kernel
theorem dL_law_651 : decode cL_law 651 = .ok (.iaload, 1) := by decide +kernel
theorem dL_law_652 : decode cL_law 652 = .ok (.aload_n 0, 1) := by decide +kernel
theorem dL_law_653 : decode cL_law 653 = .ok (.iload_n 3, 1) := by decide +kernel
theorem dL_law_654 : decode cL_law 654 = .ok (.iconst 2, 1) := by decide +kernel
theorem dL_law_655 : decode cL_law 655 = .ok (.iadd, 1) := by decide +kernel
theorem dL_law_656 : decode cL_law 656 = .ok (.iaload, 1) := by decide +kernel
theorem dL_law_657 : decode cL_law 657 = .ok (.aload_n 0, 1) := by decide +kernel
theorem dL_law_658 : decode cL_law 658 = .ok (.iload_n 3, 1) := by decide +kernel
theorem dL_law_659 : decode cL_law 659 = .ok (.iconst 3, 1) := by decide +kernel
theorem dL_law_660 : decode cL_law 660 = .ok (.iadd, 1) := by decide +kernel
theorem dL_law_661 : decode cL_law 661 = .ok (.iaload, 1) := by decide +kernel
theorem dL_law_662 : decode cL_law 662 = .ok (.invokevirtual 81, 3) := by decide +kernel
theorem dL_law_665 : decode cL_law 665 = .ok (.if_icmp .eq 451, 3) := by decide +kernel
theorem dL_law_668 : decode cL_law 668 = .ok (.iconst 0, 1) := by decide +kernel
theorem dL_law_669 : decode cL_law 669 = .ok (.ireturn, 1) := by decide +kernel
theorem dL_law_670 : decode cL_law 670 = .ok (.aload_n 1, 1) := by decide +kernel
theorem dL_law_671 : decode cL_law 671 = .ok (.aload_n 0, 1) := by decide +kernel
theorem dL_law_672 : decode cL_law 672 = .ok (.iload_n 3, 1) := by decide +kernel
theorem dL_law_673 : decode cL_law 673 = .ok (.iconst 1, 1) := by decide +kernel
theorem dL_law_674 : decode cL_law 674 = .ok (.iadd, 1) := by decide +kernel
theorem dL_law_675 : decode cL_law 675 = .ok (.iaload, 1) := by decide +kernel
theorem dL_law_676 : decode cL_law 676 = .ok (.aload_n 0, 1) := by decide +kernel
theorem dL_law_677 : decode cL_law 677 = .ok (.iload_n 3, 1) := by decide +kernel
theorem dL_law_678 : decode cL_law 678 = .ok (.iconst 2, 1) := by decide +kernel
theorem dL_law_679 : decode cL_law 679 = .ok (.iadd, 1) := by decide +kernel
theorem dL_law_680 : decode cL_law 680 = .ok (.iaload, 1) := by decide +kernel
theorem dL_law_681 : decode cL_law 681 = .ok (.invokevirtual 82, 3) := by decide +kernel
theorem dL_law_684 : decode cL_law 684 = .ok (.aload_n 2, 1) := by decide +kernel
theorem dL_law_685 : decode cL_law 685 = .ok (.aload_n 0, 1) := by decide +kernel
theorem dL_law_686 : decode cL_law 686 = .ok (.iload_n 3, 1) := by decide +kernel
theorem dL_law_687 : decode cL_law 687 = .ok (.iconst 1, 1) := by decide +kernel
theorem dL_law_688 : decode cL_law 688 = .ok (.iadd, 1) := by decide +kernel
theorem dL_law_689 : decode cL_law 689 = .ok (.iaload, 1) := by decide +kernel
theorem dL_law_690 : decode cL_law 690 = .ok (.aload_n 0, 1) := by decide +kernel
theorem dL_law_691 : decode cL_law 691 = .ok (.iload_n 3, 1) := by decide +kernel
theorem dL_law_692 : decode cL_law 692 = .ok (.iconst 2, 1) := by decide +kernel
theorem dL_law_693 : decode cL_law 693 = .ok (.iadd, 1) := by decide +kernel
theorem dL_law_694 : decode cL_law 694 = .ok (.iaload, 1) := by decide +kernel
theorem dL_law_695 : decode cL_law 695 = .ok (.invokevirtual 85, 3) := by decide +kernel
theorem dL_law_698 : decode cL_law 698 = .ok (.if_icmp .eq 418, 3) := by decide +kernel
theorem dL_law_701 : decode cL_law 701 = .ok (.iconst 0, 1) := by decide +kernel
theorem dL_law_702 : decode cL_law 702 = .ok (.ireturn, 1) := by decide +kernel
theorem dL_law_703 : decode cL_law 703 = .ok (.aload_n 1, 1) := by decide +kernel
theorem dL_law_704 : decode cL_law 704 = .ok (.aload_n 0, 1) := by decide +kernel
theorem dL_law_705 : decode cL_law 705 = .ok (.iload_n 3, 1) := by decide +kernel
theorem dL_law_706 : decode cL_law 706 = .ok (.iconst 1, 1) := by decide +kernel
theorem dL_law_707 : decode cL_law 707 = .ok (.iadd, 1) := by decide +kernel
theorem dL_law_708 : decode cL_law 708 = .ok (.iaload, 1) := by decide +kernel
theorem dL_law_709 : decode cL_law 709 = .ok (.invokevirtual 86, 3) := by decide +kernel
theorem dL_law_712 : decode cL_law 712 = .ok (.aload_n 2, 1) := by decide +kernel
theorem dL_law_713 : decode cL_law 713 = .ok (.aload_n 0, 1) := by decide +kernel
theorem dL_law_714 : decode cL_law 714 = .ok (.iload_n 3, 1) := by decide +kernel
theorem dL_law_715 : decode cL_law 715 = .ok (.iconst 1, 1) := by decide +kernel
theorem dL_law_716 : decode cL_law 716 = .ok (.iadd, 1) := by decide +kernel
theorem dL_law_717 : decode cL_law 717 = .ok (.iaload, 1) := by decide +kernel
theorem dL_law_718 : decode cL_law 718 = .ok (.invokevirtual 89, 3) := by decide +kernel
theorem dL_law_721 : decode cL_law 721 = .ok (.if_icmp .eq 395, 3) := by decide +kernel
theorem dL_law_724 : decode cL_law 724 = .ok (.iconst 0, 1) := by decide +kernel
theorem dL_law_725 : decode cL_law 725 = .ok (.ireturn, 1) := by decide +kernel
theorem dL_law_726 : decode cL_law 726 = .ok (.aload_n 1, 1) := by decide +kernel
theorem dL_law_727 : decode cL_law 727 = .ok (.aload_n 0, 1) := by decide +kernel
theorem dL_law_728 : decode cL_law 728 = .ok (.iload_n 3, 1) := by decide +kernel
theorem dL_law_729 : decode cL_law 729 = .ok (.iconst 1, 1) := by decide +kernel
theorem dL_law_730 : decode cL_law 730 = .ok (.iadd, 1) := by decide +kernel
theorem dL_law_731 : decode cL_law 731 = .ok (.iaload, 1) := by decide +kernel
theorem dL_law_732 : decode cL_law 732 = .ok (.aload_n 0, 1) := by decide +kernel
theorem dL_law_733 : decode cL_law 733 = .ok (.iload_n 3, 1) := by decide +kernel
theorem dL_law_734 : decode cL_law 734 = .ok (.iconst 2, 1) := by decide +kernel
theorem dL_law_735 : decode cL_law 735 = .ok (.iadd, 1) := by decide +kernel
theorem dL_law_736 : decode cL_law 736 = .ok (.iaload, 1) := by decide +kernel
theorem dL_law_737 : decode cL_law 737 = .ok (.aload_n 0, 1) := by decide +kernel
theorem dL_law_738 : decode cL_law 738 = .ok (.iload_n 3, 1) := by decide +kernel
theorem dL_law_739 : decode cL_law 739 = .ok (.iconst 3, 1) := by decide +kernel
theorem dL_law_740 : decode cL_law 740 = .ok (.iadd, 1) := by decide +kernel
theorem dL_law_741 : decode cL_law 741 = .ok (.iaload, 1) := by decide +kernel
theorem dL_law_742 : decode cL_law 742 = .ok (.invokevirtual 90, 3) := by decide +kernel
theorem dL_law_745 : decode cL_law 745 = .ok (.aload_n 2, 1) := by decide +kernel
theorem dL_law_746 : decode cL_law 746 = .ok (.aload_n 0, 1) := by decide +kernel
theorem dL_law_747 : decode cL_law 747 = .ok (.iload_n 3, 1) := by decide +kernel
theorem dL_law_748 : decode cL_law 748 = .ok (.iconst 1, 1) := by decide +kernel
theorem dL_law_749 : decode cL_law 749 = .ok (.iadd, 1) := by decide +kernel
theorem dL_law_750 : decode cL_law 750 = .ok (.iaload, 1) := by decide +kernel
theorem dL_law_751 : decode cL_law 751 = .ok (.aload_n 0, 1) := by decide +kernel
theorem dL_law_752 : decode cL_law 752 = .ok (.iload_n 3, 1) := by decide +kernel
theorem dL_law_753 : decode cL_law 753 = .ok (.iconst 2, 1) := by decide +kernel
theorem dL_law_754 : decode cL_law 754 = .ok (.iadd, 1) := by decide +kernel
theorem dL_law_755 : decode cL_law 755 = .ok (.iaload, 1) := by decide +kernel
theorem dL_law_756 : decode cL_law 756 = .ok (.aload_n 0, 1) := by decide +kernel
theorem dL_law_757 : decode cL_law 757 = .ok (.iload_n 3, 1) := by decide +kernel
theorem dL_law_758 : decode cL_law 758 = .ok (.iconst 3, 1) := by decide +kernel
theorem dL_law_759 : decode cL_law 759 = .ok (.iadd, 1) := by decide +kernel
theorem dL_law_760 : decode cL_law 760 = .ok (.iaload, 1) := by decide +kernel
theorem dL_law_761 : decode cL_law 761 = .ok (.invokevirtual 93, 3) := by decide +kernel
theorem dL_law_764 : decode cL_law 764 = .ok (.if_icmp .eq 352, 3) := by decide +kernel
theorem dL_law_767 : decode cL_law 767 = .ok (.iconst 0, 1) := by decide +kernel
theorem dL_law_768 : decode cL_law 768 = .ok (.ireturn, 1) := by decide +kernel
theorem dL_law_769 : decode cL_law 769 = .ok (.aload_n 1, 1) := by decide +kernel
theorem dL_law_770 : decode cL_law 770 = .ok (.aload_n 0, 1) := by decide +kernel
theorem dL_law_771 : decode cL_law 771 = .ok (.iload_n 3, 1) := by decide +kernel
theorem dL_law_772 : decode cL_law 772 = .ok (.iconst 1, 1) := by decide +kernel
theorem dL_law_773 : decode cL_law 773 = .ok (.iadd, 1) := by decide +kernel
theorem dL_law_774 : decode cL_law 774 = .ok (.iaload, 1) := by decide +kernel
theorem dL_law_775 : decode cL_law 775 = .ok (.invokevirtual 94, 3) := by decide +kernel
theorem dL_law_778 : decode cL_law 778 = .ok (.aload_n 2, 1) := by decide +kernel
theorem dL_law_779 : decode cL_law 779 = .ok (.aload_n 0, 1) := by decide +kernel
theorem dL_law_780 : decode cL_law 780 = .ok (.iload_n 3, 1) := by decide +kernel
theorem dL_law_781 : decode cL_law 781 = .ok (.iconst 1, 1) := by decide +kernel
theorem dL_law_782 : decode cL_law 782 = .ok (.iadd, 1) := by decide +kernel
theorem dL_law_783 : decode cL_law 783 = .ok (.iaload, 1) := by decide +kernel
theorem dL_law_784 : decode cL_law 784 = .ok (.invokevirtual 97, 3) := by decide +kernel
theorem dL_law_787 : decode cL_law 787 = .ok (.if_icmp .eq 329, 3) := by decide +kernel
theorem dL_law_790 : decode cL_law 790 = .ok (.iconst 0, 1) := by decide +kernel
theorem dL_law_791 : decode cL_law 791 = .ok (.ireturn, 1) := by decide +kernel
theorem dL_law_792 : decode cL_law 792 = .ok (.aload_n 1, 1) := by decide +kernel
theorem dL_law_793 : decode cL_law 793 = .ok (.aload_n 0, 1) := by decide +kernel
theorem dL_law_794 : decode cL_law 794 = .ok (.iload_n 3, 1) := by decide +kernel
theorem dL_law_795 : decode cL_law 795 = .ok (.iconst 1, 1) := by decide +kernel
theorem dL_law_796 : decode cL_law 796 = .ok (.iadd, 1) := by decide +kernel
theorem dL_law_797 : decode cL_law 797 = .ok (.iaload, 1) := by decide +kernel
theorem dL_law_798 : decode cL_law 798 = .ok (.aload_n 0, 1) := by decide +kernel
theorem dL_law_799 : decode cL_law 799 = .ok (.iload_n 3, 1) := by decide +kernel
theorem dL_law_800 : decode cL_law 800 = .ok (.iconst 2, 1) := by decide +kernel
theorem dL_law_801 : decode cL_law 801 = .ok (.iadd, 1) := by decide +kernel
theorem dL_law_802 : decode cL_law 802 = .ok (.iaload, 1) := by decide +kernel
theorem dL_law_803 : decode cL_law 803 = .ok (.invokevirtual 98, 3) := by decide +kernel
theorem dL_law_806 : decode cL_law 806 = .ok (.aload_n 2, 1) := by decide +kernel
theorem dL_law_807 : decode cL_law 807 = .ok (.aload_n 0, 1) := by decide +kernel
theorem dL_law_808 : decode cL_law 808 = .ok (.iload_n 3, 1) := by decide +kernel
theorem dL_law_809 : decode cL_law 809 = .ok (.iconst 1, 1) := by decide +kernel
theorem dL_law_810 : decode cL_law 810 = .ok (.iadd, 1) := by decide +kernel
theorem dL_law_811 : decode cL_law 811 = .ok (.iaload, 1) := by decide +kernel
theorem dL_law_812 : decode cL_law 812 = .ok (.aload_n 0, 1) := by decide +kernel
theorem dL_law_813 : decode cL_law 813 = .ok (.iload_n 3, 1) := by decide +kernel
theorem dL_law_814 : decode cL_law 814 = .ok (.iconst 2, 1) := by decide +kernel
theorem dL_law_815 : decode cL_law 815 = .ok (.iadd, 1) := by decide +kernel
theorem dL_law_816 : decode cL_law 816 = .ok (.iaload, 1) := by decide +kernel
theorem dL_law_817 : decode cL_law 817 = .ok (.invokevirtual 101, 3) := by decide +kernel
theorem dL_law_820 : decode cL_law 820 = .ok (.if_icmp .eq 296, 3) := by decide +kernel
theorem dL_law_823 : decode cL_law 823 = .ok (.iconst 0, 1) := by decide +kernel
theorem dL_law_824 : decode cL_law 824 = .ok (.ireturn, 1) := by decide +kernel
theorem dL_law_825 : decode cL_law 825 = .ok (.aload_n 1, 1) := by decide +kernel
theorem dL_law_826 : decode cL_law 826 = .ok (.aload_n 0, 1) := by decide +kernel
theorem dL_law_827 : decode cL_law 827 = .ok (.iload_n 3, 1) := by decide +kernel
theorem dL_law_828 : decode cL_law 828 = .ok (.iconst 1, 1) := by decide +kernel
theorem dL_law_829 : decode cL_law 829 = .ok (.iadd, 1) := by decide +kernel
theorem dL_law_830 : decode cL_law 830 = .ok (.iaload, 1) := by decide +kernel
theorem dL_law_831 : decode cL_law 831 = .ok (.aload_n 0, 1) := by decide +kernel
theorem dL_law_832 : decode cL_law 832 = .ok (.iload_n 3, 1) := by decide +kernel
theorem dL_law_833 : decode cL_law 833 = .ok (.iconst 2, 1) := by decide +kernel
theorem dL_law_834 : decode cL_law 834 = .ok (.iadd, 1) := by decide +kernel
theorem dL_law_835 : decode cL_law 835 = .ok (.iaload, 1) := by decide +kernel
theorem dL_law_836 : decode cL_law 836 = .ok (.invokevirtual 102, 3) := by decide +kernel
theorem dL_law_839 : decode cL_law 839 = .ok (.aload_n 2, 1) := by decide +kernel
theorem dL_law_840 : decode cL_law 840 = .ok (.aload_n 0, 1) := by decide +kernel
theorem dL_law_841 : decode cL_law 841 = .ok (.iload_n 3, 1) := by decide +kernel
theorem dL_law_842 : decode cL_law 842 = .ok (.iconst 1, 1) := by decide +kernel
theorem dL_law_843 : decode cL_law 843 = .ok (.iadd, 1) := by decide +kernel
theorem dL_law_844 : decode cL_law 844 = .ok (.iaload, 1) := by decide +kernel
theorem dL_law_845 : decode cL_law 845 = .ok (.aload_n 0, 1) := by decide +kernel
theorem dL_law_846 : decode cL_law 846 = .ok (.iload_n 3, 1) := by decide +kernel
theorem dL_law_847 : decode cL_law 847 = .ok (.iconst 2, 1) := by decide +kernel
theorem dL_law_848 : decode cL_law 848 = .ok (.iadd, 1) := by decide +kernel
theorem dL_law_849 : decode cL_law 849 = .ok (.iaload, 1) := by decide +kernel
theorem dL_law_850 : decode cL_law 850 = .ok (.invokevirtual 105, 3) := by decide +kernel
theorem dL_law_853 : decode cL_law 853 = .ok (.if_icmp .eq 263, 3) := by decide +kernel
theorem dL_law_856 : decode cL_law 856 = .ok (.iconst 0, 1) := by decide +kernel
theorem dL_law_857 : decode cL_law 857 = .ok (.ireturn, 1) := by decide +kernel
theorem dL_law_858 : decode cL_law 858 = .ok (.aload_n 1, 1) := by decide +kernel
theorem dL_law_859 : decode cL_law 859 = .ok (.aload_n 0, 1) := by decide +kernel
theorem dL_law_860 : decode cL_law 860 = .ok (.iload_n 3, 1) := by decide +kernel
theorem dL_law_861 : decode cL_law 861 = .ok (.iconst 1, 1) := by decide +kernel
theorem dL_law_862 : decode cL_law 862 = .ok (.iadd, 1) := by decide +kernel
theorem dL_law_863 : decode cL_law 863 = .ok (.iaload, 1) := by decide +kernel
theorem dL_law_864 : decode cL_law 864 = .ok (.aload_n 0, 1) := by decide +kernel
theorem dL_law_865 : decode cL_law 865 = .ok (.iload_n 3, 1) := by decide +kernel
theorem dL_law_866 : decode cL_law 866 = .ok (.iconst 2, 1) := by decide +kernel
theorem dL_law_867 : decode cL_law 867 = .ok (.iadd, 1) := by decide +kernel
theorem dL_law_868 : decode cL_law 868 = .ok (.iaload, 1) := by decide +kernel
theorem dL_law_869 : decode cL_law 869 = .ok (.aload_n 0, 1) := by decide +kernel
theorem dL_law_870 : decode cL_law 870 = .ok (.iload_n 3, 1) := by decide +kernel
theorem dL_law_871 : decode cL_law 871 = .ok (.iconst 3, 1) := by decide +kernel
theorem dL_law_872 : decode cL_law 872 = .ok (.iadd, 1) := by decide +kernel
theorem dL_law_873 : decode cL_law 873 = .ok (.iaload, 1) := by decide +kernel
theorem dL_law_874 : decode cL_law 874 = .ok (.aload_n 0, 1) := by decide +kernel
theorem dL_law_875 : decode cL_law 875 = .ok (.iload_n 3, 1) := by decide +kernel
theorem dL_law_876 : decode cL_law 876 = .ok (.iconst 4, 1) := by decide +kernel
theorem dL_law_877 : decode cL_law 877 = .ok (.iadd, 1) := by decide +kernel
theorem dL_law_878 : decode cL_law 878 = .ok (.iaload, 1) := by decide +kernel
theorem dL_law_879 : decode cL_law 879 = .ok (.invokevirtual 106, 3) := by decide +kernel
theorem dL_law_882 : decode cL_law 882 = .ok (.aload_n 2, 1) := by decide +kernel
theorem dL_law_883 : decode cL_law 883 = .ok (.aload_n 0, 1) := by decide +kernel
theorem dL_law_884 : decode cL_law 884 = .ok (.iload_n 3, 1) := by decide +kernel
theorem dL_law_885 : decode cL_law 885 = .ok (.iconst 1, 1) := by decide +kernel
theorem dL_law_886 : decode cL_law 886 = .ok (.iadd, 1) := by decide +kernel
theorem dL_law_887 : decode cL_law 887 = .ok (.iaload, 1) := by decide +kernel
theorem dL_law_888 : decode cL_law 888 = .ok (.aload_n 0, 1) := by decide +kernel
theorem dL_law_889 : decode cL_law 889 = .ok (.iload_n 3, 1) := by decide +kernel
theorem dL_law_890 : decode cL_law 890 = .ok (.iconst 2, 1) := by decide +kernel
theorem dL_law_891 : decode cL_law 891 = .ok (.iadd, 1) := by decide +kernel
theorem dL_law_892 : decode cL_law 892 = .ok (.iaload, 1) := by decide +kernel
theorem dL_law_893 : decode cL_law 893 = .ok (.aload_n 0, 1) := by decide +kernel
theorem dL_law_894 : decode cL_law 894 = .ok (.iload_n 3, 1) := by decide +kernel
theorem dL_law_895 : decode cL_law 895 = .ok (.iconst 3, 1) := by decide +kernel
theorem dL_law_896 : decode cL_law 896 = .ok (.iadd, 1) := by decide +kernel
theorem dL_law_897 : decode cL_law 897 = .ok (.iaload, 1) := by decide +kernel
theorem dL_law_898 : decode cL_law 898 = .ok (.aload_n 0, 1) := by decide +kernel
theorem dL_law_899 : decode cL_law 899 = .ok (.iload_n 3, 1) := by decide +kernel
theorem dL_law_900 : decode cL_law 900 = .ok (.iconst 4, 1) := by decide +kernel
theorem dL_law_901 : decode cL_law 901 = .ok (.iadd, 1) := by decide +kernel
theorem dL_law_902 : decode cL_law 902 = .ok (.iaload, 1) := by decide +kernel
theorem dL_law_903 : decode cL_law 903 = .ok (.invokevirtual 110, 3) := by decide +kernel
theorem dL_law_906 : decode cL_law 906 = .ok (.if_icmp .eq 210, 3) := by decide +kernel
theorem dL_law_909 : decode cL_law 909 = .ok (.iconst 0, 1) := by decide +kernel
theorem dL_law_910 : decode cL_law 910 = .ok (.ireturn, 1) := by decide +kernel
theorem dL_law_911 : decode cL_law 911 = .ok (.aload_n 1, 1) := by decide +kernel
theorem dL_law_912 : decode cL_law 912 = .ok (.aload_n 0, 1) := by decide +kernel
theorem dL_law_913 : decode cL_law 913 = .ok (.iload_n 3, 1) := by decide +kernel
theorem dL_law_914 : decode cL_law 914 = .ok (.iconst 1, 1) := by decide +kernel
theorem dL_law_915 : decode cL_law 915 = .ok (.iadd, 1) := by decide +kernel
theorem dL_law_916 : decode cL_law 916 = .ok (.iaload, 1) := by decide +kernel
theorem dL_law_917 : decode cL_law 917 = .ok (.aload_n 0, 1) := by decide +kernel
theorem dL_law_918 : decode cL_law 918 = .ok (.iload_n 3, 1) := by decide +kernel
theorem dL_law_919 : decode cL_law 919 = .ok (.iconst 2, 1) := by decide +kernel
theorem dL_law_920 : decode cL_law 920 = .ok (.iadd, 1) := by decide +kernel
theorem dL_law_921 : decode cL_law 921 = .ok (.iaload, 1) := by decide +kernel
theorem dL_law_922 : decode cL_law 922 = .ok (.aload_n 0, 1) := by decide +kernel
theorem dL_law_923 : decode cL_law 923 = .ok (.iload_n 3, 1) := by decide +kernel
theorem dL_law_924 : decode cL_law 924 = .ok (.iconst 3, 1) := by decide +kernel
theorem dL_law_925 : decode cL_law 925 = .ok (.iadd, 1) := by decide +kernel
theorem dL_law_926 : decode cL_law 926 = .ok (.iaload, 1) := by decide +kernel
theorem dL_law_927 : decode cL_law 927 = .ok (.invokevirtual 111, 3) := by decide +kernel
theorem dL_law_930 : decode cL_law 930 = .ok (.aload_n 2, 1) := by decide +kernel
theorem dL_law_931 : decode cL_law 931 = .ok (.aload_n 0, 1) := by decide +kernel
theorem dL_law_932 : decode cL_law 932 = .ok (.iload_n 3, 1) := by decide +kernel
theorem dL_law_933 : decode cL_law 933 = .ok (.iconst 1, 1) := by decide +kernel
theorem dL_law_934 : decode cL_law 934 = .ok (.iadd, 1) := by decide +kernel
theorem dL_law_935 : decode cL_law 935 = .ok (.iaload, 1) := by decide +kernel
theorem dL_law_936 : decode cL_law 936 = .ok (.aload_n 0, 1) := by decide +kernel
theorem dL_law_937 : decode cL_law 937 = .ok (.iload_n 3, 1) := by decide +kernel
theorem dL_law_938 : decode cL_law 938 = .ok (.iconst 2, 1) := by decide +kernel
theorem dL_law_939 : decode cL_law 939 = .ok (.iadd, 1) := by decide +kernel
theorem dL_law_940 : decode cL_law 940 = .ok (.iaload, 1) := by decide +kernel
theorem dL_law_941 : decode cL_law 941 = .ok (.aload_n 0, 1) := by decide +kernel
theorem dL_law_942 : decode cL_law 942 = .ok (.iload_n 3, 1) := by decide +kernel
theorem dL_law_943 : decode cL_law 943 = .ok (.iconst 3, 1) := by decide +kernel
theorem dL_law_944 : decode cL_law 944 = .ok (.iadd, 1) := by decide +kernel
theorem dL_law_945 : decode cL_law 945 = .ok (.iaload, 1) := by decide +kernel
theorem dL_law_946 : decode cL_law 946 = .ok (.invokevirtual 114, 3) := by decide +kernel
theorem dL_law_949 : decode cL_law 949 = .ok (.if_icmp .eq 167, 3) := by decide +kernel
theorem dL_law_952 : decode cL_law 952 = .ok (.iconst 0, 1) := by decide +kernel
theorem dL_law_953 : decode cL_law 953 = .ok (.ireturn, 1) := by decide +kernel
theorem dL_law_954 : decode cL_law 954 = .ok (.aload_n 1, 1) := by decide +kernel
theorem dL_law_955 : decode cL_law 955 = .ok (.aload_n 0, 1) := by decide +kernel
theorem dL_law_956 : decode cL_law 956 = .ok (.iload_n 3, 1) := by decide +kernel
theorem dL_law_957 : decode cL_law 957 = .ok (.iconst 1, 1) := by decide +kernel
theorem dL_law_958 : decode cL_law 958 = .ok (.iadd, 1) := by decide +kernel
theorem dL_law_959 : decode cL_law 959 = .ok (.iaload, 1) := by decide +kernel
theorem dL_law_960 : decode cL_law 960 = .ok (.aload_n 0, 1) := by decide +kernel
theorem dL_law_961 : decode cL_law 961 = .ok (.iload_n 3, 1) := by decide +kernel
theorem dL_law_962 : decode cL_law 962 = .ok (.iconst 2, 1) := by decide +kernel
theorem dL_law_963 : decode cL_law 963 = .ok (.iadd, 1) := by decide +kernel
theorem dL_law_964 : decode cL_law 964 = .ok (.iaload, 1) := by decide +kernel
theorem dL_law_965 : decode cL_law 965 = .ok (.invokevirtual 115, 3) := by decide +kernel
theorem dL_law_968 : decode cL_law 968 = .ok (.aload_n 2, 1) := by decide +kernel
theorem dL_law_969 : decode cL_law 969 = .ok (.aload_n 0, 1) := by decide +kernel
theorem dL_law_970 : decode cL_law 970 = .ok (.iload_n 3, 1) := by decide +kernel
theorem dL_law_971 : decode cL_law 971 = .ok (.iconst 1, 1) := by decide +kernel
theorem dL_law_972 : decode cL_law 972 = .ok (.iadd, 1) := by decide +kernel
theorem dL_law_973 : decode cL_law 973 = .ok (.iaload, 1) := by decide +kernel
theorem dL_law_974 : decode cL_law 974 = .ok (.aload_n 0, 1) := by decide +kernel
theorem dL_law_975 : decode cL_law 975 = .ok (.iload_n 3, 1) := by decide +kernel
theorem dL_law_976 : decode cL_law 976 = .ok (.iconst 2, 1) := by decide +kernel
theorem dL_law_977 : decode cL_law 977 = .ok (.iadd, 1) := by decide +kernel
theorem dL_law_978 : decode cL_law 978 = .ok (.iaload, 1) := by decide +kernel
theorem dL_law_979 : decode cL_law 979 = .ok (.invokevirtual 118, 3) := by decide +kernel
theorem dL_law_982 : decode cL_law 982 = .ok (.if_icmp .eq 134, 3) := by decide +kernel
theorem dL_law_985 : decode cL_law 985 = .ok (.iconst 0, 1) := by decide +kernel
theorem dL_law_986 : decode cL_law 986 = .ok (.ireturn, 1) := by decide +kernel
theorem dL_law_987 : decode cL_law 987 = .ok (.aload_n 1, 1) := by decide +kernel
theorem dL_law_988 : decode cL_law 988 = .ok (.aload_n 0, 1) := by decide +kernel
theorem dL_law_989 : decode cL_law 989 = .ok (.iload_n 3, 1) := by decide +kernel
theorem dL_law_990 : decode cL_law 990 = .ok (.iconst 1, 1) := by decide +kernel
theorem dL_law_991 : decode cL_law 991 = .ok (.iadd, 1) := by decide +kernel
theorem dL_law_992 : decode cL_law 992 = .ok (.iaload, 1) := by decide +kernel
theorem dL_law_993 : decode cL_law 993 = .ok (.aload_n 0, 1) := by decide +kernel
theorem dL_law_994 : decode cL_law 994 = .ok (.iload_n 3, 1) := by decide +kernel
theorem dL_law_995 : decode cL_law 995 = .ok (.iconst 2, 1) := by decide +kernel
theorem dL_law_996 : decode cL_law 996 = .ok (.iadd, 1) := by decide +kernel
theorem dL_law_997 : decode cL_law 997 = .ok (.iaload, 1) := by decide +kernel
theorem dL_law_998 : decode cL_law 998 = .ok (.aload_n 0, 1) := by decide +kernel
theorem dL_law_999 : decode cL_law 999 = .ok (.iload_n 3, 1) := by decide +kernel
theorem dL_law_1000 : decode cL_law 1000 = .ok (.iconst 3, 1) := by decide +kernel
theorem dL_law_1001 : decode cL_law 1001 = .ok (.iadd, 1) := by decide +kernel
theorem dL_law_1002 : decode cL_law 1002 = .ok (.iaload, 1) := by decide +kernel
theorem dL_law_1003 : decode cL_law 1003 = .ok (.invokevirtual 119, 3) := by decide +kernel
theorem dL_law_1006 : decode cL_law 1006 = .ok (.aload_n 2, 1) := by decide +kernel
theorem dL_law_1007 : decode cL_law 1007 = .ok (.aload_n 0, 1) := by decide +kernel
theorem dL_law_1008 : decode cL_law 1008 = .ok (.iload_n 3, 1) := by decide +kernel
theorem dL_law_1009 : decode cL_law 1009 = .ok (.iconst 1, 1) := by decide +kernel
theorem dL_law_1010 : decode cL_law 1010 = .ok (.iadd, 1) := by decide +kernel
theorem dL_law_1011 : decode cL_law 1011 = .ok (.iaload, 1) := by decide +kernel
theorem dL_law_1012 : decode cL_law 1012 = .ok (.aload_n 0, 1) := by decide +kernel
theorem dL_law_1013 : decode cL_law 1013 = .ok (.iload_n 3, 1) := by decide +kernel
theorem dL_law_1014 : decode cL_law 1014 = .ok (.iconst 2, 1) := by decide +kernel
theorem dL_law_1015 : decode cL_law 1015 = .ok (.iadd, 1) := by decide +kernel
theorem dL_law_1016 : decode cL_law 1016 = .ok (.iaload, 1) := by decide +kernel
theorem dL_law_1017 : decode cL_law 1017 = .ok (.aload_n 0, 1) := by decide +kernel
theorem dL_law_1018 : decode cL_law 1018 = .ok (.iload_n 3, 1) := by decide +kernel
theorem dL_law_1019 : decode cL_law 1019 = .ok (.iconst 3, 1) := by decide +kernel
theorem dL_law_1020 : decode cL_law 1020 = .ok (.iadd, 1) := by decide +kernel
theorem dL_law_1021 : decode cL_law 1021 = .ok (.iaload, 1) := by decide +kernel
theorem dL_law_1022 : decode cL_law 1022 = .ok (.invokevirtual 122, 3) := by decide +kernel
theorem dL_law_1025 : decode cL_law 1025 = .ok (.if_icmp .eq 91, 3) := by decide +kernel
theorem dL_law_1028 : decode cL_law 1028 = .ok (.iconst 0, 1) := by decide +kernel
theorem dL_law_1029 : decode cL_law 1029 = .ok (.ireturn, 1) := by decide +kernel
theorem dL_law_1030 : decode cL_law 1030 = .ok (.aload_n 1, 1) := by decide +kernel
theorem dL_law_1031 : decode cL_law 1031 = .ok (.aload_n 0, 1) := by decide +kernel
theorem dL_law_1032 : decode cL_law 1032 = .ok (.iload_n 3, 1) := by decide +kernel
theorem dL_law_1033 : decode cL_law 1033 = .ok (.iconst 1, 1) := by decide +kernel
theorem dL_law_1034 : decode cL_law 1034 = .ok (.iadd, 1) := by decide +kernel
theorem dL_law_1035 : decode cL_law 1035 = .ok (.iaload, 1) := by decide +kernel
theorem dL_law_1036 : decode cL_law 1036 = .ok (.aload_n 0, 1) := by decide +kernel
theorem dL_law_1037 : decode cL_law 1037 = .ok (.iload_n 3, 1) := by decide +kernel
theorem dL_law_1038 : decode cL_law 1038 = .ok (.iconst 2, 1) := by decide +kernel
theorem dL_law_1039 : decode cL_law 1039 = .ok (.iadd, 1) := by decide +kernel
theorem dL_law_1040 : decode cL_law 1040 = .ok (.iaload, 1) := by decide +kernel
theorem dL_law_1041 : decode cL_law 1041 = .ok (.invokevirtual 123, 3) := by decide +kernel
theorem dL_law_1044 : decode cL_law 1044 = .ok (.aload_n 2, 1) := by decide +kernel
theorem dL_law_1045 : decode cL_law 1045 = .ok (.aload_n 0, 1) := by decide +kernel
theorem dL_law_1046 : decode cL_law 1046 = .ok (.iload_n 3, 1) := by decide +kernel
theorem dL_law_1047 : decode cL_law 1047 = .ok (.iconst 1, 1) := by decide +kernel
theorem dL_law_1048 : decode cL_law 1048 = .ok (.iadd, 1) := by decide +kernel
theorem dL_law_1049 : decode cL_law 1049 = .ok (.iaload, 1) := by decide +kernel
theorem dL_law_1050 : decode cL_law 1050 = .ok (.aload_n 0, 1) := by decide +kernel
theorem dL_law_1051 : decode cL_law 1051 = .ok (.iload_n 3, 1) := by decide +kernel
theorem dL_law_1052 : decode cL_law 1052 = .ok (.iconst 2, 1) := by decide +kernel
theorem dL_law_1053 : decode cL_law 1053 = .ok (.iadd, 1) := by decide +kernel
theorem dL_law_1054 : decode cL_law 1054 = .ok (.iaload, 1) := by decide +kernel
theorem dL_law_1055 : decode cL_law 1055 = .ok (.invokevirtual 127, 3) := by decide +kernel
theorem dL_law_1058 : decode cL_law 1058 = .ok (.lcmp, 1) := by decide +kernel
theorem dL_law_1059 : decode cL_law 1059 = .ok (.ifCond .eq 57, 3) := by decide +kernel
theorem dL_law_1062 : decode cL_law 1062 = .ok (.iconst 0, 1) := by decide +kernel
theorem dL_law_1063 : decode cL_law 1063 = .ok (.ireturn, 1) := by decide +kernel
theorem dL_law_1064 : decode cL_law 1064 = .ok (.aload_n 1, 1) := by decide +kernel
theorem dL_law_1065 : decode cL_law 1065 = .ok (.invokevirtual 128, 3) := by decide +kernel
theorem dL_law_1068 : decode cL_law 1068 = .ok (.aload_n 2, 1) := by decide +kernel
theorem dL_law_1069 : decode cL_law 1069 = .ok (.invokevirtual 131, 3) := by decide +kernel
theorem dL_law_1072 : decode cL_law 1072 = .ok (.if_icmp .eq 44, 3) := by decide +kernel
theorem dL_law_1075 : decode cL_law 1075 = .ok (.iconst 0, 1) := by decide +kernel
theorem dL_law_1076 : decode cL_law 1076 = .ok (.ireturn, 1) := by decide +kernel
theorem dL_law_1077 : decode cL_law 1077 = .ok (.aload_n 1, 1) := by decide +kernel
theorem dL_law_1078 : decode cL_law 1078 = .ok (.invokevirtual 132, 3) := by decide +kernel
theorem dL_law_1081 : decode cL_law 1081 = .ok (.aload_n 2, 1) := by decide +kernel
theorem dL_law_1082 : decode cL_law 1082 = .ok (.invokevirtual 135, 3) := by decide +kernel
theorem dL_law_1085 : decode cL_law 1085 = .ok (.if_icmp .eq 31, 3) := by decide +kernel
theorem dL_law_1088 : decode cL_law 1088 = .ok (.iconst 0, 1) := by decide +kernel
theorem dL_law_1089 : decode cL_law 1089 = .ok (.ireturn, 1) := by decide +kernel
theorem dL_law_1090 : decode cL_law 1090 = .ok (.aload_n 1, 1) := by decide +kernel
theorem dL_law_1091 : decode cL_law 1091 = .ok (.invokevirtual 136, 3) := by decide +kernel
theorem dL_law_1094 : decode cL_law 1094 = .ok (.aload_n 2, 1) := by decide +kernel
theorem dL_law_1095 : decode cL_law 1095 = .ok (.invokevirtual 139, 3) := by decide +kernel
theorem dL_law_1098 : decode cL_law 1098 = .ok (.if_icmp .eq 18, 3) := by decide +kernel
theorem dL_law_1101 : decode cL_law 1101 = .ok (.iconst 0, 1) := by decide +kernel
theorem dL_law_1102 : decode cL_law 1102 = .ok (.ireturn, 1) := by decide +kernel
theorem dL_law_1103 : decode cL_law 1103 = .ok (.aload_n 1, 1) := by decide +kernel
theorem dL_law_1104 : decode cL_law 1104 = .ok (.invokevirtual 140, 3) := by decide +kernel
theorem dL_law_1107 : decode cL_law 1107 = .ok (.aload_n 2, 1) := by decide +kernel
theorem dL_law_1108 : decode cL_law 1108 = .ok (.invokevirtual 143, 3) := by decide +kernel
theorem dL_law_1111 : decode cL_law 1111 = .ok (.if_icmp .eq 5, 3) := by decide +kernel
theorem dL_law_1114 : decode cL_law 1114 = .ok (.iconst 0, 1) := by decide +kernel
theorem dL_law_1115 : decode cL_law 1115 = .ok (.ireturn, 1) := by decide +kernel
theorem dL_law_1116 : decode cL_law 1116 = .ok (.iinc 3 6, 3) := by decide +kernel
theorem dL_law_1119 : decode cL_law 1119 = .ok (.goto (-1101), 3) := by decide +kernel
theorem dL_law_1122 : decode cL_law 1122 = .ok (.iconst 1, 1) := by decide +kernel
theorem dL_law_1123 : decode cL_law 1123 = .ok (.ireturn, 1) := by decide +kernel

