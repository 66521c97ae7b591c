theorem dX9_isAbove_53 : decode cX9_isAbove 53 = .ok (.goto 4, 3) := by decide +kernel
theorem dX9_isAbove_56 : decode cX9_isAbove 56 = .ok (.iconst 0, 1) := by decide +kernel
theorem dX9_isAbove_57 : decode cX9_isAbove 57 = .ok (.ireturn, 1) := by decide +kernel
set_option maxRecDepth 20000 in
theorem ggX9_aboveOf_X9_isAbove : GoodIn wsX9_aboveOf wsX9_isAbove := goodIn_r _ [6, 7, 8, 9, 10, 5, 11, 12, 13, 14, 15, 16, 17, 18, 19, 20, 21, 22, 23, 24, 25, 26, 27, 28, 29, 30, 31, 32, 33, 34, 35, 36, 37, 38, 39, 40, 41, 42, 43, 44, 45, 46, 47, 48, 49, 50, 51] (by decide +kernel) (by decide +kernel)
set_option maxRecDepth 20000 in
theorem gX9_aboveOf_X9_isAbove : GoodIn wsX9_aboveOf (wsV RX9 129 RX9 yX9_isAbove wsX9_isAbove) := goodIn_app (goodIn_of _ (by decide +kernel)) ggX9_aboveOf_X9_isAbove
theorem dX9_aboveOf_0 : decode cX9_aboveOf 0 = .ok (.iconst 0, 1) := by decide +kernel
theorem dX9_aboveOf_1 : decode cX9_aboveOf 1 = .ok (.istore_n 2, 1) := by decide +kernel
theorem dX9_aboveOf_2 : decode cX9_aboveOf 2 = .ok (.iconst 0, 1) := by decide +kernel
theorem dX9_aboveOf_3 : decode cX9_aboveOf 3 = .ok (.istore_n 3, 1) := by decide +kernel
theorem dX9_aboveOf_4 : decode cX9_aboveOf 4 = .ok (.iload_n 3, 1) := by decide +kernel
theorem dX9_aboveOf_5 : decode cX9_aboveOf 5 = .ok (.aload_n 0, 1) := by decide +kernel
theorem dX9_aboveOf_6 : decode cX9_aboveOf 6 = .ok (.getfield 77, 3) := by decide +kernel
theorem dX9_aboveOf_9 : decode cX9_aboveOf 9 = .ok (.if_icmp .ge 33, 3) := by decide +kernel
theorem dX9_aboveOf_12 : decode cX9_aboveOf 12 = .ok (.iload_n 2, 1) := by decide +kernel
theorem dX9_aboveOf_13 : decode cX9_aboveOf 13 = .ok (.iload_n 3, 1) := by decide +kernel
theorem dX9_aboveOf_14 : decode cX9_aboveOf 14 = .ok (.iload_n 1, 1) := by decide +kernel
theorem dX9_aboveOf_15 : decode cX9_aboveOf 15 = .ok (.if_icmp .eq 18, 3) := by decide +kernel
theorem dX9_aboveOf_18 : decode cX9_aboveOf 18 = .ok (.aload_n 0, 1) := by decide +kernel
theorem dX9_aboveOf_19 : decode cX9_aboveOf 19 = .ok (.iload_n 1, 1) := by decide +kernel
theorem dX9_aboveOf_20 : decode cX9_aboveOf 20 = .ok (.iload_n 3, 1) := by decide +kernel
theorem dX9_aboveOf_21 : decode cX9_aboveOf 21 = .ok (.invokevirtual 129, 3) := by decide +kernel
theorem dX9_aboveOf_24 : decode cX9_aboveOf 24 = .ok (.ifCond .eq 9, 3) := by decide +kernel
theorem dX9_aboveOf_27 : decode cX9_aboveOf 27 = .ok (.iconst 1, 1) := by decide +kernel
theorem dX9_aboveOf_28 : decode cX9_aboveOf 28 = .ok (.iload_n 3, 1) := by decide +kernel
theorem dX9_aboveOf_29 : decode cX9_aboveOf 29 = .ok (.ishl, 1) := by decide +kernel
theorem dX9_aboveOf_30 : decode cX9_aboveOf 30 = .ok (.goto 4, 3) := by decide +kernel
theorem dX9_aboveOf_33 : decode cX9_aboveOf 33 = .ok (.iconst 0, 1) := by decide +kernel
theorem dX9_aboveOf_34 : decode cX9_aboveOf 34 = .ok (.ior, 1) := by decide +kernel
theorem dX9_aboveOf_35 : decode cX9_aboveOf 35 = .ok (.istore_n 2, 1) := by decide +kernel
theorem dX9_aboveOf_36 : decode cX9_aboveOf 36 = .ok (.iinc 3 1, 3) := by decide +kernel
theorem dX9_aboveOf_39 : decode cX9_aboveOf 39 = .ok (.goto (-35), 3) := by decide +kernel
theorem dX9_aboveOf_42 : decode cX9_aboveOf 42 = .ok (.iload_n 2, 1) := by decide +kernel
theorem dX9_aboveOf_43 : decode cX9_aboveOf 43 = .ok (.ireturn, 1) := by decide +kernel
set_option maxRecDepth 20000 in
theorem ggX9_ruleOf_X9_isRule : GoodIn wsX9_ruleOf wsX9_isRule := goodIn_r _ [12, 13, 14, 15, 11, 16, 28, 29, 30, 31, 32, 33, 34, 35, 36, 37, 38, 39, 40, 41, 42, 43, 44, 45, 46, 47, 48, 49, 50, 51, 52, 53, 54, 55, 56, 57, 58, 59, 60, 61, 62, 63, 64, 65, 66, 67] (by decide +kernel) (by decide +kernel)
set_option maxRecDepth 20000 in
theorem gX9_ruleOf_X9_isRule : GoodIn wsX9_ruleOf (wsV RX9 119 RX9 yX9_isRule wsX9_isRule) := goodIn_app (goodIn_of _ (by decide +kernel)) ggX9_ruleOf_X9_isRule
set_option maxRecDepth 20000 in
theorem ggX9_ruleOf_X9_aboveOf : GoodIn wsX9_ruleOf wsX9_aboveOf := goodIn_r _ [20, 13, 21, 22, 23, 11, 24, 7, 5, 25, 26, 27, 28, 29, 30, 31, 32, 33, 34, 35, 36, 37, 38, 39, 40, 41, 42, 43, 44, 45, 46, 47, 48, 49, 50, 51, 52, 53, 54, 55, 56, 57, 58, 59, 60, 61, 62, 63, 64, 65, 66, 67] (by decide +kernel) (by decide +kernel)
set_option maxRecDepth 20000 in
theorem gX9_ruleOf_X9_aboveOf : GoodIn wsX9_ruleOf (wsV RX9 132 RX9 yX9_aboveOf wsX9_aboveOf) := goodIn_app (goodIn_of _ (by decide +kernel)) ggX9_ruleOf_X9_aboveOf
theorem dX9_ruleOf_0 : decode cX9_ruleOf 0 = .ok (.aload_n 0, 1) := by decide +kernel
theorem dX9_ruleOf_1 : decode cX9_ruleOf 1 = .ok (.iload_n 1, 1) := by decide +kernel
theorem dX9_ruleOf_2 : decode cX9_ruleOf 2 = .ok (.invokevirtual 119, 3) := by decide +kernel
theorem dX9_ruleOf_5 : decode cX9_ruleOf 5 = .ok (.ifCond .ne 5, 3) := by decide +kernel
theorem dX9_ruleOf_8 : decode cX9_ruleOf 8 = .ok (.iconst (-1), 1) := by decide +kernel
theorem dX9_ruleOf_9 : decode cX9_ruleOf 9 = .ok (.ireturn, 1) := by decide +kernel
theorem dX9_ruleOf_10 : decode cX9_ruleOf 10 = .ok (.iload_n 2, 1) := by decide +kernel
theorem dX9_ruleOf_11 : decode cX9_ruleOf 11 = .ok (.tableswitch 100 0 7 #[45, 52, 59, 66, 73, 80, 87, 94], 45) := by decide +kernel
theorem dX9_ruleOf_56 : decode cX9_ruleOf 56 = .ok (.aload_n 0, 1) := by decide +kernel
theorem dX9_ruleOf_57 : decode cX9_ruleOf 57 = .ok (.getfield 7, 3) := by decide +kernel
theorem dX9_ruleOf_60 : decode cX9_ruleOf 60 = .ok (.iload_n 1, 1) := by decide +kernel
theorem dX9_ruleOf_61 : decode cX9_ruleOf 61 = .ok (.iaload, 1) := by decide +kernel
theorem dX9_ruleOf_62 : decode cX9_ruleOf 62 = .ok (.ireturn, 1) := by decide +kernel
theorem dX9_ruleOf_63 : decode cX9_ruleOf 63 = .ok (.aload_n 0, 1) := by decide +kernel
theorem dX9_ruleOf_64 : decode cX9_ruleOf 64 = .ok (.getfield 13, 3) := by decide +kernel
theorem dX9_ruleOf_67 : decode cX9_ruleOf 67 = .ok (.iload_n 1, 1) := by decide +kernel
theorem dX9_ruleOf_68 : decode cX9_ruleOf 68 = .ok (.iaload, 1) := by decide +kernel
theorem dX9_ruleOf_69 : decode cX9_ruleOf 69 = .ok (.ireturn, 1) := by decide +kernel
theorem dX9_ruleOf_70 : decode cX9_ruleOf 70 = .ok (.aload_n 0, 1) := by decide +kernel
theorem dX9_ruleOf_71 : decode cX9_ruleOf 71 = .ok (.getfield 16, 3) := by decide +kernel
theorem dX9_ruleOf_74 : decode cX9_ruleOf 74 = .ok (.iload_n 1, 1) := by decide +kernel
theorem dX9_ruleOf_75 : decode cX9_ruleOf 75 = .ok (.iaload, 1) := by decide +kernel
theorem dX9_ruleOf_76 : decode cX9_ruleOf 76 = .ok (.ireturn, 1) := by decide +kernel
theorem dX9_ruleOf_77 : decode cX9_ruleOf 77 = .ok (.aload_n 0, 1) := by decide +kernel
theorem dX9_ruleOf_78 : decode cX9_ruleOf 78 = .ok (.getfield 19, 3) := by decide +kernel
theorem dX9_ruleOf_81 : decode cX9_ruleOf 81 = .ok (.iload_n 1, 1) := by decide +kernel
theorem dX9_ruleOf_82 : decode cX9_ruleOf 82 = .ok (.iaload, 1) := by decide +kernel
theorem dX9_ruleOf_83 : decode cX9_ruleOf 83 = .ok (.ireturn, 1) := by decide +kernel
theorem dX9_ruleOf_84 : decode cX9_ruleOf 84 = .ok (.aload_n 0, 1) := by decide +kernel
theorem dX9_ruleOf_85 : decode cX9_ruleOf 85 = .ok (.getfield 22, 3) := by decide +kernel
theorem dX9_ruleOf_88 : decode cX9_ruleOf 88 = .ok (.iload_n 1, 1) := by decide +kernel
theorem dX9_ruleOf_89 : decode cX9_ruleOf 89 = .ok (.iaload, 1) := by decide +kernel
theorem dX9_ruleOf_90 : decode cX9_ruleOf 90 = .ok (.ireturn, 1) := by decide +kernel
theorem dX9_ruleOf_91 : decode cX9_ruleOf 91 = .ok (.aload_n 0, 1) := by decide +kernel
theorem dX9_ruleOf_92 : decode cX9_ruleOf 92 = .ok (.getfield 25, 3) := by decide +kernel
theorem dX9_ruleOf_95 : decode cX9_ruleOf 95 = .ok (.iload_n 1, 1) := by decide +kernel
theorem dX9_ruleOf_96 : decode cX9_ruleOf 96 = .ok (.iaload, 1) := by decide +kernel
theorem dX9_ruleOf_97 : decode cX9_ruleOf 97 = .ok (.ireturn, 1) := by decide +kernel
theorem dX9_ruleOf_98 : decode cX9_ruleOf 98 = .ok (.aload_n 0, 1) := by decide +kernel
theorem dX9_ruleOf_99 : decode cX9_ruleOf 99 = .ok (.getfield 28, 3) := by decide +kernel
theorem dX9_ruleOf_102 : decode cX9_ruleOf 102 = .ok (.iload_n 1, 1) := by decide +kernel
theorem dX9_ruleOf_103 : decode cX9_ruleOf 103 = .ok (.iaload, 1) := by decide +kernel
theorem dX9_ruleOf_104 : decode cX9_ruleOf 104 = .ok (.ireturn, 1) := by decide +kernel
theorem dX9_ruleOf_105 : decode cX9_ruleOf 105 = .ok (.aload_n 0, 1) := by decide +kernel
theorem dX9_ruleOf_106 : decode cX9_ruleOf 106 = .ok (.iload_n 1, 1) := by decide +kernel
theorem dX9_ruleOf_107 : decode cX9_ruleOf 107 = .ok (.invokevirtual 132, 3) := by decide +kernel
theorem dX9_ruleOf_110 : decode cX9_ruleOf 110 = .ok (.ireturn, 1) := by decide +kernel
theorem dX9_ruleOf_111 : decode cX9_ruleOf 111 = .ok (.iconst (-1), 1) := by decide +kernel
theorem dX9_ruleOf_112 : decode cX9_ruleOf 112 = .ok (.ireturn, 1) := by decide +kernel
set_option maxRecDepth 20000 in
theorem ggX9_rulesFor_X9_isLiteral : GoodIn wsX9_rulesFor wsX9_isLiteral := goodIn_r _ [5, 6, 7, 4, 8] (by decide +kernel) (by decide +kernel)
set_option maxRecDepth 20000 in
theorem gX9_rulesFor_X9_isLiteral : GoodIn wsX9_rulesFor (va_wsS RX9 104 yX9_isLiteral wsX9_isLiteral) := goodIn_app (goodIn_of _ (by decide +kernel)) ggX9_rulesFor_X9_isLiteral
set_option maxRecDepth 20000 in
theorem ggX9_rulesFor_X9_isFor : GoodIn wsX9_rulesFor wsX9_isFor := goodIn_r _ [12, 13, 14, 15, 16, 17, 18, 19, 20, 21, 22, 23, 24, 25, 26, 27, 28, 29, 30, 31, 32, 33, 34, 35, 36, 37, 38, 39, 40, 41, 42, 43, 44, 45, 46, 47, 48, 49, 50, 51, 52, 53, 54] (by decide +kernel) (by decide +kernel)
set_option maxRecDepth 20000 in
theorem gX9_rulesFor_X9_isFor : GoodIn wsX9_rulesFor (wsV RX9 126 RX9 yX9_isFor wsX9_isFor) := goodIn_app (goodIn_of _ (by decide +kernel)) ggX9_rulesFor_X9_isFor
theorem dX9_rulesFor_0 : decode cX9_rulesFor 0 = .ok (.iload_n 1, 1) := by decide +kernel
theorem dX9_rulesFor_1 : decode cX9_rulesFor 1 = .ok (.invokestatic 104, 3) := by decide +kernel
theorem dX9_rulesFor_4 : decode cX9_rulesFor 4 = .ok (.ifCond .ne 5, 3) := by decide +kernel
theorem dX9_rulesFor_7 : decode cX9_rulesFor 7 = .ok (.iconst (-1), 1) := by decide +kernel
theorem dX9_rulesFor_8 : decode cX9_rulesFor 8 = .ok (.ireturn, 1) := by decide +kernel
theorem dX9_rulesFor_9 : decode cX9_rulesFor 9 = .ok (.iconst 0, 1) := by decide +kernel
theorem dX9_rulesFor_10 : decode cX9_rulesFor 10 = .ok (.istore_n 2, 1) := by decide +kernel
theorem dX9_rulesFor_11 : decode cX9_rulesFor 11 = .ok (.iconst 0, 1) := by decide +kernel
theorem dX9_rulesFor_12 : decode cX9_rulesFor 12 = .ok (.istore_n 3, 1) := by decide +kernel
theorem dX9_rulesFor_13 : decode cX9_rulesFor 13 = .ok (.iload_n 3, 1) := by decide +kernel
theorem dX9_rulesFor_14 : decode cX9_rulesFor 14 = .ok (.aload_n 0, 1) := by decide +kernel
theorem dX9_rulesFor_15 : decode cX9_rulesFor 15 = .ok (.getfield 77, 3) := by decide +kernel
theorem dX9_rulesFor_18 : decode cX9_rulesFor 18 = .ok (.if_icmp .ge 28, 3) := by decide +kernel
theorem dX9_rulesFor_21 : decode cX9_rulesFor 21 = .ok (.iload_n 2, 1) := by decide +kernel
theorem dX9_rulesFor_22 : decode cX9_rulesFor 22 = .ok (.aload_n 0, 1) := by decide +kernel
theorem dX9_rulesFor_23 : decode cX9_rulesFor 23 = .ok (.iload_n 3, 1) := by decide +kernel
theorem dX9_rulesFor_24 : decode cX9_rulesFor 24 = .ok (.iload_n 1, 1) := by decide +kernel
theorem dX9_rulesFor_25 : decode cX9_rulesFor 25 = .ok (.invokevirtual 126, 3) := by decide +kernel
theorem dX9_rulesFor_28 : decode cX9_rulesFor 28 = .ok (.ifCond .eq 9, 3) := by decide +kernel
theorem dX9_rulesFor_31 : decode cX9_rulesFor 31 = .ok (.iconst 1, 1) := by decide +kernel
theorem dX9_rulesFor_32 : decode cX9_rulesFor 32 = .ok (.iload_n 3, 1) := by decide +kernel
theorem dX9_rulesFor_33 : decode cX9_rulesFor 33 = .ok (.ishl, 1) := by decide +kernel
theorem dX9_rulesFor_34 : decode cX9_rulesFor 34 = .ok (.goto 4, 3) := by decide +kernel
theorem dX9_rulesFor_37 : decode cX9_rulesFor 37 = .ok (.iconst 0, 1) := by decide +kernel
theorem dX9_rulesFor_38 : decode cX9_rulesFor 38 = .ok (.ior, 1) := by decide +kernel
theorem dX9_rulesFor_39 : decode cX9_rulesFor 39 = .ok (.istore_n 2, 1) := by decide +kernel
theorem dX9_rulesFor_40 : decode cX9_rulesFor 40 = .ok (.iinc 3 1, 3) := by decide +kernel
theorem dX9_rulesFor_43 : decode cX9_rulesFor 43 = .ok (.goto (-30), 3) := by decide +kernel
theorem dX9_rulesFor_46 : decode cX9_rulesFor 46 = .ok (.iload_n 2, 1) := by decide +kernel
theorem dX9_rulesFor_47 : decode cX9_rulesFor 47 = .ok (.ireturn, 1) := by decide +kernel
set_option maxRecDepth 20000 in
theorem ggX9_circles_X9_aboveOf : GoodIn wsX9_circles wsX9_aboveOf := goodIn_r _ [7, 1, 8, 9, 10, 6, 11, 12, 13, 14, 15, 16, 17, 18, 19, 20, 21, 22, 23, 24, 25, 26, 27, 28, 29, 30, 31, 32, 33, 34, 35, 36, 37, 38, 39, 40, 41, 42, 43, 44, 45, 46, 47, 48, 49, 50, 51, 52, 53, 54, 55, 56] (by decide +kernel) (by decide +kernel)
set_option maxRecDepth 20000 in
theorem gX9_circles_X9_aboveOf : GoodIn wsX9_circles (wsV RX9 132 RX9 yX9_aboveOf wsX9_aboveOf) := goodIn_app (goodIn_of _ (by decide +kernel)) ggX9_circles_X9_aboveOf
set_option maxRecDepth 20000 in
theorem ggX9_circles_X9_has : GoodIn wsX9_circles wsX9_has := goodIn_r _ [16] (by decide +kernel) (by decide +kernel)
set_option maxRecDepth 20000 in
theorem gX9_circles_X9_has : GoodIn wsX9_circles (va_wsS RX9 122 yX9_has wsX9_has) := goodIn_app (goodIn_of _ (by decide +kernel)) ggX9_circles_X9_has
theorem dX9_circles_0 : decode cX9_circles 0 = .ok (.iconst 0, 1) := by decide +kernel
theorem dX9_circles_1 : decode cX9_circles 1 = .ok (.istore_n 1, 1) := by decide +kernel
theorem dX9_circles_2 : decode cX9_circles 2 = .ok (.iload_n 1, 1) := by decide +kernel
theorem dX9_circles_3 : decode cX9_circles 3 = .ok (.aload_n 0, 1) := by decide +kernel
theorem dX9_circles_4 : decode cX9_circles 4 = .ok (.getfield 77, 3) := by decide +kernel
theorem dX9_circles_7 : decode cX9_circles 7 = .ok (.if_icmp .ge 20, 3) := by decide +kernel
theorem dX9_circles_10 : decode cX9_circles 10 = .ok (.aload_n 0, 1) := by decide +kernel
theorem dX9_circles_11 : decode cX9_circles 11 = .ok (.getfield 55, 3) := by decide +kernel
theorem dX9_circles_14 : decode cX9_circles 14 = .ok (.iload_n 1, 1) := by decide +kernel
theorem dX9_circles_15 : decode cX9_circles 15 = .ok (.aload_n 0, 1) := by decide +kernel
theorem dX9_circles_16 : decode cX9_circles 16 = .ok (.iload_n 1, 1) := by decide +kernel
theorem dX9_circles_17 : decode cX9_circles 17 = .ok (.invokevirtual 132, 3) := by decide +kernel
theorem dX9_circles_20 : decode cX9_circles 20 = .ok (.iastore, 1) := by decide +kernel
theorem dX9_circles_21 : decode cX9_circles 21 = .ok (.iinc 1 1, 3) := by decide +kernel
theorem dX9_circles_24 : decode cX9_circles 24 = .ok (.goto (-22), 3) := by decide +kernel
theorem dX9_circles_27 : decode cX9_circles 27 = .ok (.iconst 0, 1) := by decide +kernel
theorem dX9_circles_28 : decode cX9_circles 28 = .ok (.istore_n 1, 1) := by decide +kernel
theorem dX9_circles_29 : decode cX9_circles 29 = .ok (.iload_n 1, 1) := by decide +kernel
theorem dX9_circles_30 : decode cX9_circles 30 = .ok (.aload_n 0, 1) := by decide +kernel
theorem dX9_circles_31 : decode cX9_circles 31 = .ok (.getfield 77, 3) := by decide +kernel
theorem dX9_circles_34 : decode cX9_circles 34 = .ok (.if_icmp .ge 57, 3) := by decide +kernel
theorem dX9_circles_37 : decode cX9_circles 37 = .ok (.iconst 0, 1) := by decide +kernel
theorem dX9_circles_38 : decode cX9_circles 38 = .ok (.istore_n 2, 1) := by decide +kernel
theorem dX9_circles_39 : decode cX9_circles 39 = .ok (.iload_n 2, 1) := by decide +kernel
theorem dX9_circles_40 : decode cX9_circles 40 = .ok (.aload_n 0, 1) := by decide +kernel
theorem dX9_circles_41 : decode cX9_circles 41 = .ok (.getfield 77, 3) := by decide +kernel
theorem dX9_circles_44 : decode cX9_circles 44 = .ok (.if_icmp .ge 41, 3) := by decide +kernel
theorem dX9_circles_47 : decode cX9_circles 47 = .ok (.aload_n 0, 1) := by decide +kernel
theorem dX9_circles_48 : decode cX9_circles 48 = .ok (.getfield 55, 3) := by decide +kernel
theorem dX9_circles_51 : decode cX9_circles 51 = .ok (.iload_n 2, 1) := by decide +kernel
theorem dX9_circles_52 : decode cX9_circles 52 = .ok (.dup2, 1) := by decide +kernel
theorem dX9_circles_53 : decode cX9_circles 53 = .ok (.iaload, 1) := by decide +kernel
theorem dX9_circles_54 : decode cX9_circles 54 = .ok (.aload_n 0, 1) := by decide +kernel
theorem dX9_circles_55 : decode cX9_circles 55 = .ok (.getfield 55, 3) := by decide +kernel
theorem dX9_circles_58 : decode cX9_circles 58 = .ok (.iload_n 2, 1) := by decide +kernel
theorem dX9_circles_59 : decode cX9_circles 59 = .ok (.iaload, 1) := by decide +kernel
theorem dX9_circles_60 : decode cX9_circles 60 = .ok (.iload_n 1, 1) := by decide +kernel
theorem dX9_circles_61 : decode cX9_circles 61 = .ok (.invokestatic 122, 3) := by decide +kernel
theorem dX9_circles_64 : decode cX9_circles 64 = .ok (.ifCond .eq 12, 3) := by decide +kernel
theorem dX9_circles_67 : decode cX9_circles 67 = .ok (.aload_n 0, 1) := by decide +kernel
theorem dX9_circles_68 : decode cX9_circles 68 = .ok (.getfield 55, 3) := by decide +kernel
theorem dX9_circles_71 : decode cX9_circles 71 = .ok (.iload_n 1, 1) := by decide +kernel
theorem dX9_circles_72 : decode cX9_circles 72 = .ok (.iaload, 1) := by decide +kernel
theorem dX9_circles_73 : decode cX9_circles 73 = .ok (.goto 4, 3) := by decide +kernel
theorem dX9_circles_76 : decode cX9_circles 76 = .ok (.iconst 0, 1) := by decide +kernel
theorem dX9_circles_77 : decode cX9_circles 77 = .ok (.ior, 1) := by decide +kernel
theorem dX9_circles_78 : decode cX9_circles 78 = .ok (.iastore, 1) := by decide +kernel
theorem dX9_circles_79 : decode cX9_circles 79 = .ok (.iinc 2 1, 3) := by decide +kernel
theorem dX9_circles_82 : decode cX9_circles 82 = .ok (.goto (-43), 3) := by decide +kernel
theorem dX9_circles_85 : decode cX9_circles 85 = .ok (.iinc 1 1, 3) := by decide +kernel
theorem dX9_circles_88 : decode cX9_circles 88 = .ok (.goto (-59), 3) := by decide +kernel
theorem dX9_circles_91 : decode cX9_circles 91 = .ok (.iconst 0, 1) := by decide +kernel
theorem dX9_circles_92 : decode cX9_circles 92 = .ok (.istore_n 1, 1) := by decide +kernel
theorem dX9_circles_93 : decode cX9_circles 93 = .ok (.iconst 0, 1) := by decide +kernel
theorem dX9_circles_94 : decode cX9_circles 94 = .ok (.istore_n 2, 1) := by decide +kernel
theorem dX9_circles_95 : decode cX9_circles 95 = .ok (.iload_n 2, 1) := by decide +kernel
theorem dX9_circles_96 : decode cX9_circles 96 = .ok (.aload_n 0, 1) := by decide +kernel
theorem dX9_circles_97 : decode cX9_circles 97 = .ok (.getfield 77, 3) := by decide +kernel
theorem dX9_circles_100 : decode cX9_circles 100 = .ok (.if_icmp .ge 32, 3) := by decide +kernel
theorem dX9_circles_103 : decode cX9_circles 103 = .ok (.iload_n 1, 1) := by decide +kernel
theorem dX9_circles_104 : decode cX9_circles 104 = .ok (.aload_n 0, 1) := by decide +kernel
theorem dX9_circles_105 : decode cX9_circles 105 = .ok (.getfield 55, 3) := by decide +kernel
theorem dX9_circles_108 : decode cX9_circles 108 = .ok (.iload_n 2, 1) := by decide +kernel
theorem dX9_circles_109 : decode cX9_circles 109 = .ok (.iaload, 1) := by decide +kernel
theorem dX9_circles_110 : decode cX9_circles 110 = .ok (.iload_n 2, 1) := by decide +kernel
theorem dX9_circles_111 : decode cX9_circles 111 = .ok (.invokestatic 122, 3) := by decide +kernel
theorem dX9_circles_114 : decode cX9_circles 114 = .ok (.ifCond .eq 9, 3) := by decide +kernel
theorem dX9_circles_117 : decode cX9_circles 117 = .ok (.iconst 1, 1) := by decide +kernel
theorem dX9_circles_118 : decode cX9_circles 118 = .ok (.iload_n 2, 1) := by decide +kernel
theorem dX9_circles_119 : decode cX9_circles 119 = .ok (.ishl, 1) := by decide +kernel
theorem dX9_circles_120 : decode cX9_circles 120 = .ok (.goto 4, 3) := by decide +kernel
theorem dX9_circles_123 : decode cX9_circles 123 = .ok (.iconst 0, 1) := by decide +kernel
theorem dX9_circles_124 : decode cX9_circles 124 = .ok (.ior, 1) := by decide +kernel
theorem dX9_circles_125 : decode cX9_circles 125 = .ok (.istore_n 1, 1) := by decide +kernel
theorem dX9_circles_126 : decode cX9_circles 126 = .ok (.iinc 2 1, 3) := by decide +kernel
theorem dX9_circles_129 : decode cX9_circles 129 = .ok (.goto (-34), 3) := by decide +kernel
theorem dX9_circles_132 : decode cX9_circles 132 = .ok (.iload_n 1, 1) := by decide +kernel
theorem dX9_circles_133 : decode cX9_circles 133 = .ok (.ireturn, 1) := by decide +kernel
theorem dX9_applies_0 : decode cX9_applies 0 = .ok (.aload_n 0, 1) := by decide +kernel
theorem dX9_applies_1 : decode cX9_applies 1 = .ok (.getfield 16, 3) := by decide +kernel
theorem dX9_applies_4 : decode cX9_applies 4 = .ok (.iload_n 1, 1) := by decide +kernel
theorem dX9_applies_5 : decode cX9_applies 5 = .ok (.iaload, 1) := by decide +kernel
theorem dX9_applies_6 : decode cX9_applies 6 = .ok (.aload_n 0, 1) := by decide +kernel
theorem dX9_applies_7 : decode cX9_applies 7 = .ok (.getfield 61, 3) := by decide +kernel
theorem dX9_applies_10 : decode cX9_applies 10 = .ok (.iconst 2, 1) := by decide +kernel
theorem dX9_applies_11 : decode cX9_applies 11 = .ok (.iaload, 1) := by decide +kernel
theorem dX9_applies_12 : decode cX9_applies 12 = .ok (.iconst (-1), 1) := by decide +kernel
theorem dX9_applies_13 : decode cX9_applies 13 = .ok (.ixor, 1) := by decide +kernel
theorem dX9_applies_14 : decode cX9_applies 14 = .ok (.iand, 1) := by decide +kernel
theorem dX9_applies_15 : decode cX9_applies 15 = .ok (.ifCond .ne 25, 3) := by decide +kernel
theorem dX9_applies_18 : decode cX9_applies 18 = .ok (.aload_n 0, 1) := by decide +kernel
theorem dX9_applies_19 : decode cX9_applies 19 = .ok (.getfield 19, 3) := by decide +kernel
theorem dX9_applies_22 : decode cX9_applies 22 = .ok (.iload_n 1, 1) := by decide +kernel
theorem dX9_applies_23 : decode cX9_applies 23 = .ok (.iaload, 1) := by decide +kernel
theorem dX9_applies_24 : decode cX9_applies 24 = .ok (.aload_n 0, 1) := by decide +kernel
theorem dX9_applies_25 : decode cX9_applies 25 = .ok (.getfield 61, 3) := by decide +kernel
theorem dX9_applies_28 : decode cX9_applies 28 = .ok (.iconst 3, 1) := by decide +kernel
theorem dX9_applies_29 : decode cX9_applies 29 = .ok (.iaload, 1) := by decide +kernel
theorem dX9_applies_30 : decode cX9_applies 30 = .ok (.iconst (-1), 1) := by decide +kernel
theorem dX9_applies_31 : decode cX9_applies 31 = .ok (.ixor, 1) := by decide +kernel
theorem dX9_applies_32 : decode cX9_applies 32 = .ok (.iand, 1) := by decide +kernel
theorem dX9_applies_33 : decode cX9_applies 33 = .ok (.ifCond .ne 7, 3) := by decide +kernel
theorem dX9_applies_36 : decode cX9_applies 36 = .ok (.iconst 1, 1) := by decide +kernel
theorem dX9_applies_37 : decode cX9_applies 37 = .ok (.goto 4, 3) := by decide +kernel
theorem dX9_applies_40 : decode cX9_applies 40 = .ok (.iconst 0, 1) := by decide +kernel
theorem dX9_applies_41 : decode cX9_applies 41 = .ok (.ireturn, 1) := by decide +kernel
theorem dX9_falls_0 : decode cX9_falls 0 = .ok (.aload_n 0, 1) := by decide +kernel
theorem dX9_falls_1 : decode cX9_falls 1 = .ok (.getfield 16, 3) := by decide +kernel
theorem dX9_falls_4 : decode cX9_falls 4 = .ok (.iload_n 1, 1) := by decide +kernel
theorem dX9_falls_5 : decode cX9_falls 5 = .ok (.iaload, 1) := by decide +kernel
theorem dX9_falls_6 : decode cX9_falls 6 = .ok (.aload_n 0, 1) := by decide +kernel
theorem dX9_falls_7 : decode cX9_falls 7 = .ok (.getfield 61, 3) := by decide +kernel
theorem dX9_falls_10 : decode cX9_falls 10 = .ok (.iconst 3, 1) := by decide +kernel
theorem dX9_falls_11 : decode cX9_falls 11 = .ok (.iaload, 1) := by decide +kernel
theorem dX9_falls_12 : decode cX9_falls 12 = .ok (.iand, 1) := by decide +kernel
theorem dX9_falls_13 : decode cX9_falls 13 = .ok (.ifCond .ne 19, 3) := by decide +kernel
theorem dX9_falls_16 : decode cX9_falls 16 = .ok (.aload_n 0, 1) := by decide +kernel
theorem dX9_falls_17 : decode cX9_falls 17 = .ok (.getfield 19, 3) := by decide +kernel
theorem dX9_falls_20 : decode cX9_falls 20 = .ok (.iload_n 1, 1) := by decide +kernel
theorem dX9_falls_21 : decode cX9_falls 21 = .ok (.iaload, 1) := by decide +kernel
theorem dX9_falls_22 : decode cX9_falls 22 = .ok (.aload_n 0, 1) := by decide +kernel
theorem dX9_falls_23 : decode cX9_falls 23 = .ok (.getfield 61, 3) := by decide +kernel
theorem dX9_falls_26 : decode cX9_falls 26 = .ok (.iconst 2, 1) := by decide +kernel
theorem dX9_falls_27 : decode cX9_falls 27 = .ok (.iaload, 1) := by decide +kernel
theorem dX9_falls_28 : decode cX9_falls 28 = .ok (.iand, 1) := by decide +kernel
theorem dX9_falls_29 : decode cX9_falls 29 = .ok (.ifCond .eq 7, 3) := by decide +kernel
theorem dX9_falls_32 : decode cX9_falls 32 = .ok (.iconst 1, 1) := by decide +kernel
theorem dX9_falls_33 : decode cX9_falls 33 = .ok (.goto 4, 3) := by decide +kernel
theorem dX9_falls_36 : decode cX9_falls 36 = .ok (.iconst 0, 1) := by decide +kernel
theorem dX9_falls_37 : decode cX9_falls 37 = .ok (.ireturn, 1) := by decide +kernel
set_option maxRecDepth 20000 in
theorem ggX9_isSure_X9_has : GoodIn wsX9_isSure wsX9_has := goodIn_r _ [9] (by decide +kernel) (by decide +kernel)
set_option maxRecDepth 20000 in
theorem gX9_isSure_X9_has : GoodIn wsX9_isSure (va_wsS RX9 122 yX9_has wsX9_has) := goodIn_app (goodIn_of _ (by decide +kernel)) ggX9_isSure_X9_has
set_option maxRecDepth 20000 in
theorem ggX9_isSure_X9_isFor : GoodIn wsX9_isSure wsX9_isFor := goodIn_r _ [13, 14, 15, 16, 17, 18, 19, 20, 21, 22, 23, 24, 25, 26, 27, 28, 29, 30, 31, 32, 33, 34, 35, 36, 37, 38, 39, 40, 41, 42, 43, 44, 45, 46, 47, 48, 49, 50, 51, 52, 53, 54, 55] (by decide +kernel) (by decide +kernel)
set_option maxRecDepth 20000 in
theorem gX9_isSure_X9_isFor : GoodIn wsX9_isSure (wsV RX9 126 RX9 yX9_isFor wsX9_isFor) := goodIn_app (goodIn_of _ (by decide +kernel)) ggX9_isSure_X9_isFor
theorem dX9_isSure_0 : decode cX9_isSure 0 = .ok (.aload_n 0, 1) := by decide +kernel
theorem dX9_isSure_1 : decode cX9_isSure 1 = .ok (.getfield 93, 3) := by decide +kernel
theorem dX9_isSure_4 : decode cX9_isSure 4 = .ok (.iload_n 1, 1) := by decide +kernel
theorem dX9_isSure_5 : decode cX9_isSure 5 = .ok (.invokestatic 122, 3) := by decide +kernel
theorem dX9_isSure_8 : decode cX9_isSure 8 = .ok (.ifCond .eq 5, 3) := by decide +kernel
theorem dX9_isSure_11 : decode cX9_isSure 11 = .ok (.iconst 1, 1) := by decide +kernel
theorem dX9_isSure_12 : decode cX9_isSure 12 = .ok (.ireturn, 1) := by decide +kernel
theorem dX9_isSure_13 : decode cX9_isSure 13 = .ok (.iconst 0, 1) := by decide +kernel
theorem dX9_isSure_14 : decode cX9_isSure 14 = .ok (.istore_n 2, 1) := by decide +kernel
theorem dX9_isSure_15 : decode cX9_isSure 15 = .ok (.iload_n 2, 1) := by decide +kernel
theorem dX9_isSure_16 : decode cX9_isSure 16 = .ok (.aload_n 0, 1) := by decide +kernel
theorem dX9_isSure_17 : decode cX9_isSure 17 = .ok (.getfield 77, 3) := by decide +kernel
theorem dX9_isSure_20 : decode cX9_isSure 20 = .ok (.if_icmp .ge 47, 3) := by decide +kernel
theorem dX9_isSure_23 : decode cX9_isSure 23 = .ok (.aload_n 0, 1) := by decide +kernel
theorem dX9_isSure_24 : decode cX9_isSure 24 = .ok (.iload_n 2, 1) := by decide +kernel
theorem dX9_isSure_25 : decode cX9_isSure 25 = .ok (.iload_n 1, 1) := by decide +kernel
theorem dX9_isSure_26 : decode cX9_isSure 26 = .ok (.invokevirtual 126, 3) := by decide +kernel
theorem dX9_isSure_29 : decode cX9_isSure 29 = .ok (.ifCond .eq 32, 3) := by decide +kernel
theorem dX9_isSure_32 : decode cX9_isSure 32 = .ok (.aload_n 0, 1) := by decide +kernel
theorem dX9_isSure_33 : decode cX9_isSure 33 = .ok (.getfield 7, 3) := by decide +kernel
theorem dX9_isSure_36 : decode cX9_isSure 36 = .ok (.iload_n 2, 1) := by decide +kernel
theorem dX9_isSure_37 : decode cX9_isSure 37 = .ok (.iaload, 1) := by decide +kernel
theorem dX9_isSure_38 : decode cX9_isSure 38 = .ok (.ifCond .ne 23, 3) := by decide +kernel
theorem dX9_isSure_41 : decode cX9_isSure 41 = .ok (.aload_n 0, 1) := by decide +kernel
theorem dX9_isSure_42 : decode cX9_isSure 42 = .ok (.getfield 16, 3) := by decide +kernel
theorem dX9_isSure_45 : decode cX9_isSure 45 = .ok (.iload_n 2, 1) := by decide +kernel
theorem dX9_isSure_46 : decode cX9_isSure 46 = .ok (.iaload, 1) := by decide +kernel
theorem dX9_isSure_47 : decode cX9_isSure 47 = .ok (.aload_n 0, 1) := by decide +kernel
theorem dX9_isSure_48 : decode cX9_isSure 48 = .ok (.getfield 61, 3) := by decide +kernel
theorem dX9_isSure_51 : decode cX9_isSure 51 = .ok (.iconst 0, 1) := by decide +kernel
theorem dX9_isSure_52 : decode cX9_isSure 52 = .ok (.iaload, 1) := by decide +kernel
theorem dX9_isSure_53 : decode cX9_isSure 53 = .ok (.iconst (-1), 1) := by decide +kernel
theorem dX9_isSure_54 : decode cX9_isSure 54 = .ok (.ixor, 1) := by decide +kernel
theorem dX9_isSure_55 : decode cX9_isSure 55 = .ok (.iand, 1) := by decide +kernel
theorem dX9_isSure_56 : decode cX9_isSure 56 = .ok (.ifCond .ne 5, 3) := by decide +kernel
theorem dX9_isSure_59 : decode cX9_isSure 59 = .ok (.iconst 1, 1) := by decide +kernel
theorem dX9_isSure_60 : decode cX9_isSure 60 = .ok (.ireturn, 1) := by decide +kernel
theorem dX9_isSure_61 : decode cX9_isSure 61 = .ok (.iinc 2 1, 3) := by decide +kernel
theorem dX9_isSure_64 : decode cX9_isSure 64 = .ok (.goto (-49), 3) := by decide +kernel
theorem dX9_isSure_67 : decode cX9_isSure 67 = .ok (.iconst 0, 1) := by decide +kernel
theorem dX9_isSure_68 : decode cX9_isSure 68 = .ok (.ireturn, 1) := by decide +kernel
set_option maxRecDepth 20000 in
theorem ggX9_isNever_X9_has : GoodIn wsX9_isNever wsX9_has := goodIn_r _ [9] (by decide +kernel) (by decide +kernel)
set_option maxRecDepth 20000 in
theorem gX9_isNever_X9_has : GoodIn wsX9_isNever (va_wsS RX9 122 yX9_has wsX9_has) := goodIn_app (goodIn_of _ (by decide +kernel)) ggX9_isNever_X9_has
set_option maxRecDepth 20000 in
theorem ggX9_isNever_X9_isFor : GoodIn wsX9_isNever wsX9_isFor := goodIn_r _ [13, 14, 15, 16, 17, 18, 19, 20, 21, 22, 23, 24, 25, 26, 27, 28, 29, 30, 31, 32, 33, 34, 35, 36, 37, 38, 39, 40, 41, 42, 43, 44, 45, 46, 47, 48, 49, 50, 51, 52, 53, 54, 55] (by decide +kernel) (by decide +kernel)
set_option maxRecDepth 20000 in
theorem gX9_isNever_X9_isFor : GoodIn wsX9_isNever (wsV RX9 126 RX9 yX9_isFor wsX9_isFor) := goodIn_app (goodIn_of _ (by decide +kernel)) ggX9_isNever_X9_isFor
theorem dX9_isNever_0 : decode cX9_isNever 0 = .ok (.aload_n 0, 1) := by decide +kernel
theorem dX9_isNever_1 : decode cX9_isNever 1 = .ok (.getfield 93, 3) := by decide +kernel
theorem dX9_isNever_4 : decode cX9_isNever 4 = .ok (.iload_n 1, 1) := by decide +kernel
theorem dX9_isNever_5 : decode cX9_isNever 5 = .ok (.invokestatic 122, 3) := by decide +kernel
theorem dX9_isNever_8 : decode cX9_isNever 8 = .ok (.ifCond .eq 5, 3) := by decide +kernel
theorem dX9_isNever_11 : decode cX9_isNever 11 = .ok (.iconst 0, 1) := by decide +kernel
theorem dX9_isNever_12 : decode cX9_isNever 12 = .ok (.ireturn, 1) := by decide +kernel
theorem dX9_isNever_13 : decode cX9_isNever 13 = .ok (.iconst 0, 1) := by decide +kernel
theorem dX9_isNever_14 : decode cX9_isNever 14 = .ok (.istore_n 2, 1) := by decide +kernel
theorem dX9_isNever_15 : decode cX9_isNever 15 = .ok (.iload_n 2, 1) := by decide +kernel
theorem dX9_isNever_16 : decode cX9_isNever 16 = .ok (.aload_n 0, 1) := by decide +kernel
theorem dX9_isNever_17 : decode cX9_isNever 17 = .ok (.getfield 77, 3) := by decide +kernel
theorem dX9_isNever_20 : decode cX9_isNever 20 = .ok (.if_icmp .ge 45, 3) := by decide +kernel
theorem dX9_isNever_23 : decode cX9_isNever 23 = .ok (.aload_n 0, 1) := by decide +kernel
theorem dX9_isNever_24 : decode cX9_isNever 24 = .ok (.iload_n 2, 1) := by decide +kernel
theorem dX9_isNever_25 : decode cX9_isNever 25 = .ok (.iload_n 1, 1) := by decide +kernel
theorem dX9_isNever_26 : decode cX9_isNever 26 = .ok (.invokevirtual 126, 3) := by decide +kernel
theorem dX9_isNever_29 : decode cX9_isNever 29 = .ok (.ifCond .eq 30, 3) := by decide +kernel
theorem dX9_isNever_32 : decode cX9_isNever 32 = .ok (.aload_n 0, 1) := by decide +kernel
theorem dX9_isNever_33 : decode cX9_isNever 33 = .ok (.getfield 7, 3) := by decide +kernel
theorem dX9_isNever_36 : decode cX9_isNever 36 = .ok (.iload_n 2, 1) := by decide +kernel
theorem dX9_isNever_37 : decode cX9_isNever 37 = .ok (.iaload, 1) := by decide +kernel
theorem dX9_isNever_38 : decode cX9_isNever 38 = .ok (.ifCond .ne 21, 3) := by decide +kernel
theorem dX9_isNever_41 : decode cX9_isNever 41 = .ok (.aload_n 0, 1) := by decide +kernel
theorem dX9_isNever_42 : decode cX9_isNever 42 = .ok (.getfield 16, 3) := by decide +kernel
theorem dX9_isNever_45 : decode cX9_isNever 45 = .ok (.iload_n 2, 1) := by decide +kernel
theorem dX9_isNever_46 : decode cX9_isNever 46 = .ok (.iaload, 1) := by decide +kernel
theorem dX9_isNever_47 : decode cX9_isNever 47 = .ok (.aload_n 0, 1) := by decide +kernel
theorem dX9_isNever_48 : decode cX9_isNever 48 = .ok (.getfield 61, 3) := by decide +kernel
theorem dX9_isNever_51 : decode cX9_isNever 51 = .ok (.iconst 1, 1) := by decide +kernel
theorem dX9_isNever_52 : decode cX9_isNever 52 = .ok (.iaload, 1) := by decide +kernel
theorem dX9_isNever_53 : decode cX9_isNever 53 = .ok (.iand, 1) := by decide +kernel
theorem dX9_isNever_54 : decode cX9_isNever 54 = .ok (.ifCond .ne 5, 3) := by decide +kernel
theorem dX9_isNever_57 : decode cX9_isNever 57 = .ok (.iconst 0, 1) := by decide +kernel
theorem dX9_isNever_58 : decode cX9_isNever 58 = .ok (.ireturn, 1) := by decide +kernel
theorem dX9_isNever_59 : decode cX9_isNever 59 = .ok (.iinc 2 1, 3) := by decide +kernel
theorem dX9_isNever_62 : decode cX9_isNever 62 = .ok (.goto (-47), 3) := by decide +kernel
theorem dX9_isNever_65 : decode cX9_isNever 65 = .ok (.iconst 1, 1) := by decide +kernel
theorem dX9_isNever_66 : decode cX9_isNever 66 = .ok (.ireturn, 1) := by decide +kernel
set_option maxRecDepth 20000 in
theorem ggX9_forcing_X9_isForward : GoodIn wsX9_forcing wsX9_isForward := goodIn_r _ [6, 7, 8, 9, 10, 5, 11, 12, 13, 30, 31, 32, 33, 34, 35, 36, 37, 38, 39, 40, 41, 42, 43, 44, 45, 46, 47, 48, 49, 50, 51, 52, 53, 54, 55, 56, 57, 58, 59, 60, 61, 62, 63, 64, 65, 66, 67, 68, 69] (by decide +kernel) (by decide +kernel)
set_option maxRecDepth 20000 in
theorem gX9_forcing_X9_isForward : GoodIn wsX9_forcing (wsV RX9 135 RX9 yX9_isForward wsX9_isForward) := goodIn_app (goodIn_of _ (by decide +kernel)) ggX9_forcing_X9_isForward
set_option maxRecDepth 20000 in
theorem ggX9_forcing_X9_applies : GoodIn wsX9_forcing wsX9_applies := goodIn_r _ [17, 18, 19, 20, 30, 31, 32, 33, 34, 35, 36, 37, 38, 39, 40, 41, 42, 43, 44, 45, 46, 47, 48, 49, 50, 51, 52, 53, 54, 55, 56, 57, 58, 59, 60, 61, 62, 63, 64, 65, 66, 67, 68, 69] (by decide +kernel) (by decide +kernel)
set_option maxRecDepth 20000 in
theorem gX9_forcing_X9_applies : GoodIn wsX9_forcing (wsV RX9 138 RX9 yX9_applies wsX9_applies) := goodIn_app (goodIn_of _ (by decide +kernel)) ggX9_forcing_X9_applies
set_option maxRecDepth 20000 in
theorem ggX9_forcing_X9_isAbove : GoodIn wsX9_forcing wsX9_isAbove := goodIn_r _ [24, 25, 26, 27, 28, 5, 29, 30, 31, 32, 33, 34, 35, 36, 37, 38, 39, 40, 41, 42, 43, 44, 45, 46, 47, 48, 49, 50, 51, 52, 53, 54, 55, 56, 57, 58, 59, 60, 61, 62, 63, 64, 65, 66, 67, 68, 69] (by decide +kernel) (by decide +kernel)
set_option maxRecDepth 20000 in
theorem gX9_forcing_X9_isAbove : GoodIn wsX9_forcing (wsV RX9 129 RX9 yX9_isAbove wsX9_isAbove) := goodIn_app (goodIn_of _ (by decide +kernel)) ggX9_forcing_X9_isAbove
theorem dX9_forcing_0 : decode cX9_forcing 0 = .ok (.iconst 0, 1) := by decide +kernel
theorem dX9_forcing_1 : decode cX9_forcing 1 = .ok (.istore_n 3, 1) := by decide +kernel
theorem dX9_forcing_2 : decode cX9_forcing 2 = .ok (.iload_n 3, 1) := by decide +kernel
theorem dX9_forcing_3 : decode cX9_forcing 3 = .ok (.aload_n 0, 1) := by decide +kernel
theorem dX9_forcing_4 : decode cX9_forcing 4 = .ok (.getfield 77, 3) := by decide +kernel
theorem dX9_forcing_7 : decode cX9_forcing 7 = .ok (.if_icmp .ge 41, 3) := by decide +kernel
theorem dX9_forcing_10 : decode cX9_forcing 10 = .ok (.aload_n 0, 1) := by decide +kernel
theorem dX9_forcing_11 : decode cX9_forcing 11 = .ok (.iload_n 3, 1) := by decide +kernel
theorem dX9_forcing_12 : decode cX9_forcing 12 = .ok (.iload_n 1, 1) := by decide +kernel
theorem dX9_forcing_13 : decode cX9_forcing 13 = .ok (.invokevirtual 135, 3) := by decide +kernel
theorem dX9_forcing_16 : decode cX9_forcing 16 = .ok (.ifCond .eq 26, 3) := by decide +kernel
theorem dX9_forcing_19 : decode cX9_forcing 19 = .ok (.aload_n 0, 1) := by decide +kernel
theorem dX9_forcing_20 : decode cX9_forcing 20 = .ok (.iload_n 3, 1) := by decide +kernel
theorem dX9_forcing_21 : decode cX9_forcing 21 = .ok (.invokevirtual 138, 3) := by decide +kernel
theorem dX9_forcing_24 : decode cX9_forcing 24 = .ok (.ifCond .eq 18, 3) := by decide +kernel
theorem dX9_forcing_27 : decode cX9_forcing 27 = .ok (.iload_n 2, 1) := by decide +kernel
theorem dX9_forcing_28 : decode cX9_forcing 28 = .ok (.ifCond .lt 12, 3) := by decide +kernel
theorem dX9_forcing_31 : decode cX9_forcing 31 = .ok (.aload_n 0, 1) := by decide +kernel
theorem dX9_forcing_32 : decode cX9_forcing 32 = .ok (.iload_n 3, 1) := by decide +kernel
theorem dX9_forcing_33 : decode cX9_forcing 33 = .ok (.iload_n 2, 1) := by decide +kernel
theorem dX9_forcing_34 : decode cX9_forcing 34 = .ok (.invokevirtual 129, 3) := by decide +kernel
theorem dX9_forcing_37 : decode cX9_forcing 37 = .ok (.ifCond .eq 5, 3) := by decide +kernel
theorem dX9_forcing_40 : decode cX9_forcing 40 = .ok (.iload_n 3, 1) := by decide +kernel
theorem dX9_forcing_41 : decode cX9_forcing 41 = .ok (.ireturn, 1) := by decide +kernel
theorem dX9_forcing_42 : decode cX9_forcing 42 = .ok (.iinc 3 1, 3) := by decide +kernel
theorem dX9_forcing_45 : decode cX9_forcing 45 = .ok (.goto (-43), 3) := by decide +kernel
theorem dX9_forcing_48 : decode cX9_forcing 48 = .ok (.iconst (-1), 1) := by decide +kernel
theorem dX9_forcing_49 : decode cX9_forcing 49 = .ok (.ireturn, 1) := by decide +kernel
set_option maxRecDepth 20000 in
theorem ggX9_isLikely_X9_has : GoodIn wsX9_isLikely wsX9_has := goodIn_r _ [6] (by decide +kernel) (by decide +kernel)
set_option maxRecDepth 20000 in
theorem gX9_isLikely_X9_has : GoodIn wsX9_isLikely (va_wsS RX9 122 yX9_has wsX9_has) := goodIn_app (goodIn_of _ (by decide +kernel)) ggX9_isLikely_X9_has
set_option maxRecDepth 20000 in
theorem ggX9_isLikely_X9_otherOf : GoodIn wsX9_isLikely wsX9_otherOf := goodIn_r _ [9] (by decide +kernel) (by decide +kernel)
set_option maxRecDepth 20000 in
theorem gX9_isLikely_X9_otherOf : GoodIn wsX9_isLikely (va_wsS RX9 141 yX9_otherOf wsX9_otherOf) := goodIn_app (goodIn_of _ (by decide +kernel)) ggX9_isLikely_X9_otherOf
set_option maxRecDepth 20000 in
theorem ggX9_isLikely_X9_forcing : GoodIn wsX9_isLikely wsX9_forcing := goodIn_r _ [13, 2, 14, 15, 16, 5, 17, 18, 19, 20, 21, 22, 23, 24, 25, 26, 27, 28, 29, 1, 30, 31, 32, 33, 34, 35, 36, 3, 4, 6, 41, 42, 43, 44, 45, 46, 47, 48, 49, 50, 51, 52, 53, 54, 55, 56, 57, 58, 59, 60, 61, 62, 63, 64, 65, 66, 67, 68, 69, 70, 71, 72, 73, 74, 75, 76, 77, 78, 79, 80] (by decide +kernel) (by decide +kernel)
set_option maxRecDepth 20000 in
theorem gX9_isLikely_X9_forcing : GoodIn wsX9_isLikely (wsV RX9 144 RX9 yX9_forcing wsX9_forcing) := goodIn_app (goodIn_of _ (by decide +kernel)) ggX9_isLikely_X9_forcing
set_option maxRecDepth 20000 in
theorem ggX9_isLikely_X9_isFor : GoodIn wsX9_isLikely wsX9_isFor := goodIn_r _ [22, 23, 24, 41, 42, 43, 44, 45, 46, 47, 48, 49, 50, 51, 52, 53, 54, 55, 56, 57, 58, 59, 60, 61, 62, 63, 64, 65, 66, 67, 68, 69, 70, 71, 72, 73, 74, 75, 76, 77, 78, 79, 80] (by decide +kernel) (by decide +kernel)
set_option maxRecDepth 20000 in
theorem gX9_isLikely_X9_isFor : GoodIn wsX9_isLikely (wsV RX9 126 RX9 yX9_isFor wsX9_isFor) := goodIn_app (goodIn_of _ (by decide +kernel)) ggX9_isLikely_X9_isFor
set_option maxRecDepth 20000 in
theorem ggX9_isLikely_X9_falls : GoodIn wsX9_isLikely wsX9_falls := goodIn_r _ [40, 29, 1, 30, 41, 42, 43, 44, 45, 46, 47, 48, 49, 50, 51, 52, 53, 54, 55, 56, 57, 58, 59, 60, 61, 62, 63, 64, 65, 66, 67, 68, 69, 70, 71, 72, 73, 74, 75, 76, 77, 78, 79, 80] (by decide +kernel) (by decide +kernel)
set_option maxRecDepth 20000 in
theorem gX9_isLikely_X9_falls : GoodIn wsX9_isLikely (wsV RX9 148 RX9 yX9_falls wsX9_falls) := goodIn_app (goodIn_of _ (by decide +kernel)) ggX9_isLikely_X9_falls
theorem dX9_isLikely_0 : decode cX9_isLikely 0 = .ok (.aload_n 0, 1) := by decide +kernel
theorem dX9_isLikely_1 : decode cX9_isLikely 1 = .ok (.getfield 61, 3) := by decide +kernel
theorem dX9_isLikely_4 : decode cX9_isLikely 4 = .ok (.iconst 0, 1) := by decide +kernel
theorem dX9_isLikely_5 : decode cX9_isLikely 5 = .ok (.iaload, 1) := by decide +kernel
theorem dX9_isLikely_6 : decode cX9_isLikely 6 = .ok (.iload_n 1, 1) := by decide +kernel
theorem dX9_isLikely_7 : decode cX9_isLikely 7 = .ok (.invokestatic 122, 3) := by decide +kernel
theorem dX9_isLikely_10 : decode cX9_isLikely 10 = .ok (.ifCond .eq 5, 3) := by decide +kernel
theorem dX9_isLikely_13 : decode cX9_isLikely 13 = .ok (.iconst 1, 1) := by decide +kernel
theorem dX9_isLikely_14 : decode cX9_isLikely 14 = .ok (.ireturn, 1) := by decide +kernel
theorem dX9_isLikely_15 : decode cX9_isLikely 15 = .ok (.aload_n 0, 1) := by decide +kernel
theorem dX9_isLikely_16 : decode cX9_isLikely 16 = .ok (.getfield 61, 3) := by decide +kernel
theorem dX9_isLikely_19 : decode cX9_isLikely 19 = .ok (.iconst 1, 1) := by decide +kernel
theorem dX9_isLikely_20 : decode cX9_isLikely 20 = .ok (.iaload, 1) := by decide +kernel
theorem dX9_isLikely_21 : decode cX9_isLikely 21 = .ok (.iload_n 1, 1) := by decide +kernel
theorem dX9_isLikely_22 : decode cX9_isLikely 22 = .ok (.invokestatic 141, 3) := by decide +kernel
theorem dX9_isLikely_25 : decode cX9_isLikely 25 = .ok (.invokestatic 122, 3) := by decide +kernel
theorem dX9_isLikely_28 : decode cX9_isLikely 28 = .ok (.ifCond .eq 12, 3) := by decide +kernel
theorem dX9_isLikely_31 : decode cX9_isLikely 31 = .ok (.aload_n 0, 1) := by decide +kernel
theorem dX9_isLikely_32 : decode cX9_isLikely 32 = .ok (.iload_n 1, 1) := by decide +kernel
theorem dX9_isLikely_33 : decode cX9_isLikely 33 = .ok (.iconst (-1), 1) := by decide +kernel
theorem dX9_isLikely_34 : decode cX9_isLikely 34 = .ok (.invokevirtual 144, 3) := by decide +kernel
theorem dX9_isLikely_37 : decode cX9_isLikely 37 = .ok (.ifCond .ge 5, 3) := by decide +kernel
theorem dX9_isLikely_40 : decode cX9_isLikely 40 = .ok (.iconst 0, 1) := by decide +kernel
theorem dX9_isLikely_41 : decode cX9_isLikely 41 = .ok (.ireturn, 1) := by decide +kernel
theorem dX9_isLikely_42 : decode cX9_isLikely 42 = .ok (.iconst 0, 1) := by decide +kernel
theorem dX9_isLikely_43 : decode cX9_isLikely 43 = .ok (.istore_n 2, 1) := by decide +kernel
theorem dX9_isLikely_44 : decode cX9_isLikely 44 = .ok (.iload_n 2, 1) := by decide +kernel
theorem dX9_isLikely_45 : decode cX9_isLikely 45 = .ok (.aload_n 0, 1) := by decide +kernel
theorem dX9_isLikely_46 : decode cX9_isLikely 46 = .ok (.getfield 77, 3) := by decide +kernel
theorem dX9_isLikely_49 : decode cX9_isLikely 49 = .ok (.if_icmp .ge 40, 3) := by decide +kernel
theorem dX9_isLikely_52 : decode cX9_isLikely 52 = .ok (.aload_n 0, 1) := by decide +kernel
theorem dX9_isLikely_53 : decode cX9_isLikely 53 = .ok (.iload_n 2, 1) := by decide +kernel
theorem dX9_isLikely_54 : decode cX9_isLikely 54 = .ok (.iload_n 1, 1) := by decide +kernel
theorem dX9_isLikely_55 : decode cX9_isLikely 55 = .ok (.invokestatic 141, 3) := by decide +kernel
theorem dX9_isLikely_58 : decode cX9_isLikely 58 = .ok (.invokevirtual 126, 3) := by decide +kernel
theorem dX9_isLikely_61 : decode cX9_isLikely 61 = .ok (.ifCond .eq 22, 3) := by decide +kernel
theorem dX9_isLikely_64 : decode cX9_isLikely 64 = .ok (.aload_n 0, 1) := by decide +kernel
theorem dX9_isLikely_65 : decode cX9_isLikely 65 = .ok (.iload_n 2, 1) := by decide +kernel
theorem dX9_isLikely_66 : decode cX9_isLikely 66 = .ok (.invokevirtual 148, 3) := by decide +kernel
theorem dX9_isLikely_69 : decode cX9_isLikely 69 = .ok (.ifCond .ne 14, 3) := by decide +kernel
theorem dX9_isLikely_72 : decode cX9_isLikely 72 = .ok (.aload_n 0, 1) := by decide +kernel
theorem dX9_isLikely_73 : decode cX9_isLikely 73 = .ok (.iload_n 1, 1) := by decide +kernel
theorem dX9_isLikely_74 : decode cX9_isLikely 74 = .ok (.iload_n 2, 1) := by decide +kernel
theorem dX9_isLikely_75 : decode cX9_isLikely 75 = .ok (.invokevirtual 144, 3) := by decide +kernel
theorem dX9_isLikely_78 : decode cX9_isLikely 78 = .ok (.ifCond .ge 5, 3) := by decide +kernel
theorem dX9_isLikely_81 : decode cX9_isLikely 81 = .ok (.iconst 0, 1) := by decide +kernel
theorem dX9_isLikely_82 : decode cX9_isLikely 82 = .ok (.ireturn, 1) := by decide +kernel
theorem dX9_isLikely_83 : decode cX9_isLikely 83 = .ok (.iinc 2 1, 3) := by decide +kernel
theorem dX9_isLikely_86 : decode cX9_isLikely 86 = .ok (.goto (-42), 3) := by decide +kernel
theorem dX9_isLikely_89 : decode cX9_isLikely 89 = .ok (.iconst 1, 1) := by decide +kernel
theorem dX9_isLikely_90 : decode cX9_isLikely 90 = .ok (.ireturn, 1) := by decide +kernel
set_option maxRecDepth 20000 in
theorem ggX9_allFall_X9_isForward : GoodIn wsX9_allFall wsX9_isForward := goodIn_r _ [6, 7, 8, 9, 10, 5, 11, 12, 13, 21, 22, 23, 24, 25, 26, 27, 28, 29, 30, 31, 32, 33, 34, 35, 36, 37, 38, 39, 40, 41, 42, 43, 44, 45, 46, 47, 48, 49, 50, 51, 52, 53, 54, 55, 56, 57, 58, 59, 60] (by decide +kernel) (by decide +kernel)
set_option maxRecDepth 20000 in
theorem gX9_allFall_X9_isForward : GoodIn wsX9_allFall (wsV RX9 135 RX9 yX9_isForward wsX9_isForward) := goodIn_app (goodIn_of _ (by decide +kernel)) ggX9_allFall_X9_isForward
set_option maxRecDepth 20000 in
theorem ggX9_allFall_X9_falls : GoodIn wsX9_allFall wsX9_falls := goodIn_r _ [17, 18, 19, 20, 21, 22, 23, 24, 25, 26, 27, 28, 29, 30, 31, 32, 33, 34, 35, 36, 37, 38, 39, 40, 41, 42, 43, 44, 45, 46, 47, 48, 49, 50, 51, 52, 53, 54, 55, 56, 57, 58, 59, 60] (by decide +kernel) (by decide +kernel)
set_option maxRecDepth 20000 in
theorem gX9_allFall_X9_falls : GoodIn wsX9_allFall (wsV RX9 148 RX9 yX9_falls wsX9_falls) := goodIn_app (goodIn_of _ (by decide +kernel)) ggX9_allFall_X9_falls
theorem dX9_allFall_0 : decode cX9_allFall 0 = .ok (.iconst 0, 1) := by decide +kernel
theorem dX9_allFall_1 : decode cX9_allFall 1 = .ok (.istore_n 2, 1) := by decide +kernel
theorem dX9_allFall_2 : decode cX9_allFall 2 = .ok (.iload_n 2, 1) := by decide +kernel
theorem dX9_allFall_3 : decode cX9_allFall 3 = .ok (.aload_n 0, 1) := by decide +kernel
theorem dX9_allFall_4 : decode cX9_allFall 4 = .ok (.getfield 77, 3) := by decide +kernel
theorem dX9_allFall_7 : decode cX9_allFall 7 = .ok (.if_icmp .ge 28, 3) := by decide +kernel
theorem dX9_allFall_10 : decode cX9_allFall 10 = .ok (.aload_n 0, 1) := by decide +kernel
theorem dX9_allFall_11 : decode cX9_allFall 11 = .ok (.iload_n 2, 1) := by decide +kernel
theorem dX9_allFall_12 : decode cX9_allFall 12 = .ok (.iload_n 1, 1) := by decide +kernel
theorem dX9_allFall_13 : decode cX9_allFall 13 = .ok (.invokevirtual 135, 3) := by decide +kernel
theorem dX9_allFall_16 : decode cX9_allFall 16 = .ok (.ifCond .eq 13, 3) := by decide +kernel
theorem dX9_allFall_19 : decode cX9_allFall 19 = .ok (.aload_n 0, 1) := by decide +kernel
theorem dX9_allFall_20 : decode cX9_allFall 20 = .ok (.iload_n 2, 1) := by decide +kernel
theorem dX9_allFall_21 : decode cX9_allFall 21 = .ok (.invokevirtual 148, 3) := by decide +kernel
theorem dX9_allFall_24 : decode cX9_allFall 24 = .ok (.ifCond .ne 5, 3) := by decide +kernel
theorem dX9_allFall_27 : decode cX9_allFall 27 = .ok (.iconst 0, 1) := by decide +kernel
theorem dX9_allFall_28 : decode cX9_allFall 28 = .ok (.ireturn, 1) := by decide +kernel
theorem dX9_allFall_29 : decode cX9_allFall 29 = .ok (.iinc 2 1, 3) := by decide +kernel
theorem dX9_allFall_32 : decode cX9_allFall 32 = .ok (.goto (-30), 3) := by decide +kernel
theorem dX9_allFall_35 : decode cX9_allFall 35 = .ok (.iconst 1, 1) := by decide +kernel
theorem dX9_allFall_36 : decode cX9_allFall 36 = .ok (.ireturn, 1) := by decide +kernel
set_option maxRecDepth 20000 in
theorem ggX9_isBeaten_X9_isForward : GoodIn wsX9_isBeaten wsX9_isForward := goodIn_r _ [6, 7, 8, 9, 10, 5, 11, 12, 13, 30, 31, 32, 33, 34, 35, 36, 37, 38, 39, 40, 41, 42, 43, 44, 45, 46, 47, 48, 49, 50, 51, 52, 53, 54, 55, 56, 57, 58, 59, 60, 61, 62, 63, 64, 65, 66, 67, 68, 69] (by decide +kernel) (by decide +kernel)
set_option maxRecDepth 20000 in
theorem gX9_isBeaten_X9_isForward : GoodIn wsX9_isBeaten (wsV RX9 135 RX9 yX9_isForward wsX9_isForward) := goodIn_app (goodIn_of _ (by decide +kernel)) ggX9_isBeaten_X9_isForward
set_option maxRecDepth 20000 in
theorem ggX9_isBeaten_X9_falls : GoodIn wsX9_isBeaten wsX9_falls := goodIn_r _ [17, 18, 19, 20, 30, 31, 32, 33, 34, 35, 36, 37, 38, 39, 40, 41, 42, 43, 44, 45, 46, 47, 48, 49, 50, 51, 52, 53, 54, 55, 56, 57, 58, 59, 60, 61, 62, 63, 64, 65, 66, 67, 68, 69] (by decide +kernel) (by decide +kernel)
set_option maxRecDepth 20000 in
theorem gX9_isBeaten_X9_falls : GoodIn wsX9_isBeaten (wsV RX9 148 RX9 yX9_falls wsX9_falls) := goodIn_app (goodIn_of _ (by decide +kernel)) ggX9_isBeaten_X9_falls
set_option maxRecDepth 20000 in
theorem ggX9_isBeaten_X9_isAbove : GoodIn wsX9_isBeaten wsX9_isAbove := goodIn_r _ [24, 25, 26, 27, 28, 5, 29, 30, 31, 32, 33, 34, 35, 36, 37, 38, 39, 40, 41, 42, 43, 44, 45, 46, 47, 48, 49, 50, 51, 52, 53, 54, 55, 56, 57, 58, 59, 60, 61, 62, 63, 64, 65, 66, 67, 68, 69] (by decide +kernel) (by decide +kernel)
set_option maxRecDepth 20000 in
theorem gX9_isBeaten_X9_isAbove : GoodIn wsX9_isBeaten (wsV RX9 129 RX9 yX9_isAbove wsX9_isAbove) := goodIn_app (goodIn_of _ (by decide +kernel)) ggX9_isBeaten_X9_isAbove
theorem dX9_isBeaten_0 : decode cX9_isBeaten 0 = .ok (.iconst 0, 1) := by decide +kernel
theorem dX9_isBeaten_1 : decode cX9_isBeaten 1 = .ok (.istore_n 3, 1) := by decide +kernel
theorem dX9_isBeaten_2 : decode cX9_isBeaten 2 = .ok (.iload_n 3, 1) := by decide +kernel
theorem dX9_isBeaten_3 : decode cX9_isBeaten 3 = .ok (.aload_n 0, 1) := by decide +kernel
theorem dX9_isBeaten_4 : decode cX9_isBeaten 4 = .ok (.getfield 77, 3) := by decide +kernel
theorem dX9_isBeaten_7 : decode cX9_isBeaten 7 = .ok (.if_icmp .ge 37, 3) := by decide +kernel
theorem dX9_isBeaten_10 : decode cX9_isBeaten 10 = .ok (.aload_n 0, 1) := by decide +kernel
theorem dX9_isBeaten_11 : decode cX9_isBeaten 11 = .ok (.iload_n 3, 1) := by decide +kernel
theorem dX9_isBeaten_12 : decode cX9_isBeaten 12 = .ok (.iload_n 2, 1) := by decide +kernel
theorem dX9_isBeaten_13 : decode cX9_isBeaten 13 = .ok (.invokevirtual 135, 3) := by decide +kernel
theorem dX9_isBeaten_16 : decode cX9_isBeaten 16 = .ok (.ifCond .eq 22, 3) := by decide +kernel
theorem dX9_isBeaten_19 : decode cX9_isBeaten 19 = .ok (.aload_n 0, 1) := by decide +kernel
theorem dX9_isBeaten_20 : decode cX9_isBeaten 20 = .ok (.iload_n 3, 1) := by decide +kernel
theorem dX9_isBeaten_21 : decode cX9_isBeaten 21 = .ok (.invokevirtual 148, 3) := by decide +kernel
theorem dX9_isBeaten_24 : decode cX9_isBeaten 24 = .ok (.ifCond .ne 14, 3) := by decide +kernel
theorem dX9_isBeaten_27 : decode cX9_isBeaten 27 = .ok (.aload_n 0, 1) := by decide +kernel
theorem dX9_isBeaten_28 : decode cX9_isBeaten 28 = .ok (.iload_n 3, 1) := by decide +kernel
theorem dX9_isBeaten_29 : decode cX9_isBeaten 29 = .ok (.iload_n 1, 1) := by decide +kernel
theorem dX9_isBeaten_30 : decode cX9_isBeaten 30 = .ok (.invokevirtual 129, 3) := by decide +kernel
theorem dX9_isBeaten_33 : decode cX9_isBeaten 33 = .ok (.ifCond .eq 5, 3) := by decide +kernel
theorem dX9_isBeaten_36 : decode cX9_isBeaten 36 = .ok (.iconst 1, 1) := by decide +kernel
theorem dX9_isBeaten_37 : decode cX9_isBeaten 37 = .ok (.ireturn, 1) := by decide +kernel
theorem dX9_isBeaten_38 : decode cX9_isBeaten 38 = .ok (.iinc 3 1, 3) := by decide +kernel
theorem dX9_isBeaten_41 : decode cX9_isBeaten 41 = .ok (.goto (-39), 3) := by decide +kernel
theorem dX9_isBeaten_44 : decode cX9_isBeaten 44 = .ok (.iconst 0, 1) := by decide +kernel
theorem dX9_isBeaten_45 : decode cX9_isBeaten 45 = .ok (.ireturn, 1) := by decide +kernel
set_option maxRecDepth 20000 in
theorem ggX9_hindering_X9_otherOf : GoodIn wsX9_hindering wsX9_otherOf := goodIn_r _ [5] (by decide +kernel) (by decide +kernel)
set_option maxRecDepth 20000 in
theorem gX9_hindering_X9_otherOf : GoodIn wsX9_hindering (va_wsS RX9 141 yX9_otherOf wsX9_otherOf) := goodIn_app (goodIn_of _ (by decide +kernel)) ggX9_hindering_X9_otherOf
set_option maxRecDepth 20000 in
theorem ggX9_hindering_X9_isFor : GoodIn wsX9_hindering wsX9_isFor := goodIn_r _ [9, 10, 11, 41, 42, 43, 44, 45, 46, 47, 48, 49, 50, 51, 52, 53, 54, 55, 56, 57, 58, 59, 60, 61, 62, 63, 64, 65, 66, 67, 68, 69, 70, 71, 72, 73, 74, 75, 76, 77, 78, 79, 80] (by decide +kernel) (by decide +kernel)
set_option maxRecDepth 20000 in
theorem gX9_hindering_X9_isFor : GoodIn wsX9_hindering (wsV RX9 126 RX9 yX9_isFor wsX9_isFor) := goodIn_app (goodIn_of _ (by decide +kernel)) ggX9_hindering_X9_isFor
set_option maxRecDepth 20000 in
theorem ggX9_hindering_X9_applies : GoodIn wsX9_hindering wsX9_applies := goodIn_r _ [15, 16, 17, 18, 41, 42, 43, 44, 45, 46, 47, 48, 49, 50, 51, 52, 53, 54, 55, 56, 57, 58, 59, 60, 61, 62, 63, 64, 65, 66, 67, 68, 69, 70, 71, 72, 73, 74, 75, 76, 77, 78, 79, 80] (by decide +kernel) (by decide +kernel)
set_option maxRecDepth 20000 in
theorem gX9_hindering_X9_applies : GoodIn wsX9_hindering (wsV RX9 138 RX9 yX9_applies wsX9_applies) := goodIn_app (goodIn_of _ (by decide +kernel)) ggX9_hindering_X9_applies
set_option maxRecDepth 20000 in
theorem ggX9_hindering_X9_isBeaten : GoodIn wsX9_hindering wsX9_isBeaten := goodIn_r _ [22, 1, 23, 24, 25, 4, 26, 27, 6, 7, 8, 9, 10, 11, 28, 29, 30, 31, 16, 17, 18, 32, 33, 34, 35, 36, 37, 38, 39, 40, 41, 42, 43, 44, 45, 46, 47, 48, 49, 50, 51, 52, 53, 54, 55, 56, 57, 58, 59, 60, 61, 62, 63, 64, 65, 66, 67, 68, 69, 70, 71, 72, 73, 74, 75, 76, 77, 78, 79, 80] (by decide +kernel) (by decide +kernel)
set_option maxRecDepth 20000 in
theorem gX9_hindering_X9_isBeaten : GoodIn wsX9_hindering (wsV RX9 151 RX9 yX9_isBeaten wsX9_isBeaten) := goodIn_app (goodIn_of _ (by decide +kernel)) ggX9_hindering_X9_isBeaten
theorem dX9_hindering_0 : decode cX9_hindering 0 = .ok (.iconst 0, 1) := by decide +kernel
theorem dX9_hindering_1 : decode cX9_hindering 1 = .ok (.istore_n 2, 1) := by decide +kernel
theorem dX9_hindering_2 : decode cX9_hindering 2 = .ok (.iload_n 2, 1) := by decide +kernel
theorem dX9_hindering_3 : decode cX9_hindering 3 = .ok (.aload_n 0, 1) := by decide +kernel
theorem dX9_hindering_4 : decode cX9_hindering 4 = .ok (.getfield 77, 3) := by decide +kernel
theorem dX9_hindering_7 : decode cX9_hindering 7 = .ok (.if_icmp .ge 40, 3) := by decide +kernel
theorem dX9_hindering_10 : decode cX9_hindering 10 = .ok (.aload_n 0, 1) := by decide +kernel
theorem dX9_hindering_11 : decode cX9_hindering 11 = .ok (.iload_n 2, 1) := by decide +kernel
theorem dX9_hindering_12 : decode cX9_hindering 12 = .ok (.iload_n 1, 1) := by decide +kernel
theorem dX9_hindering_13 : decode cX9_hindering 13 = .ok (.invokestatic 141, 3) := by decide +kernel
theorem dX9_hindering_16 : decode cX9_hindering 16 = .ok (.invokevirtual 126, 3) := by decide +kernel
theorem dX9_hindering_19 : decode cX9_hindering 19 = .ok (.ifCond .eq 22, 3) := by decide +kernel
theorem dX9_hindering_22 : decode cX9_hindering 22 = .ok (.aload_n 0, 1) := by decide +kernel
theorem dX9_hindering_23 : decode cX9_hindering 23 = .ok (.iload_n 2, 1) := by decide +kernel
theorem dX9_hindering_24 : decode cX9_hindering 24 = .ok (.invokevirtual 138, 3) := by decide +kernel
theorem dX9_hindering_27 : decode cX9_hindering 27 = .ok (.ifCond .eq 14, 3) := by decide +kernel
theorem dX9_hindering_30 : decode cX9_hindering 30 = .ok (.aload_n 0, 1) := by decide +kernel
theorem dX9_hindering_31 : decode cX9_hindering 31 = .ok (.iload_n 2, 1) := by decide +kernel
theorem dX9_hindering_32 : decode cX9_hindering 32 = .ok (.iload_n 1, 1) := by decide +kernel
theorem dX9_hindering_33 : decode cX9_hindering 33 = .ok (.invokevirtual 151, 3) := by decide +kernel
theorem dX9_hindering_36 : decode cX9_hindering 36 = .ok (.ifCond .ne 5, 3) := by decide +kernel
theorem dX9_hindering_39 : decode cX9_hindering 39 = .ok (.iload_n 2, 1) := by decide +kernel
theorem dX9_hindering_40 : decode cX9_hindering 40 = .ok (.ireturn, 1) := by decide +kernel
theorem dX9_hindering_41 : decode cX9_hindering 41 = .ok (.iinc 2 1, 3) := by decide +kernel
theorem dX9_hindering_44 : decode cX9_hindering 44 = .ok (.goto (-42), 3) := by decide +kernel
theorem dX9_hindering_47 : decode cX9_hindering 47 = .ok (.iconst (-1), 1) := by decide +kernel
theorem dX9_hindering_48 : decode cX9_hindering 48 = .ok (.ireturn, 1) := by decide +kernel
set_option maxRecDepth 20000 in
theorem ggX9_isUnlikely_X9_has : GoodIn wsX9_isUnlikely wsX9_has := goodIn_r _ [5] (by decide +kernel) (by decide +kernel)
set_option maxRecDepth 20000 in
theorem gX9_isUnlikely_X9_has : GoodIn wsX9_isUnlikely (va_wsS RX9 122 yX9_has wsX9_has) := goodIn_app (goodIn_of _ (by decide +kernel)) ggX9_isUnlikely_X9_has
set_option maxRecDepth 20000 in
theorem ggX9_isUnlikely_X9_allFall : GoodIn wsX9_isUnlikely wsX9_allFall := goodIn_r _ [9, 10, 11, 12, 13, 4, 14, 15, 16, 17, 18, 19, 20, 21, 22, 23, 24, 25, 26, 1, 27, 49, 50, 51, 52, 53, 54, 55, 56, 57, 58, 59, 60, 61, 62, 63, 64, 65, 66, 67, 68, 69, 70, 71, 72, 73, 74, 75, 76, 77, 78, 79, 80, 81, 82, 83, 84, 85, 86, 87, 88] (by decide +kernel) (by decide +kernel)
set_option maxRecDepth 20000 in
theorem gX9_isUnlikely_X9_allFall : GoodIn wsX9_isUnlikely (wsV RX9 154 RX9 yX9_allFall wsX9_allFall) := goodIn_app (goodIn_of _ (by decide +kernel)) ggX9_isUnlikely_X9_allFall
set_option maxRecDepth 20000 in
theorem ggX9_isUnlikely_X9_otherOf : GoodIn wsX9_isUnlikely wsX9_otherOf := goodIn_r _ [30] (by decide +kernel) (by decide +kernel)
set_option maxRecDepth 20000 in
theorem gX9_isUnlikely_X9_otherOf : GoodIn wsX9_isUnlikely (va_wsS RX9 141 yX9_otherOf wsX9_otherOf) := goodIn_app (goodIn_of _ (by decide +kernel)) ggX9_isUnlikely_X9_otherOf
set_option maxRecDepth 20000 in
theorem ggX9_isUnlikely_X9_hindering : GoodIn wsX9_isUnlikely wsX9_hindering := goodIn_r _ [34, 10, 28, 29, 4, 30, 16, 17, 18, 19, 20, 21, 35, 36, 37, 38, 26, 1, 27, 39, 40, 41, 42, 11, 12, 13, 14, 15, 22, 23, 24, 25, 43, 44, 45, 46, 47, 48, 2, 3, 5, 49, 50, 51, 52, 53, 54, 55, 56, 57, 58, 59, 60, 61, 62, 63, 64, 65, 66, 67, 68, 69, 70, 71, 72, 73, 74, 75, 76, 77, 78, 79, 80, 81, 82, 83, 84, 85, 86, 87, 88] (by decide +kernel) (by decide +kernel)
set_option maxRecDepth 20000 in
theorem gX9_isUnlikely_X9_hindering : GoodIn wsX9_isUnlikely (wsV RX9 157 RX9 yX9_hindering wsX9_hindering) := goodIn_app (goodIn_of _ (by decide +kernel)) ggX9_isUnlikely_X9_hindering
theorem dX9_isUnlikely_0 : decode cX9_isUnlikely 0 = .ok (.aload_n 0, 1) := by decide +kernel
theorem dX9_isUnlikely_1 : decode cX9_isUnlikely 1 = .ok (.getfield 61, 3) := by decide +kernel
theorem dX9_isUnlikely_4 : decode cX9_isUnlikely 4 = .ok (.iconst 1, 1) := by decide +kernel
theorem dX9_isUnlikely_5 : decode cX9_isUnlikely 5 = .ok (.iaload, 1) := by decide +kernel
theorem dX9_isUnlikely_6 : decode cX9_isUnlikely 6 = .ok (.iload_n 1, 1) := by decide +kernel
theorem dX9_isUnlikely_7 : decode cX9_isUnlikely 7 = .ok (.invokestatic 122, 3) := by decide +kernel
theorem dX9_isUnlikely_10 : decode cX9_isUnlikely 10 = .ok (.ifCond .eq 39, 3) := by decide +kernel
theorem dX9_isUnlikely_13 : decode cX9_isUnlikely 13 = .ok (.aload_n 0, 1) := by decide +kernel
theorem dX9_isUnlikely_14 : decode cX9_isUnlikely 14 = .ok (.iload_n 1, 1) := by decide +kernel
theorem dX9_isUnlikely_15 : decode cX9_isUnlikely 15 = .ok (.invokevirtual 154, 3) := by decide +kernel
theorem dX9_isUnlikely_18 : decode cX9_isUnlikely 18 = .ok (.ifCond .ne 27, 3) := by decide +kernel
theorem dX9_isUnlikely_21 : decode cX9_isUnlikely 21 = .ok (.aload_n 0, 1) := by decide +kernel
theorem dX9_isUnlikely_22 : decode cX9_isUnlikely 22 = .ok (.getfield 61, 3) := by decide +kernel
theorem dX9_isUnlikely_25 : decode cX9_isUnlikely 25 = .ok (.iconst 0, 1) := by decide +kernel
theorem dX9_isUnlikely_26 : decode cX9_isUnlikely 26 = .ok (.iaload, 1) := by decide +kernel
theorem dX9_isUnlikely_27 : decode cX9_isUnlikely 27 = .ok (.iload_n 1, 1) := by decide +kernel
theorem dX9_isUnlikely_28 : decode cX9_isUnlikely 28 = .ok (.invokestatic 141, 3) := by decide +kernel
theorem dX9_isUnlikely_31 : decode cX9_isUnlikely 31 = .ok (.invokestatic 122, 3) := by decide +kernel
theorem dX9_isUnlikely_34 : decode cX9_isUnlikely 34 = .ok (.ifCond .ne 11, 3) := by decide +kernel
theorem dX9_isUnlikely_37 : decode cX9_isUnlikely 37 = .ok (.aload_n 0, 1) := by decide +kernel
theorem dX9_isUnlikely_38 : decode cX9_isUnlikely 38 = .ok (.iload_n 1, 1) := by decide +kernel
theorem dX9_isUnlikely_39 : decode cX9_isUnlikely 39 = .ok (.invokevirtual 157, 3) := by decide +kernel
theorem dX9_isUnlikely_42 : decode cX9_isUnlikely 42 = .ok (.ifCond .lt 7, 3) := by decide +kernel
theorem dX9_isUnlikely_45 : decode cX9_isUnlikely 45 = .ok (.iconst 1, 1) := by decide +kernel
theorem dX9_isUnlikely_46 : decode cX9_isUnlikely 46 = .ok (.goto 4, 3) := by decide +kernel
theorem dX9_isUnlikely_49 : decode cX9_isUnlikely 49 = .ok (.iconst 0, 1) := by decide +kernel
theorem dX9_isUnlikely_50 : decode cX9_isUnlikely 50 = .ok (.ireturn, 1) := by decide +kernel
set_option maxRecDepth 20000 in
theorem ggX9_holds_X9_isSure : GoodIn wsX9_holds wsX9_isSure := goodIn_r _ [5, 6, 7, 8, 9, 10, 11, 12, 4, 13, 14, 15, 16, 17, 18, 19, 70, 71, 72, 73, 74, 75, 76, 77, 78, 79, 80, 81, 82, 83, 84, 85, 86, 87, 88, 89, 90, 91, 92, 93, 94, 95, 96, 97, 98, 99, 100, 101, 102, 103, 104, 105, 106, 107, 108, 109] (by decide +kernel) (by decide +kernel)
set_option maxRecDepth 20000 in
theorem gX9_holds_X9_isSure : GoodIn wsX9_holds (wsV RX9 160 RX9 yX9_isSure wsX9_isSure) := goodIn_app (goodIn_of _ (by decide +kernel)) ggX9_holds_X9_isSure
set_option maxRecDepth 20000 in
theorem ggX9_holds_X9_isNever : GoodIn wsX9_holds wsX9_isNever := goodIn_r _ [23, 6, 7, 8, 9, 10, 11, 12, 4, 13, 14, 15, 16, 17, 18, 19, 70, 71, 72, 73, 74, 75, 76, 77, 78, 79, 80, 81, 82, 83, 84, 85, 86, 87, 88, 89, 90, 91, 92, 93, 94, 95, 96, 97, 98, 99, 100, 101, 102, 103, 104, 105, 106, 107, 108, 109] (by decide +kernel) (by decide +kernel)
set_option maxRecDepth 20000 in
theorem gX9_holds_X9_isNever : GoodIn wsX9_holds (wsV RX9 163 RX9 yX9_isNever wsX9_isNever) := goodIn_app (goodIn_of _ (by decide +kernel)) ggX9_holds_X9_isNever
set_option maxRecDepth 20000 in
theorem ggX9_holds_X9_isLikely : GoodIn wsX9_holds wsX9_isLikely := goodIn_r _ [27, 10, 7, 11, 12, 4, 13, 28, 29, 30, 31, 32, 33, 34, 35, 36, 37, 38, 8, 14, 15, 16, 17, 18, 19, 39, 40, 41, 42, 9, 43, 44, 45, 46, 47, 48, 49, 50, 51, 52, 53, 70, 71, 72, 73, 74, 75, 76, 77, 78, 79, 80, 81, 82, 83, 84, 85, 86, 87, 88, 89, 90, 91, 92, 93, 94, 95, 96, 97, 98, 99, 100, 101, 102, 103, 104, 105, 106, 107, 108, 109] (by decide +kernel) (by decide +kernel)
set_option maxRecDepth 20000 in
theorem gX9_holds_X9_isLikely : GoodIn wsX9_holds (wsV RX9 166 RX9 yX9_isLikely wsX9_isLikely) := goodIn_app (goodIn_of _ (by decide +kernel)) ggX9_holds_X9_isLikely
set_option maxRecDepth 20000 in
theorem ggX9_holds_X9_isUnlikely : GoodIn wsX9_holds wsX9_isUnlikely := goodIn_r _ [57, 10, 11, 12, 4, 13, 58, 59, 60, 61, 7, 35, 36, 37, 38, 8, 14, 15, 16, 17, 18, 19, 50, 51, 52, 53, 9, 43, 28, 29, 30, 62, 63, 64, 65, 39, 40, 41, 42, 66, 67, 68, 69, 44, 45, 46, 47, 48, 49, 70, 71, 72, 73, 74, 75, 76, 77, 78, 79, 80, 81, 82, 83, 84, 85, 86, 87, 88, 89, 90, 91, 92, 93, 94, 95, 96, 97, 98, 99, 100, 101, 102, 103, 104, 105, 106, 107, 108, 109] (by decide +kernel) (by decide +kernel)
set_option maxRecDepth 20000 in
theorem gX9_holds_X9_isUnlikely : GoodIn wsX9_holds (wsV RX9 169 RX9 yX9_isUnlikely wsX9_isUnlikely) := goodIn_app (goodIn_of _ (by decide +kernel)) ggX9_holds_X9_isUnlikely
theorem dX9_holds_0 : decode cX9_holds 0 = .ok (.iload_n 1, 1) := by decide +kernel
theorem dX9_holds_1 : decode cX9_holds 1 = .ok (.tableswitch 45 0 2 #[27, 33, 39], 27) := by decide +kernel
theorem dX9_holds_28 : decode cX9_holds 28 = .ok (.aload_n 0, 1) := by decide +kernel
theorem dX9_holds_29 : decode cX9_holds 29 = .ok (.iload_n 2, 1) := by decide +kernel
theorem dX9_holds_30 : decode cX9_holds 30 = .ok (.invokevirtual 160, 3) := by decide +kernel
theorem dX9_holds_33 : decode cX9_holds 33 = .ok (.ireturn, 1) := by decide +kernel
theorem dX9_holds_34 : decode cX9_holds 34 = .ok (.aload_n 0, 1) := by decide +kernel
theorem dX9_holds_35 : decode cX9_holds 35 = .ok (.iload_n 2, 1) := by decide +kernel
theorem dX9_holds_36 : decode cX9_holds 36 = .ok (.invokevirtual 163, 3) := by decide +kernel
theorem dX9_holds_39 : decode cX9_holds 39 = .ok (.ireturn, 1) := by decide +kernel
theorem dX9_holds_40 : decode cX9_holds 40 = .ok (.aload_n 0, 1) := by decide +kernel
theorem dX9_holds_41 : decode cX9_holds 41 = .ok (.iload_n 2, 1) := by decide +kernel
theorem dX9_holds_42 : decode cX9_holds 42 = .ok (.invokevirtual 166, 3) := by decide +kernel
theorem dX9_holds_45 : decode cX9_holds 45 = .ok (.ireturn, 1) := by decide +kernel
theorem dX9_holds_46 : decode cX9_holds 46 = .ok (.aload_n 0, 1) := by decide +kernel
theorem dX9_holds_47 : decode cX9_holds 47 = .ok (.iload_n 2, 1) := by decide +kernel
theorem dX9_holds_48 : decode cX9_holds 48 = .ok (.invokevirtual 169, 3) := by decide +kernel
theorem dX9_holds_51 : decode cX9_holds 51 = .ok (.ireturn, 1) := by decide +kernel
set_option maxRecDepth 20000 in
theorem ggX9_tags_X9_has : GoodIn wsX9_tags wsX9_has := goodIn_r _ [8] (by decide +kernel) (by decide +kernel)
set_option maxRecDepth 20000 in
theorem gX9_tags_X9_has : GoodIn wsX9_tags (va_wsS RX9 122 yX9_has wsX9_has) := goodIn_app (goodIn_of _ (by decide +kernel)) ggX9_tags_X9_has
set_option maxRecDepth 20000 in
theorem ggX9_tags_X9_holds : GoodIn wsX9_tags wsX9_holds := goodIn_r _ [12, 13, 14, 15, 7, 16, 17, 18, 19, 20, 2, 5, 6, 8, 21, 22, 23, 24, 25, 26, 27, 28, 29, 30, 31, 32, 33, 34, 35, 36, 37, 38, 39, 40, 41, 42, 43, 44, 45, 46, 47, 48, 49, 50, 51, 52, 53, 54, 55, 56, 57, 58, 59, 60, 61, 62, 63, 64, 65, 66, 67, 68, 69, 70, 71, 72, 73, 74, 75, 76, 77, 78, 79, 80, 81, 82, 83, 84, 85, 86, 87, 88, 89, 90, 91, 92, 93, 94, 95, 96, 97, 98, 99, 100, 101, 102, 103, 104, 105, 106, 107, 108, 109, 110, 111, 112, 113, 114, 115, 116] (by decide +kernel) (by decide +kernel)
set_option maxRecDepth 20000 in
theorem gX9_tags_X9_holds : GoodIn wsX9_tags (wsV RX9 175 RX9 yX9_holds wsX9_holds) := goodIn_app (goodIn_of _ (by decide +kernel)) ggX9_tags_X9_holds
theorem dX9_tags_0 : decode cX9_tags 0 = .ok (.iconst 0, 1) := by decide +kernel
theorem dX9_tags_1 : decode cX9_tags 1 = .ok (.istore_n 1, 1) := by decide +kernel
theorem dX9_tags_2 : decode cX9_tags 2 = .ok (.iload_n 1, 1) := by decide +kernel
theorem dX9_tags_3 : decode cX9_tags 3 = .ok (.bipush 80, 2) := by decide +kernel
theorem dX9_tags_5 : decode cX9_tags 5 = .ok (.if_icmp .ge 16, 3) := by decide +kernel
theorem dX9_tags_8 : decode cX9_tags 8 = .ok (.aload_n 0, 1) := by decide +kernel
theorem dX9_tags_9 : decode cX9_tags 9 = .ok (.getfield 58, 3) := by decide +kernel
theorem dX9_tags_12 : decode cX9_tags 12 = .ok (.iload_n 1, 1) := by decide +kernel
theorem dX9_tags_13 : decode cX9_tags 13 = .ok (.iconst 0, 1) := by decide +kernel
theorem dX9_tags_14 : decode cX9_tags 14 = .ok (.iastore, 1) := by decide +kernel
theorem dX9_tags_15 : decode cX9_tags 15 = .ok (.iinc 1 1, 3) := by decide +kernel
theorem dX9_tags_18 : decode cX9_tags 18 = .ok (.goto (-16), 3) := by decide +kernel
theorem dX9_tags_21 : decode cX9_tags 21 = .ok (.iconst 0, 1) := by decide +kernel
theorem dX9_tags_22 : decode cX9_tags 22 = .ok (.istore_n 1, 1) := by decide +kernel
theorem dX9_tags_23 : decode cX9_tags 23 = .ok (.iload_n 1, 1) := by decide +kernel
theorem dX9_tags_24 : decode cX9_tags 24 = .ok (.iconst 4, 1) := by decide +kernel
theorem dX9_tags_25 : decode cX9_tags 25 = .ok (.if_icmp .ge 16, 3) := by decide +kernel
theorem dX9_tags_28 : decode cX9_tags 28 = .ok (.aload_n 0, 1) := by decide +kernel
theorem dX9_tags_29 : decode cX9_tags 29 = .ok (.getfield 61, 3) := by decide +kernel
theorem dX9_tags_32 : decode cX9_tags 32 = .ok (.iload_n 1, 1) := by decide +kernel
theorem dX9_tags_33 : decode cX9_tags 33 = .ok (.iconst 0, 1) := by decide +kernel
theorem dX9_tags_34 : decode cX9_tags 34 = .ok (.iastore, 1) := by decide +kernel
theorem dX9_tags_35 : decode cX9_tags 35 = .ok (.iinc 1 1, 3) := by decide +kernel
theorem dX9_tags_38 : decode cX9_tags 38 = .ok (.goto (-15), 3) := by decide +kernel
theorem dX9_tags_41 : decode cX9_tags 41 = .ok (.aload_n 0, 1) := by decide +kernel
theorem dX9_tags_42 : decode cX9_tags 42 = .ok (.iconst 0, 1) := by decide +kernel
theorem dX9_tags_43 : decode cX9_tags 43 = .ok (.putfield 172, 3) := by decide +kernel
theorem dX9_tags_46 : decode cX9_tags 46 = .ok (.iconst 1, 1) := by decide +kernel
theorem dX9_tags_47 : decode cX9_tags 47 = .ok (.istore_n 1, 1) := by decide +kernel
theorem dX9_tags_48 : decode cX9_tags 48 = .ok (.iload_n 1, 1) := by decide +kernel
theorem dX9_tags_49 : decode cX9_tags 49 = .ok (.ifCond .eq 187, 3) := by decide +kernel
theorem dX9_tags_52 : decode cX9_tags 52 = .ok (.iconst 0, 1) := by decide +kernel
theorem dX9_tags_53 : decode cX9_tags 53 = .ok (.istore_n 1, 1) := by decide +kernel
theorem dX9_tags_54 : decode cX9_tags 54 = .ok (.iconst 0, 1) := by decide +kernel
theorem dX9_tags_55 : decode cX9_tags 55 = .ok (.istore_n 2, 1) := by decide +kernel
theorem dX9_tags_56 : decode cX9_tags 56 = .ok (.iload_n 2, 1) := by decide +kernel
theorem dX9_tags_57 : decode cX9_tags 57 = .ok (.iconst 4, 1) := by decide +kernel
theorem dX9_tags_58 : decode cX9_tags 58 = .ok (.if_icmp .ge 87, 3) := by decide +kernel
theorem dX9_tags_61 : decode cX9_tags 61 = .ok (.aload_n 0, 1) := by decide +kernel
theorem dX9_tags_62 : decode cX9_tags 62 = .ok (.getfield 64, 3) := by decide +kernel
theorem dX9_tags_65 : decode cX9_tags 65 = .ok (.iload_n 2, 1) := by decide +kernel
theorem dX9_tags_66 : decode cX9_tags 66 = .ok (.iconst 0, 1) := by decide +kernel
theorem dX9_tags_67 : decode cX9_tags 67 = .ok (.iastore, 1) := by decide +kernel
theorem dX9_tags_68 : decode cX9_tags 68 = .ok (.iconst 0, 1) := by decide +kernel
theorem dX9_tags_69 : decode cX9_tags 69 = .ok (.istore_n 3, 1) := by decide +kernel
theorem dX9_tags_70 : decode cX9_tags 70 = .ok (.iload_n 3, 1) := by decide +kernel
theorem dX9_tags_71 : decode cX9_tags 71 = .ok (.bipush 20, 2) := by decide +kernel
theorem dX9_tags_73 : decode cX9_tags 73 = .ok (.if_icmp .ge 47, 3) := by decide +kernel
theorem dX9_tags_76 : decode cX9_tags 76 = .ok (.aload_n 0, 1) := by decide +kernel
theorem dX9_tags_77 : decode cX9_tags 77 = .ok (.getfield 64, 3) := by decide +kernel
theorem dX9_tags_80 : decode cX9_tags 80 = .ok (.iload_n 2, 1) := by decide +kernel
theorem dX9_tags_81 : decode cX9_tags 81 = .ok (.dup2, 1) := by decide +kernel
theorem dX9_tags_82 : decode cX9_tags 82 = .ok (.iaload, 1) := by decide +kernel
theorem dX9_tags_83 : decode cX9_tags 83 = .ok (.aload_n 0, 1) := by decide +kernel
theorem dX9_tags_84 : decode cX9_tags 84 = .ok (.getfield 61, 3) := by decide +kernel
theorem dX9_tags_87 : decode cX9_tags 87 = .ok (.iload_n 2, 1) := by decide +kernel
theorem dX9_tags_88 : decode cX9_tags 88 = .ok (.iaload, 1) := by decide +kernel
theorem dX9_tags_89 : decode cX9_tags 89 = .ok (.iload_n 3, 1) := by decide +kernel
theorem dX9_tags_90 : decode cX9_tags 90 = .ok (.invokestatic 122, 3) := by decide +kernel
theorem dX9_tags_93 : decode cX9_tags 93 = .ok (.ifCond .ne 18, 3) := by decide +kernel
theorem dX9_tags_96 : decode cX9_tags 96 = .ok (.aload_n 0, 1) := by decide +kernel
theorem dX9_tags_97 : decode cX9_tags 97 = .ok (.iload_n 2, 1) := by decide +kernel
theorem dX9_tags_98 : decode cX9_tags 98 = .ok (.iload_n 3, 1) := by decide +kernel
theorem dX9_tags_99 : decode cX9_tags 99 = .ok (.invokevirtual 175, 3) := by decide +kernel
theorem dX9_tags_102 : decode cX9_tags 102 = .ok (.ifCond .eq 9, 3) := by decide +kernel
theorem dX9_tags_105 : decode cX9_tags 105 = .ok (.iconst 1, 1) := by decide +kernel
theorem dX9_tags_106 : decode cX9_tags 106 = .ok (.iload_n 3, 1) := by decide +kernel
theorem dX9_tags_107 : decode cX9_tags 107 = .ok (.ishl, 1) := by decide +kernel
theorem dX9_tags_108 : decode cX9_tags 108 = .ok (.goto 4, 3) := by decide +kernel
theorem dX9_tags_111 : decode cX9_tags 111 = .ok (.iconst 0, 1) := by decide +kernel
theorem dX9_tags_112 : decode cX9_tags 112 = .ok (.ior, 1) := by decide +kernel
theorem dX9_tags_113 : decode cX9_tags 113 = .ok (.iastore, 1) := by decide +kernel
theorem dX9_tags_114 : decode cX9_tags 114 = .ok (.iinc 3 1, 3) := by decide +kernel
theorem dX9_tags_117 : decode cX9_tags 117 = .ok (.goto (-47), 3) := by decide +kernel
theorem dX9_tags_120 : decode cX9_tags 120 = .ok (.iload_n 1, 1) := by decide +kernel
theorem dX9_tags_121 : decode cX9_tags 121 = .ok (.ifCond .ne 12, 3) := by decide +kernel
theorem dX9_tags_124 : decode cX9_tags 124 = .ok (.aload_n 0, 1) := by decide +kernel
theorem dX9_tags_125 : decode cX9_tags 125 = .ok (.getfield 64, 3) := by decide +kernel
theorem dX9_tags_128 : decode cX9_tags 128 = .ok (.iload_n 2, 1) := by decide +kernel
theorem dX9_tags_129 : decode cX9_tags 129 = .ok (.iaload, 1) := by decide +kernel
theorem dX9_tags_130 : decode cX9_tags 130 = .ok (.ifCond .eq 7, 3) := by decide +kernel
theorem dX9_tags_133 : decode cX9_tags 133 = .ok (.iconst 1, 1) := by decide +kernel
theorem dX9_tags_134 : decode cX9_tags 134 = .ok (.goto 4, 3) := by decide +kernel
theorem dX9_tags_137 : decode cX9_tags 137 = .ok (.iconst 0, 1) := by decide +kernel
theorem dX9_tags_138 : decode cX9_tags 138 = .ok (.istore_n 1, 1) := by decide +kernel
theorem dX9_tags_139 : decode cX9_tags 139 = .ok (.iinc 2 1, 3) := by decide +kernel
theorem dX9_tags_142 : decode cX9_tags 142 = .ok (.goto (-86), 3) := by decide +kernel
theorem dX9_tags_145 : decode cX9_tags 145 = .ok (.aload_n 0, 1) := by decide +kernel
theorem dX9_tags_146 : decode cX9_tags 146 = .ok (.dup, 1) := by decide +kernel
theorem dX9_tags_147 : decode cX9_tags 147 = .ok (.getfield 172, 3) := by decide +kernel
theorem dX9_tags_150 : decode cX9_tags 150 = .ok (.iload_n 1, 1) := by decide +kernel
theorem dX9_tags_151 : decode cX9_tags 151 = .ok (.ifCond .eq 7, 3) := by decide +kernel
theorem dX9_tags_154 : decode cX9_tags 154 = .ok (.iconst 1, 1) := by decide +kernel
theorem dX9_tags_155 : decode cX9_tags 155 = .ok (.goto 4, 3) := by decide +kernel
theorem dX9_tags_158 : decode cX9_tags 158 = .ok (.iconst 0, 1) := by decide +kernel
theorem dX9_tags_159 : decode cX9_tags 159 = .ok (.iadd, 1) := by decide +kernel
theorem dX9_tags_160 : decode cX9_tags 160 = .ok (.putfield 172, 3) := by decide +kernel
theorem dX9_tags_163 : decode cX9_tags 163 = .ok (.iconst 0, 1) := by decide +kernel
theorem dX9_tags_164 : decode cX9_tags 164 = .ok (.istore_n 2, 1) := by decide +kernel
theorem dX9_tags_165 : decode cX9_tags 165 = .ok (.iload_n 2, 1) := by decide +kernel
theorem dX9_tags_166 : decode cX9_tags 166 = .ok (.iconst 4, 1) := by decide +kernel
theorem dX9_tags_167 : decode cX9_tags 167 = .ok (.if_icmp .ge 66, 3) := by decide +kernel
theorem dX9_tags_170 : decode cX9_tags 170 = .ok (.aload_n 0, 1) := by decide +kernel
theorem dX9_tags_171 : decode cX9_tags 171 = .ok (.getfield 61, 3) := by decide +kernel
theorem dX9_tags_174 : decode cX9_tags 174 = .ok (.iload_n 2, 1) := by decide +kernel
theorem dX9_tags_175 : decode cX9_tags 175 = .ok (.dup2, 1) := by decide +kernel
theorem dX9_tags_176 : decode cX9_tags 176 = .ok (.iaload, 1) := by decide +kernel
theorem dX9_tags_177 : decode cX9_tags 177 = .ok (.aload_n 0, 1) := by decide +kernel
theorem dX9_tags_178 : decode cX9_tags 178 = .ok (.getfield 64, 3) := by decide +kernel
theorem dX9_tags_181 : decode cX9_tags 181 = .ok (.iload_n 2, 1) := by decide +kernel
theorem dX9_tags_182 : decode cX9_tags 182 = .ok (.iaload, 1) := by decide +kernel
theorem dX9_tags_183 : decode cX9_tags 183 = .ok (.ior, 1) := by decide +kernel
theorem dX9_tags_184 : decode cX9_tags 184 = .ok (.iastore, 1) := by decide +kernel
theorem dX9_tags_185 : decode cX9_tags 185 = .ok (.iconst 0, 1) := by decide +kernel
theorem dX9_tags_186 : decode cX9_tags 186 = .ok (.istore_n 3, 1) := by decide +kernel
theorem dX9_tags_187 : decode cX9_tags 187 = .ok (.iload_n 3, 1) := by decide +kernel
theorem dX9_tags_188 : decode cX9_tags 188 = .ok (.bipush 20, 2) := by decide +kernel
theorem dX9_tags_190 : decode cX9_tags 190 = .ok (.if_icmp .ge 37, 3) := by decide +kernel
theorem dX9_tags_193 : decode cX9_tags 193 = .ok (.aload_n 0, 1) := by decide +kernel
theorem dX9_tags_194 : decode cX9_tags 194 = .ok (.getfield 64, 3) := by decide +kernel
theorem dX9_tags_197 : decode cX9_tags 197 = .ok (.iload_n 2, 1) := by decide +kernel
theorem dX9_tags_198 : decode cX9_tags 198 = .ok (.iaload, 1) := by decide +kernel
theorem dX9_tags_199 : decode cX9_tags 199 = .ok (.iload_n 3, 1) := by decide +kernel
theorem dX9_tags_200 : decode cX9_tags 200 = .ok (.invokestatic 122, 3) := by decide +kernel
theorem dX9_tags_203 : decode cX9_tags 203 = .ok (.ifCond .eq 18, 3) := by decide +kernel
theorem dX9_tags_206 : decode cX9_tags 206 = .ok (.aload_n 0, 1) := by decide +kernel
theorem dX9_tags_207 : decode cX9_tags 207 = .ok (.getfield 58, 3) := by decide +kernel
theorem dX9_tags_210 : decode cX9_tags 210 = .ok (.bipush 20, 2) := by decide +kernel
theorem dX9_tags_212 : decode cX9_tags 212 = .ok (.iload_n 2, 1) := by decide +kernel
theorem dX9_tags_213 : decode cX9_tags 213 = .ok (.imul, 1) := by decide +kernel
theorem dX9_tags_214 : decode cX9_tags 214 = .ok (.iload_n 3, 1) := by decide +kernel
theorem dX9_tags_215 : decode cX9_tags 215 = .ok (.iadd, 1) := by decide +kernel
theorem dX9_tags_216 : decode cX9_tags 216 = .ok (.aload_n 0, 1) := by decide +kernel
theorem dX9_tags_217 : decode cX9_tags 217 = .ok (.getfield 172, 3) := by decide +kernel
theorem dX9_tags_220 : decode cX9_tags 220 = .ok (.iastore, 1) := by decide +kernel
theorem dX9_tags_221 : decode cX9_tags 221 = .ok (.iinc 3 1, 3) := by decide +kernel
theorem dX9_tags_224 : decode cX9_tags 224 = .ok (.goto (-37), 3) := by decide +kernel
theorem dX9_tags_227 : decode cX9_tags 227 = .ok (.iinc 2 1, 3) := by decide +kernel
theorem dX9_tags_230 : decode cX9_tags 230 = .ok (.goto (-65), 3) := by decide +kernel
theorem dX9_tags_233 : decode cX9_tags 233 = .ok (.goto (-185), 3) := by decide +kernel
theorem dX9_tags_236 : decode cX9_tags 236 = .ok (.return_, 1) := by decide +kernel
set_option maxRecDepth 20000 in
theorem ggX9_tag_X9_isLiteral : GoodIn wsX9_tag wsX9_isLiteral := goodIn_r _ [5, 6, 7, 4, 8] (by decide +kernel) (by decide +kernel)
set_option maxRecDepth 20000 in
theorem gX9_tag_X9_isLiteral : GoodIn wsX9_tag (va_wsS RX9 104 yX9_isLiteral wsX9_isLiteral) := goodIn_app (goodIn_of _ (by decide +kernel)) ggX9_tag_X9_isLiteral
set_option maxRecDepth 20000 in
theorem ggX9_tag_X9_isTag : GoodIn wsX9_tag wsX9_isTag := goodIn_r _ [11, 6, 7, 4, 8] (by decide +kernel) (by decide +kernel)
set_option maxRecDepth 20000 in
theorem gX9_tag_X9_isTag : GoodIn wsX9_tag (va_wsS RX9 178 yX9_isTag wsX9_isTag) := goodIn_app (goodIn_of _ (by decide +kernel)) ggX9_tag_X9_isTag
set_option maxRecDepth 20000 in
theorem ggX9_tag_X9_tags : GoodIn wsX9_tag wsX9_tags := goodIn_r _ [15, 1, 16, 17, 18, 19, 20, 4, 21, 22, 23, 24, 25, 26, 27, 28, 29, 30, 31, 32, 33, 34, 35, 36, 37, 38, 39, 40, 41, 42, 43, 44, 45, 46, 47, 48, 49, 50, 51, 52, 53, 54, 55, 56, 57, 58, 59, 60, 61, 62, 63, 64, 65, 66, 67, 68, 69, 70, 71, 72, 73, 74, 75, 76, 77, 78, 79, 80, 81, 82, 83, 84, 85, 86, 87, 88, 89, 90, 91, 92, 93, 94, 95, 96, 97, 98, 99, 100, 101, 102, 103, 104, 105, 106, 107, 108, 109, 110, 111, 112, 113, 114, 115, 116, 117, 118, 119, 120, 121, 122, 123, 124, 125, 126, 127, 128, 129] (by decide +kernel) (by decide +kernel)
set_option maxRecDepth 20000 in
theorem gX9_tag_X9_tags : GoodIn wsX9_tag (wsV RX9 181 RX9 yX9_tags wsX9_tags) := goodIn_app (goodIn_of _ (by decide +kernel)) ggX9_tag_X9_tags
theorem dX9_tag_0 : decode cX9_tag 0 = .ok (.iload_n 1, 1) := by decide +kernel
theorem dX9_tag_1 : decode cX9_tag 1 = .ok (.invokestatic 104, 3) := by decide +kernel
theorem dX9_tag_4 : decode cX9_tag 4 = .ok (.ifCond .eq 10, 3) := by decide +kernel
theorem dX9_tag_7 : decode cX9_tag 7 = .ok (.iload_n 2, 1) := by decide +kernel
theorem dX9_tag_8 : decode cX9_tag 8 = .ok (.invokestatic 178, 3) := by decide +kernel
theorem dX9_tag_11 : decode cX9_tag 11 = .ok (.ifCond .ne 5, 3) := by decide +kernel
theorem dX9_tag_14 : decode cX9_tag 14 = .ok (.iconst (-1), 1) := by decide +kernel
theorem dX9_tag_15 : decode cX9_tag 15 = .ok (.ireturn, 1) := by decide +kernel
theorem dX9_tag_16 : decode cX9_tag 16 = .ok (.aload_n 0, 1) := by decide +kernel
theorem dX9_tag_17 : decode cX9_tag 17 = .ok (.invokevirtual 181, 3) := by decide +kernel
theorem dX9_tag_20 : decode cX9_tag 20 = .ok (.aload_n 0, 1) := by decide +kernel
theorem dX9_tag_21 : decode cX9_tag 21 = .ok (.getfield 58, 3) := by decide +kernel
theorem dX9_tag_24 : decode cX9_tag 24 = .ok (.bipush 20, 2) := by decide +kernel
theorem dX9_tag_26 : decode cX9_tag 26 = .ok (.iload_n 2, 1) := by decide +kernel
theorem dX9_tag_27 : decode cX9_tag 27 = .ok (.imul, 1) := by decide +kernel
theorem dX9_tag_28 : decode cX9_tag 28 = .ok (.iload_n 1, 1) := by decide +kernel
theorem dX9_tag_29 : decode cX9_tag 29 = .ok (.iadd, 1) := by decide +kernel
theorem dX9_tag_30 : decode cX9_tag 30 = .ok (.iaload, 1) := by decide +kernel
theorem dX9_tag_31 : decode cX9_tag 31 = .ok (.ireturn, 1) := by decide +kernel
theorem dX9_cameIn_0 : decode cX9_cameIn 0 = .ok (.iconst 0, 1) := by decide +kernel
theorem dX9_cameIn_1 : decode cX9_cameIn 1 = .ok (.istore 4, 2) := by decide +kernel
theorem dX9_cameIn_3 : decode cX9_cameIn 3 = .ok (.iconst 0, 1) := by decide +kernel
theorem dX9_cameIn_4 : decode cX9_cameIn 4 = .ok (.istore 5, 2) := by decide +kernel
theorem dX9_cameIn_6 : decode cX9_cameIn 6 = .ok (.iload 5, 2) := by decide +kernel
theorem dX9_cameIn_8 : decode cX9_cameIn 8 = .ok (.bipush 20, 2) := by decide +kernel
theorem dX9_cameIn_10 : decode cX9_cameIn 10 = .ok (.if_icmp .ge 60, 3) := by decide +kernel
theorem dX9_cameIn_13 : decode cX9_cameIn 13 = .ok (.aload_n 0, 1) := by decide +kernel
theorem dX9_cameIn_14 : decode cX9_cameIn 14 = .ok (.getfield 58, 3) := by decide +kernel
theorem dX9_cameIn_17 : decode cX9_cameIn 17 = .ok (.bipush 20, 2) := by decide +kernel
theorem dX9_cameIn_19 : decode cX9_cameIn 19 = .ok (.iload_n 1, 1) := by decide +kernel
theorem dX9_cameIn_20 : decode cX9_cameIn 20 = .ok (.imul, 1) := by decide +kernel
theorem dX9_cameIn_21 : decode cX9_cameIn 21 = .ok (.iload 5, 2) := by decide +kernel
theorem dX9_cameIn_23 : decode cX9_cameIn 23 = .ok (.iadd, 1) := by decide +kernel
theorem dX9_cameIn_24 : decode cX9_cameIn 24 = .ok (.iaload, 1) := by decide +kernel
theorem dX9_cameIn_25 : decode cX9_cameIn 25 = .ok (.istore 6, 2) := by decide +kernel
theorem dX9_cameIn_27 : decode cX9_cameIn 27 = .ok (.iload 4, 2) := by decide +kernel
theorem dX9_cameIn_29 : decode cX9_cameIn 29 = .ok (.iload 6, 2) := by decide +kernel
theorem dX9_cameIn_31 : decode cX9_cameIn 31 = .ok (.ifCond .le 29, 3) := by decide +kernel
theorem dX9_cameIn_34 : decode cX9_cameIn 34 = .ok (.iload_n 3, 1) := by decide +kernel
theorem dX9_cameIn_35 : decode cX9_cameIn 35 = .ok (.ifCond .eq 12, 3) := by decide +kernel
theorem dX9_cameIn_38 : decode cX9_cameIn 38 = .ok (.iload 6, 2) := by decide +kernel
theorem dX9_cameIn_40 : decode cX9_cameIn 40 = .ok (.iload_n 2, 1) := by decide +kernel
theorem dX9_cameIn_41 : decode cX9_cameIn 41 = .ok (.if_icmp .ge 19, 3) := by decide +kernel
theorem dX9_cameIn_44 : decode cX9_cameIn 44 = .ok (.goto 9, 3) := by decide +kernel
theorem dX9_cameIn_47 : decode cX9_cameIn 47 = .ok (.iload 6, 2) := by decide +kernel
theorem dX9_cameIn_49 : decode cX9_cameIn 49 = .ok (.iload_n 2, 1) := by decide +kernel
theorem dX9_cameIn_50 : decode cX9_cameIn 50 = .ok (.if_icmp .ne 10, 3) := by decide +kernel
theorem dX9_cameIn_53 : decode cX9_cameIn 53 = .ok (.iconst 1, 1) := by decide +kernel
theorem dX9_cameIn_54 : decode cX9_cameIn 54 = .ok (.iload 5, 2) := by decide +kernel
theorem dX9_cameIn_56 : decode cX9_cameIn 56 = .ok (.ishl, 1) := by decide +kernel
theorem dX9_cameIn_57 : decode cX9_cameIn 57 = .ok (.goto 4, 3) := by decide +kernel
theorem dX9_cameIn_60 : decode cX9_cameIn 60 = .ok (.iconst 0, 1) := by decide +kernel
theorem dX9_cameIn_61 : decode cX9_cameIn 61 = .ok (.ior, 1) := by decide +kernel
theorem dX9_cameIn_62 : decode cX9_cameIn 62 = .ok (.istore 4, 2) := by decide +kernel
theorem dX9_cameIn_64 : decode cX9_cameIn 64 = .ok (.iinc 5 1, 3) := by decide +kernel
theorem dX9_cameIn_67 : decode cX9_cameIn 67 = .ok (.goto (-61), 3) := by decide +kernel
theorem dX9_cameIn_70 : decode cX9_cameIn 70 = .ok (.iload 4, 2) := by decide +kernel
theorem dX9_cameIn_72 : decode cX9_cameIn 72 = .ok (.ireturn, 1) := by decide +kernel
set_option maxRecDepth 20000 in
theorem ggX9_tagged_X9_isTag : GoodIn wsX9_tagged wsX9_isTag := goodIn_r _ [5, 6, 7, 4, 8] (by decide +kernel) (by decide +kernel)
set_option maxRecDepth 20000 in
theorem gX9_tagged_X9_isTag : GoodIn wsX9_tagged (va_wsS RX9 178 yX9_isTag wsX9_isTag) := goodIn_app (goodIn_of _ (by decide +kernel)) ggX9_tagged_X9_isTag
set_option maxRecDepth 20000 in
theorem ggX9_tagged_X9_tags : GoodIn wsX9_tagged wsX9_tags := goodIn_r _ [12, 13, 1, 14, 15, 16, 17, 4, 18, 19, 20, 21, 22, 23, 24, 25, 26, 27, 28, 29, 30, 31, 32, 33, 34, 35, 36, 37, 38, 39, 40, 41, 42, 43, 44, 45, 46, 47, 48, 49, 50, 51, 52, 53, 54, 55, 56, 57, 58, 59, 60, 61, 62, 63, 64, 65, 66, 67, 68, 69, 70, 71, 72, 73, 74, 75, 76, 77, 78, 79, 80, 81, 82, 83, 84, 85, 86, 91, 92, 93, 94, 95, 96, 97, 98, 99, 100, 101, 102, 103, 104, 105, 106, 107, 108, 109, 110, 111, 112, 113, 114, 115, 116, 117, 118, 119, 120, 121, 122, 123, 124, 125, 126, 127, 128, 129, 130] (by decide +kernel) (by decide +kernel)
set_option maxRecDepth 20000 in
theorem gX9_tagged_X9_tags : GoodIn wsX9_tagged (wsV RX9 181 RX9 yX9_tags wsX9_tags) := goodIn_app (goodIn_of _ (by decide +kernel)) ggX9_tagged_X9_tags
set_option maxRecDepth 20000 in
theorem ggX9_tagged_X9_cameIn : GoodIn wsX9_tagged wsX9_cameIn := goodIn_r _ [90, 13, 91, 92, 93, 94, 95, 96, 97, 98, 99, 100, 101, 102, 103, 104, 105, 106, 107, 108, 109, 110, 111, 112, 113, 114, 115, 116, 117, 118, 119, 120, 121, 122, 123, 124, 125, 126, 127, 128, 129, 130] (by decide +kernel) (by decide +kernel)
set_option maxRecDepth 20000 in
theorem gX9_tagged_X9_cameIn : GoodIn wsX9_tagged (wsV RX9 184 RX9 yX9_cameIn wsX9_cameIn) := goodIn_app (goodIn_of _ (by decide +kernel)) ggX9_tagged_X9_cameIn
theorem dX9_tagged_0 : decode cX9_tagged 0 = .ok (.iload_n 1, 1) := by decide +kernel
theorem dX9_tagged_1 : decode cX9_tagged 1 = .ok (.invokestatic 178, 3) := by decide +kernel
theorem dX9_tagged_4 : decode cX9_tagged 4 = .ok (.ifCond .eq 7, 3) := by decide +kernel
theorem dX9_tagged_7 : decode cX9_tagged 7 = .ok (.iload_n 2, 1) := by decide +kernel
theorem dX9_tagged_8 : decode cX9_tagged 8 = .ok (.ifCond .ge 5, 3) := by decide +kernel
theorem dX9_tagged_11 : decode cX9_tagged 11 = .ok (.iconst (-1), 1) := by decide +kernel
theorem dX9_tagged_12 : decode cX9_tagged 12 = .ok (.ireturn, 1) := by decide +kernel
theorem dX9_tagged_13 : decode cX9_tagged 13 = .ok (.aload_n 0, 1) := by decide +kernel
theorem dX9_tagged_14 : decode cX9_tagged 14 = .ok (.invokevirtual 181, 3) := by decide +kernel
theorem dX9_tagged_17 : decode cX9_tagged 17 = .ok (.iload_n 2, 1) := by decide +kernel
theorem dX9_tagged_18 : decode cX9_tagged 18 = .ok (.ifCond .ne 12, 3) := by decide +kernel
theorem dX9_tagged_21 : decode cX9_tagged 21 = .ok (.aload_n 0, 1) := by decide +kernel
theorem dX9_tagged_22 : decode cX9_tagged 22 = .ok (.getfield 61, 3) := by decide +kernel
theorem dX9_tagged_25 : decode cX9_tagged 25 = .ok (.iload_n 1, 1) := by decide +kernel
theorem dX9_tagged_26 : decode cX9_tagged 26 = .ok (.iaload, 1) := by decide +kernel
theorem dX9_tagged_27 : decode cX9_tagged 27 = .ok (.goto 10, 3) := by decide +kernel
theorem dX9_tagged_30 : decode cX9_tagged 30 = .ok (.aload_n 0, 1) := by decide +kernel
theorem dX9_tagged_31 : decode cX9_tagged 31 = .ok (.iload_n 1, 1) := by decide +kernel
theorem dX9_tagged_32 : decode cX9_tagged 32 = .ok (.iload_n 2, 1) := by decide +kernel
theorem dX9_tagged_33 : decode cX9_tagged 33 = .ok (.iconst 0, 1) := by decide +kernel
theorem dX9_tagged_34 : decode cX9_tagged 34 = .ok (.invokevirtual 184, 3) := by decide +kernel
theorem dX9_tagged_37 : decode cX9_tagged 37 = .ok (.ireturn, 1) := by decide +kernel
set_option maxRecDepth 20000 in
theorem ggX9_state_X9_isRule : GoodIn wsX9_state wsX9_isRule := goodIn_r _ [5, 6, 7, 8, 4, 9, 88, 89, 90, 91, 92, 93, 94, 95, 96, 97, 98, 99, 100, 101, 102, 103, 104, 105, 106, 107, 108, 109, 110, 111, 112, 113, 114, 115, 116, 117, 118, 119, 120, 121, 122, 123, 124, 125, 126, 127] (by decide +kernel) (by decide +kernel)
set_option maxRecDepth 20000 in
theorem gX9_state_X9_isRule : GoodIn wsX9_state (wsV RX9 119 RX9 yX9_isRule wsX9_isRule) := goodIn_app (goodIn_of _ (by decide +kernel)) ggX9_state_X9_isRule
set_option maxRecDepth 20000 in
theorem ggX9_state_X9_tags : GoodIn wsX9_state wsX9_tags := goodIn_r _ [13, 14, 15, 16, 17, 18, 19, 4, 20, 21, 22, 23, 24, 25, 26, 27, 28, 29, 6, 30, 31, 32, 33, 34, 35, 36, 37, 38, 39, 40, 41, 42, 43, 44, 45, 46, 47, 48, 49, 50, 51, 52, 53, 54, 55, 56, 57, 58, 59, 60, 61, 62, 63, 64, 65, 66, 67, 68, 69, 70, 71, 72, 73, 74, 75, 76, 77, 78, 79, 80, 81, 82, 83, 84, 85, 86, 87, 88, 89, 90, 91, 92, 93, 94, 95, 96, 97, 98, 99, 100, 101, 102, 103, 104, 105, 106, 107, 108, 109, 110, 111, 112, 113, 114, 115, 116, 117, 118, 119, 120, 121, 122, 123, 124, 125, 126, 127] (by decide +kernel) (by decide +kernel)
set_option maxRecDepth 20000 in
theorem gX9_state_X9_tags : GoodIn wsX9_state (wsV RX9 181 RX9 yX9_tags wsX9_tags) := goodIn_app (goodIn_of _ (by decide +kernel)) ggX9_state_X9_tags
set_option maxRecDepth 20000 in
theorem ggX9_state_X9_applies : GoodIn wsX9_state wsX9_applies := goodIn_r _ [60, 31, 15, 61, 88, 89, 90, 91, 92, 93, 94, 95, 96, 97, 98, 99, 100, 101, 102, 103, 104, 105, 106, 107, 108, 109, 110, 111, 112, 113, 114, 115, 116, 117, 118, 119, 120, 121, 122, 123, 124, 125, 126, 127] (by decide +kernel) (by decide +kernel)
set_option maxRecDepth 20000 in
theorem gX9_state_X9_applies : GoodIn wsX9_state (wsV RX9 138 RX9 yX9_applies wsX9_applies) := goodIn_app (goodIn_of _ (by decide +kernel)) ggX9_state_X9_applies
set_option maxRecDepth 20000 in
theorem ggX9_state_X9_falls : GoodIn wsX9_state wsX9_falls := goodIn_r _ [71, 31, 15, 61, 88, 89, 90, 91, 92, 93, 94, 95, 96, 97, 98, 99, 100, 101, 102, 103, 104, 105, 106, 107, 108, 109, 110, 111, 112, 113, 114, 115, 116, 117, 118, 119, 120, 121, 122, 123, 124, 125, 126, 127] (by decide +kernel) (by decide +kernel)
set_option maxRecDepth 20000 in
theorem gX9_state_X9_falls : GoodIn wsX9_state (wsV RX9 148 RX9 yX9_falls wsX9_falls) := goodIn_app (goodIn_of _ (by decide +kernel)) ggX9_state_X9_falls
theorem dX9_state_0 : decode cX9_state 0 = .ok (.aload_n 0, 1) := by decide +kernel
theorem dX9_state_1 : decode cX9_state 1 = .ok (.iload_n 1, 1) := by decide +kernel
theorem dX9_state_2 : decode cX9_state 2 = .ok (.invokevirtual 119, 3) := by decide +kernel
theorem dX9_state_5 : decode cX9_state 5 = .ok (.ifCond .ne 5, 3) := by decide +kernel
theorem dX9_state_8 : decode cX9_state 8 = .ok (.iconst (-1), 1) := by decide +kernel
theorem dX9_state_9 : decode cX9_state 9 = .ok (.ireturn, 1) := by decide +kernel
theorem dX9_state_10 : decode cX9_state 10 = .ok (.aload_n 0, 1) := by decide +kernel
theorem dX9_state_11 : decode cX9_state 11 = .ok (.invokevirtual 181, 3) := by decide +kernel
theorem dX9_state_14 : decode cX9_state 14 = .ok (.aload_n 0, 1) := by decide +kernel
theorem dX9_state_15 : decode cX9_state 15 = .ok (.iload_n 1, 1) := by decide +kernel
theorem dX9_state_16 : decode cX9_state 16 = .ok (.invokevirtual 138, 3) := by decide +kernel
theorem dX9_state_19 : decode cX9_state 19 = .ok (.ifCond .eq 7, 3) := by decide +kernel
theorem dX9_state_22 : decode cX9_state 22 = .ok (.iconst 1, 1) := by decide +kernel
theorem dX9_state_23 : decode cX9_state 23 = .ok (.goto 4, 3) := by decide +kernel
theorem dX9_state_26 : decode cX9_state 26 = .ok (.iconst 0, 1) := by decide +kernel
theorem dX9_state_27 : decode cX9_state 27 = .ok (.aload_n 0, 1) := by decide +kernel
theorem dX9_state_28 : decode cX9_state 28 = .ok (.iload_n 1, 1) := by decide +kernel
theorem dX9_state_29 : decode cX9_state 29 = .ok (.invokevirtual 148, 3) := by decide +kernel
theorem dX9_state_32 : decode cX9_state 32 = .ok (.ifCond .eq 7, 3) := by decide +kernel
theorem dX9_state_35 : decode cX9_state 35 = .ok (.iconst 2, 1) := by decide +kernel
theorem dX9_state_36 : decode cX9_state 36 = .ok (.goto 4, 3) := by decide +kernel
theorem dX9_state_39 : decode cX9_state 39 = .ok (.iconst 0, 1) := by decide +kernel
theorem dX9_state_40 : decode cX9_state 40 = .ok (.iadd, 1) := by decide +kernel
theorem dX9_state_41 : decode cX9_state 41 = .ok (.ireturn, 1) := by decide +kernel
set_option maxRecDepth 20000 in
theorem ggX9_threats_X9_otherOf : GoodIn wsX9_threats wsX9_otherOf := goodIn_r _ [5] (by decide +kernel) (by decide +kernel)
set_option maxRecDepth 20000 in
theorem gX9_threats_X9_otherOf : GoodIn wsX9_threats (va_wsS RX9 141 yX9_otherOf wsX9_otherOf) := goodIn_app (goodIn_of _ (by decide +kernel)) ggX9_threats_X9_otherOf
set_option maxRecDepth 20000 in
theorem ggX9_threats_X9_isFor : GoodIn wsX9_threats wsX9_isFor := goodIn_r _ [9, 10, 11, 41, 42, 43, 44, 45, 46, 47, 48, 49, 50, 51, 52, 53, 54, 55, 56, 57, 58, 59, 60, 61, 62, 63, 64, 65, 66, 67, 68, 69, 70, 71, 72, 73, 74, 75, 76, 77, 78, 79, 80] (by decide +kernel) (by decide +kernel)
set_option maxRecDepth 20000 in
theorem gX9_threats_X9_isFor : GoodIn wsX9_threats (wsV RX9 126 RX9 yX9_isFor wsX9_isFor) := goodIn_app (goodIn_of _ (by decide +kernel)) ggX9_threats_X9_isFor
set_option maxRecDepth 20000 in
theorem ggX9_threats_X9_falls : GoodIn wsX9_threats wsX9_falls := goodIn_r _ [15, 16, 17, 18, 41, 42, 43, 44, 45, 46, 47, 48, 49, 50, 51, 52, 53, 54, 55, 56, 57, 58, 59, 60, 61, 62, 63, 64, 65, 66, 67, 68, 69, 70, 71, 72, 73, 74, 75, 76, 77, 78, 79, 80] (by decide +kernel) (by decide +kernel)
set_option maxRecDepth 20000 in
theorem gX9_threats_X9_falls : GoodIn wsX9_threats (wsV RX9 148 RX9 yX9_falls wsX9_falls) := goodIn_app (goodIn_of _ (by decide +kernel)) ggX9_threats_X9_falls
set_option maxRecDepth 20000 in
theorem ggX9_threats_X9_forcing : GoodIn wsX9_threats wsX9_forcing := goodIn_r _ [22, 1, 23, 24, 25, 4, 26, 27, 6, 7, 8, 9, 10, 11, 28, 29, 30, 31, 16, 17, 18, 32, 33, 34, 35, 36, 37, 38, 39, 40, 41, 42, 43, 44, 45, 46, 47, 48, 49, 50, 51, 52, 53, 54, 55, 56, 57, 58, 59, 60, 61, 62, 63, 64, 65, 66, 67, 68, 69, 70, 71, 72, 73, 74, 75, 76, 77, 78, 79, 80] (by decide +kernel) (by decide +kernel)
set_option maxRecDepth 20000 in
theorem gX9_threats_X9_forcing : GoodIn wsX9_threats (wsV RX9 144 RX9 yX9_forcing wsX9_forcing) := goodIn_app (goodIn_of _ (by decide +kernel)) ggX9_threats_X9_forcing
theorem dX9_threats_0 : decode cX9_threats 0 = .ok (.iconst 0, 1) := by decide +kernel
theorem dX9_threats_1 : decode cX9_threats 1 = .ok (.istore_n 2, 1) := by decide +kernel
theorem dX9_threats_2 : decode cX9_threats 2 = .ok (.iconst 0, 1) := by decide +kernel
theorem dX9_threats_3 : decode cX9_threats 3 = .ok (.istore_n 3, 1) := by decide +kernel
theorem dX9_threats_4 : decode cX9_threats 4 = .ok (.iload_n 3, 1) := by decide +kernel
theorem dX9_threats_5 : decode cX9_threats 5 = .ok (.aload_n 0, 1) := by decide +kernel
theorem dX9_threats_6 : decode cX9_threats 6 = .ok (.getfield 77, 3) := by decide +kernel
theorem dX9_threats_9 : decode cX9_threats 9 = .ok (.if_icmp .ge 48, 3) := by decide +kernel
theorem dX9_threats_12 : decode cX9_threats 12 = .ok (.iload_n 2, 1) := by decide +kernel
theorem dX9_threats_13 : decode cX9_threats 13 = .ok (.aload_n 0, 1) := by decide +kernel
theorem dX9_threats_14 : decode cX9_threats 14 = .ok (.iload_n 3, 1) := by decide +kernel
theorem dX9_threats_15 : decode cX9_threats 15 = .ok (.iload_n 1, 1) := by decide +kernel
theorem dX9_threats_16 : decode cX9_threats 16 = .ok (.invokestatic 141, 3) := by decide +kernel
theorem dX9_threats_19 : decode cX9_threats 19 = .ok (.invokevirtual 126, 3) := by decide +kernel
theorem dX9_threats_22 : decode cX9_threats 22 = .ok (.ifCond .eq 26, 3) := by decide +kernel
theorem dX9_threats_25 : decode cX9_threats 25 = .ok (.aload_n 0, 1) := by decide +kernel
theorem dX9_threats_26 : decode cX9_threats 26 = .ok (.iload_n 3, 1) := by decide +kernel
theorem dX9_threats_27 : decode cX9_threats 27 = .ok (.invokevirtual 148, 3) := by decide +kernel
theorem dX9_threats_30 : decode cX9_threats 30 = .ok (.ifCond .ne 18, 3) := by decide +kernel
theorem dX9_threats_33 : decode cX9_threats 33 = .ok (.aload_n 0, 1) := by decide +kernel
theorem dX9_threats_34 : decode cX9_threats 34 = .ok (.iload_n 1, 1) := by decide +kernel
theorem dX9_threats_35 : decode cX9_threats 35 = .ok (.iload_n 3, 1) := by decide +kernel
theorem dX9_threats_36 : decode cX9_threats 36 = .ok (.invokevirtual 144, 3) := by decide +kernel
theorem dX9_threats_39 : decode cX9_threats 39 = .ok (.ifCond .ge 9, 3) := by decide +kernel
theorem dX9_threats_42 : decode cX9_threats 42 = .ok (.iconst 1, 1) := by decide +kernel
theorem dX9_threats_43 : decode cX9_threats 43 = .ok (.iload_n 3, 1) := by decide +kernel
theorem dX9_threats_44 : decode cX9_threats 44 = .ok (.ishl, 1) := by decide +kernel
theorem dX9_threats_45 : decode cX9_threats 45 = .ok (.goto 4, 3) := by decide +kernel
theorem dX9_threats_48 : decode cX9_threats 48 = .ok (.iconst 0, 1) := by decide +kernel
theorem dX9_threats_49 : decode cX9_threats 49 = .ok (.ior, 1) := by decide +kernel
theorem dX9_threats_50 : decode cX9_threats 50 = .ok (.istore_n 2, 1) := by decide +kernel
theorem dX9_threats_51 : decode cX9_threats 51 = .ok (.iinc 3 1, 3) := by decide +kernel
theorem dX9_threats_54 : decode cX9_threats 54 = .ok (.goto (-50), 3) := by decide +kernel
theorem dX9_threats_57 : decode cX9_threats 57 = .ok (.iload_n 2, 1) := by decide +kernel
theorem dX9_threats_58 : decode cX9_threats 58 = .ok (.ireturn, 1) := by decide +kernel
set_option maxRecDepth 20000 in
theorem ggX9_team_X9_isForward : GoodIn wsX9_team wsX9_isForward := goodIn_r _ [6, 7, 8, 9, 10, 5, 11, 12, 13, 21, 22, 23, 24, 25, 26, 27, 28, 29, 30, 31, 32, 33, 34, 35, 36, 37, 38, 39, 40, 41, 42, 43, 44, 45, 46, 47, 48, 49, 50, 51, 52, 53, 54, 55, 56, 57, 58, 59, 60] (by decide +kernel) (by decide +kernel)
set_option maxRecDepth 20000 in
theorem gX9_team_X9_isForward : GoodIn wsX9_team (wsV RX9 135 RX9 yX9_isForward wsX9_isForward) := goodIn_app (goodIn_of _ (by decide +kernel)) ggX9_team_X9_isForward
set_option maxRecDepth 20000 in
theorem ggX9_team_X9_applies : GoodIn wsX9_team wsX9_applies := goodIn_r _ [17, 18, 19, 20, 21, 22, 23, 24, 25, 26, 27, 28, 29, 30, 31, 32, 33, 34, 35, 36, 37, 38, 39, 40, 41, 42, 43, 44, 45, 46, 47, 48, 49, 50, 51, 52, 53, 54, 55, 56, 57, 58, 59, 60] (by decide +kernel) (by decide +kernel)
set_option maxRecDepth 20000 in
theorem gX9_team_X9_applies : GoodIn wsX9_team (wsV RX9 138 RX9 yX9_applies wsX9_applies) := goodIn_app (goodIn_of _ (by decide +kernel)) ggX9_team_X9_applies
theorem dX9_team_0 : decode cX9_team 0 = .ok (.iconst 0, 1) := by decide +kernel
theorem dX9_team_1 : decode cX9_team 1 = .ok (.istore_n 2, 1) := by decide +kernel
theorem dX9_team_2 : decode cX9_team 2 = .ok (.iconst 0, 1) := by decide +kernel
theorem dX9_team_3 : decode cX9_team 3 = .ok (.istore_n 3, 1) := by decide +kernel
theorem dX9_team_4 : decode cX9_team 4 = .ok (.iload_n 3, 1) := by decide +kernel
theorem dX9_team_5 : decode cX9_team 5 = .ok (.aload_n 0, 1) := by decide +kernel
theorem dX9_team_6 : decode cX9_team 6 = .ok (.getfield 77, 3) := by decide +kernel
theorem dX9_team_9 : decode cX9_team 9 = .ok (.if_icmp .ge 36, 3) := by decide +kernel
theorem dX9_team_12 : decode cX9_team 12 = .ok (.iload_n 2, 1) := by decide +kernel
theorem dX9_team_13 : decode cX9_team 13 = .ok (.aload_n 0, 1) := by decide +kernel
theorem dX9_team_14 : decode cX9_team 14 = .ok (.iload_n 3, 1) := by decide +kernel
theorem dX9_team_15 : decode cX9_team 15 = .ok (.iload_n 1, 1) := by decide +kernel
theorem dX9_team_16 : decode cX9_team 16 = .ok (.invokevirtual 135, 3) := by decide +kernel
theorem dX9_team_19 : decode cX9_team 19 = .ok (.ifCond .eq 17, 3) := by decide +kernel
theorem dX9_team_22 : decode cX9_team 22 = .ok (.aload_n 0, 1) := by decide +kernel
theorem dX9_team_23 : decode cX9_team 23 = .ok (.iload_n 3, 1) := by decide +kernel
theorem dX9_team_24 : decode cX9_team 24 = .ok (.invokevirtual 138, 3) := by decide +kernel
theorem dX9_team_27 : decode cX9_team 27 = .ok (.ifCond .eq 9, 3) := by decide +kernel
theorem dX9_team_30 : decode cX9_team 30 = .ok (.iconst 1, 1) := by decide +kernel
theorem dX9_team_31 : decode cX9_team 31 = .ok (.iload_n 3, 1) := by decide +kernel
theorem dX9_team_32 : decode cX9_team 32 = .ok (.ishl, 1) := by decide +kernel
theorem dX9_team_33 : decode cX9_team 33 = .ok (.goto 4, 3) := by decide +kernel
theorem dX9_team_36 : decode cX9_team 36 = .ok (.iconst 0, 1) := by decide +kernel
theorem dX9_team_37 : decode cX9_team 37 = .ok (.ior, 1) := by decide +kernel
theorem dX9_team_38 : decode cX9_team 38 = .ok (.istore_n 2, 1) := by decide +kernel
theorem dX9_team_39 : decode cX9_team 39 = .ok (.iinc 3 1, 3) := by decide +kernel
theorem dX9_team_42 : decode cX9_team 42 = .ok (.goto (-38), 3) := by decide +kernel
theorem dX9_team_45 : decode cX9_team 45 = .ok (.iload_n 2, 1) := by decide +kernel
theorem dX9_team_46 : decode cX9_team 46 = .ok (.ireturn, 1) := by decide +kernel
set_option maxRecDepth 20000 in
theorem ggX9_sides_X9_isLiteral : GoodIn wsX9_sides wsX9_isLiteral := goodIn_r _ [4, 5, 6, 3, 7] (by decide +kernel) (by decide +kernel)
set_option maxRecDepth 20000 in
theorem gX9_sides_X9_isLiteral : GoodIn wsX9_sides (va_wsS RX9 104 yX9_isLiteral wsX9_isLiteral) := goodIn_app (goodIn_of _ (by decide +kernel)) ggX9_sides_X9_isLiteral
set_option maxRecDepth 20000 in
theorem ggX9_sides_X9_isBit : GoodIn wsX9_sides wsX9_isBit := goodIn_r _ [10, 5, 6, 3, 7] (by decide +kernel) (by decide +kernel)
set_option maxRecDepth 20000 in
theorem gX9_sides_X9_isBit : GoodIn wsX9_sides (va_wsS RX9 108 yX9_isBit wsX9_isBit) := goodIn_app (goodIn_of _ (by decide +kernel)) ggX9_sides_X9_isBit
set_option maxRecDepth 20000 in
theorem ggX9_sides_X9_tags : GoodIn wsX9_sides wsX9_tags := goodIn_r _ [14, 15, 16, 17, 18, 19, 20, 3, 21, 22, 23, 24, 25, 26, 27, 28, 29, 30, 31, 32, 33, 34, 35, 36, 37, 38, 39, 40, 41, 42, 43, 44, 45, 46, 47, 48, 49, 50, 51, 52, 53, 54, 55, 56, 57, 58, 59, 60, 61, 62, 63, 64, 65, 66, 67, 68, 69, 70, 71, 72, 73, 74, 75, 76, 77, 78, 79, 80, 81, 82, 83, 84, 85, 86, 87, 88, 89, 98, 99, 100, 101, 102, 103, 104, 105, 106, 107, 108, 109, 110, 111, 112, 113, 114, 115, 116, 117, 118, 119, 120, 121, 122, 123, 124, 125, 126, 127, 128, 129, 130, 131, 132, 133, 134, 135, 136, 137] (by decide +kernel) (by decide +kernel)
set_option maxRecDepth 20000 in
theorem gX9_sides_X9_tags : GoodIn wsX9_sides (wsV RX9 181 RX9 yX9_tags wsX9_tags) := goodIn_app (goodIn_of _ (by decide +kernel)) ggX9_sides_X9_tags
set_option maxRecDepth 20000 in
theorem ggX9_sides_X9_threats : GoodIn wsX9_sides wsX9_threats := goodIn_r _ [93, 31, 48, 49, 3, 50, 34, 35, 36, 37, 38, 39, 70, 71, 72, 73, 33, 16, 63, 51, 52, 53, 54, 55, 56, 57, 58, 32, 59, 60, 61, 62, 64, 65, 66, 67, 68, 69, 19, 20, 21, 98, 99, 100, 101, 102, 103, 104, 105, 106, 107, 108, 109, 110, 111, 112, 113, 114, 115, 116, 117, 118, 119, 120, 121, 122, 123, 124, 125, 126, 127, 128, 129, 130, 131, 132, 133, 134, 135, 136, 137] (by decide +kernel) (by decide +kernel)
set_option maxRecDepth 20000 in
theorem gX9_sides_X9_threats : GoodIn wsX9_sides (wsV RX9 188 RX9 yX9_threats wsX9_threats) := goodIn_app (goodIn_of _ (by decide +kernel)) ggX9_sides_X9_threats
set_option maxRecDepth 20000 in
theorem ggX9_sides_X9_team : GoodIn wsX9_sides wsX9_team := goodIn_r _ [97, 31, 55, 56, 57, 3, 58, 32, 34, 35, 36, 37, 38, 39, 59, 60, 61, 62, 33, 16, 63, 98, 99, 100, 101, 102, 103, 104, 105, 106, 107, 108, 109, 110, 111, 112, 113, 114, 115, 116, 117, 118, 119, 120, 121, 122, 123, 124, 125, 126, 127, 128, 129, 130, 131, 132, 133, 134, 135, 136, 137] (by decide +kernel) (by decide +kernel)
set_option maxRecDepth 20000 in
theorem gX9_sides_X9_team : GoodIn wsX9_sides (wsV RX9 191 RX9 yX9_team wsX9_team) := goodIn_app (goodIn_of _ (by decide +kernel)) ggX9_sides_X9_team
theorem dX9_sides_0 : decode cX9_sides 0 = .ok (.iload_n 1, 1) := by decide +kernel
theorem dX9_sides_1 : decode cX9_sides 1 = .ok (.invokestatic 104, 3) := by decide +kernel
theorem dX9_sides_4 : decode cX9_sides 4 = .ok (.ifCond .eq 10, 3) := by decide +kernel
theorem dX9_sides_7 : decode cX9_sides 7 = .ok (.iload_n 2, 1) := by decide +kernel
theorem dX9_sides_8 : decode cX9_sides 8 = .ok (.invokestatic 108, 3) := by decide +kernel
theorem dX9_sides_11 : decode cX9_sides 11 = .ok (.ifCond .ne 5, 3) := by decide +kernel
theorem dX9_sides_14 : decode cX9_sides 14 = .ok (.iconst (-1), 1) := by decide +kernel
theorem dX9_sides_15 : decode cX9_sides 15 = .ok (.ireturn, 1) := by decide +kernel
theorem dX9_sides_16 : decode cX9_sides 16 = .ok (.aload_n 0, 1) := by decide +kernel
theorem dX9_sides_17 : decode cX9_sides 17 = .ok (.invokevirtual 181, 3) := by decide +kernel
theorem dX9_sides_20 : decode cX9_sides 20 = .ok (.iload_n 2, 1) := by decide +kernel
theorem dX9_sides_21 : decode cX9_sides 21 = .ok (.ifCond .ne 11, 3) := by decide +kernel
theorem dX9_sides_24 : decode cX9_sides 24 = .ok (.aload_n 0, 1) := by decide +kernel
theorem dX9_sides_25 : decode cX9_sides 25 = .ok (.iload_n 1, 1) := by decide +kernel
theorem dX9_sides_26 : decode cX9_sides 26 = .ok (.invokevirtual 188, 3) := by decide +kernel
theorem dX9_sides_29 : decode cX9_sides 29 = .ok (.goto 8, 3) := by decide +kernel
theorem dX9_sides_32 : decode cX9_sides 32 = .ok (.aload_n 0, 1) := by decide +kernel
theorem dX9_sides_33 : decode cX9_sides 33 = .ok (.iload_n 1, 1) := by decide +kernel
theorem dX9_sides_34 : decode cX9_sides 34 = .ok (.invokevirtual 191, 3) := by decide +kernel
theorem dX9_sides_37 : decode cX9_sides 37 = .ok (.ireturn, 1) := by decide +kernel
theorem dX9_force_0 : decode cX9_force 0 = .ok (.aload_n 0, 1) := by decide +kernel
theorem dX9_force_1 : decode cX9_force 1 = .ok (.getfield 67, 3) := by decide +kernel
theorem dX9_force_4 : decode cX9_force 4 = .ok (.iconst 2, 1) := by decide +kernel
theorem dX9_force_5 : decode cX9_force 5 = .ok (.dup2, 1) := by decide +kernel
theorem dX9_force_6 : decode cX9_force 6 = .ok (.iaload, 1) := by decide +kernel
theorem dX9_force_7 : decode cX9_force 7 = .ok (.aload_n 0, 1) := by decide +kernel
theorem dX9_force_8 : decode cX9_force 8 = .ok (.getfield 16, 3) := by decide +kernel
theorem dX9_force_11 : decode cX9_force 11 = .ok (.iload_n 1, 1) := by decide +kernel
theorem dX9_force_12 : decode cX9_force 12 = .ok (.iaload, 1) := by decide +kernel
theorem dX9_force_13 : decode cX9_force 13 = .ok (.ior, 1) := by decide +kernel
theorem dX9_force_14 : decode cX9_force 14 = .ok (.iastore, 1) := by decide +kernel
theorem dX9_force_15 : decode cX9_force 15 = .ok (.aload_n 0, 1) := by decide +kernel
theorem dX9_force_16 : decode cX9_force 16 = .ok (.getfield 67, 3) := by decide +kernel
theorem dX9_force_19 : decode cX9_force 19 = .ok (.iconst 3, 1) := by decide +kernel
theorem dX9_force_20 : decode cX9_force 20 = .ok (.dup2, 1) := by decide +kernel
theorem dX9_force_21 : decode cX9_force 21 = .ok (.iaload, 1) := by decide +kernel
theorem dX9_force_22 : decode cX9_force 22 = .ok (.aload_n 0, 1) := by decide +kernel
theorem dX9_force_23 : decode cX9_force 23 = .ok (.getfield 19, 3) := by decide +kernel
theorem dX9_force_26 : decode cX9_force 26 = .ok (.iload_n 1, 1) := by decide +kernel
theorem dX9_force_27 : decode cX9_force 27 = .ok (.iaload, 1) := by decide +kernel
theorem dX9_force_28 : decode cX9_force 28 = .ok (.ior, 1) := by decide +kernel
theorem dX9_force_29 : decode cX9_force 29 = .ok (.iastore, 1) := by decide +kernel
theorem dX9_force_30 : decode cX9_force 30 = .ok (.return_, 1) := by decide +kernel
set_option maxRecDepth 20000 in
theorem ggX9_fall_X9_firstOf : GoodIn wsX9_fall wsX9_firstOf := goodIn_r _ [8, 9, 10, 11, 12, 13] (by decide +kernel) (by decide +kernel)
set_option maxRecDepth 20000 in
theorem gX9_fall_X9_firstOf : GoodIn wsX9_fall (va_wsS RX9 194 yX9_firstOf wsX9_firstOf) := goodIn_app (goodIn_of _ (by decide +kernel)) ggX9_fall_X9_firstOf
theorem dX9_fall_0 : decode cX9_fall 0 = .ok (.aload_n 0, 1) := by decide +kernel
theorem dX9_fall_1 : decode cX9_fall 1 = .ok (.getfield 16, 3) := by decide +kernel
theorem dX9_fall_4 : decode cX9_fall 4 = .ok (.iload_n 1, 1) := by decide +kernel
theorem dX9_fall_5 : decode cX9_fall 5 = .ok (.iaload, 1) := by decide +kernel
theorem dX9_fall_6 : decode cX9_fall 6 = .ok (.aload_n 0, 1) := by decide +kernel
theorem dX9_fall_7 : decode cX9_fall 7 = .ok (.getfield 61, 3) := by decide +kernel
theorem dX9_fall_10 : decode cX9_fall 10 = .ok (.iconst 3, 1) := by decide +kernel
theorem dX9_fall_11 : decode cX9_fall 11 = .ok (.iaload, 1) := by decide +kernel
theorem dX9_fall_12 : decode cX9_fall 12 = .ok (.iand, 1) := by decide +kernel
theorem dX9_fall_13 : decode cX9_fall 13 = .ok (.istore_n 2, 1) := by decide +kernel
theorem dX9_fall_14 : decode cX9_fall 14 = .ok (.iload_n 2, 1) := by decide +kernel
theorem dX9_fall_15 : decode cX9_fall 15 = .ok (.ifCond .eq 21, 3) := by decide +kernel
theorem dX9_fall_18 : decode cX9_fall 18 = .ok (.aload_n 0, 1) := by decide +kernel
theorem dX9_fall_19 : decode cX9_fall 19 = .ok (.getfield 67, 3) := by decide +kernel
theorem dX9_fall_22 : decode cX9_fall 22 = .ok (.iconst 3, 1) := by decide +kernel
theorem dX9_fall_23 : decode cX9_fall 23 = .ok (.dup2, 1) := by decide +kernel
theorem dX9_fall_24 : decode cX9_fall 24 = .ok (.iaload, 1) := by decide +kernel
theorem dX9_fall_25 : decode cX9_fall 25 = .ok (.iconst 1, 1) := by decide +kernel
theorem dX9_fall_26 : decode cX9_fall 26 = .ok (.iload_n 2, 1) := by decide +kernel
theorem dX9_fall_27 : decode cX9_fall 27 = .ok (.invokestatic 194, 3) := by decide +kernel
theorem dX9_fall_30 : decode cX9_fall 30 = .ok (.ishl, 1) := by decide +kernel
theorem dX9_fall_31 : decode cX9_fall 31 = .ok (.ior, 1) := by decide +kernel
theorem dX9_fall_32 : decode cX9_fall 32 = .ok (.iastore, 1) := by decide +kernel
theorem dX9_fall_33 : decode cX9_fall 33 = .ok (.goto 30, 3) := by decide +kernel
theorem dX9_fall_36 : decode cX9_fall 36 = .ok (.aload_n 0, 1) := by decide +kernel
theorem dX9_fall_37 : decode cX9_fall 37 = .ok (.getfield 67, 3) := by decide +kernel
theorem dX9_fall_40 : decode cX9_fall 40 = .ok (.iconst 2, 1) := by decide +kernel
theorem dX9_fall_41 : decode cX9_fall 41 = .ok (.dup2, 1) := by decide +kernel
theorem dX9_fall_42 : decode cX9_fall 42 = .ok (.iaload, 1) := by decide +kernel
theorem dX9_fall_43 : decode cX9_fall 43 = .ok (.iconst 1, 1) := by decide +kernel
theorem dX9_fall_44 : decode cX9_fall 44 = .ok (.aload_n 0, 1) := by decide +kernel
theorem dX9_fall_45 : decode cX9_fall 45 = .ok (.getfield 19, 3) := by decide +kernel
theorem dX9_fall_48 : decode cX9_fall 48 = .ok (.iload_n 1, 1) := by decide +kernel
theorem dX9_fall_49 : decode cX9_fall 49 = .ok (.iaload, 1) := by decide +kernel
theorem dX9_fall_50 : decode cX9_fall 50 = .ok (.aload_n 0, 1) := by decide +kernel
theorem dX9_fall_51 : decode cX9_fall 51 = .ok (.getfield 61, 3) := by decide +kernel
theorem dX9_fall_54 : decode cX9_fall 54 = .ok (.iconst 2, 1) := by decide +kernel
theorem dX9_fall_55 : decode cX9_fall 55 = .ok (.iaload, 1) := by decide +kernel
theorem dX9_fall_56 : decode cX9_fall 56 = .ok (.iand, 1) := by decide +kernel
theorem dX9_fall_57 : decode cX9_fall 57 = .ok (.invokestatic 194, 3) := by decide +kernel
theorem dX9_fall_60 : decode cX9_fall 60 = .ok (.ishl, 1) := by decide +kernel
theorem dX9_fall_61 : decode cX9_fall 61 = .ok (.ior, 1) := by decide +kernel
theorem dX9_fall_62 : decode cX9_fall 62 = .ok (.iastore, 1) := by decide +kernel
theorem dX9_fall_63 : decode cX9_fall 63 = .ok (.return_, 1) := by decide +kernel
set_option maxRecDepth 20000 in
theorem ggX9_needsSure_X9_has : GoodIn wsX9_needsSure wsX9_has := goodIn_r _ [10] (by decide +kernel) (by decide +kernel)
set_option maxRecDepth 20000 in
theorem gX9_needsSure_X9_has : GoodIn wsX9_needsSure (va_wsS RX9 122 yX9_has wsX9_has) := goodIn_app (goodIn_of _ (by decide +kernel)) ggX9_needsSure_X9_has
set_option maxRecDepth 20000 in
theorem ggX9_needsSure_X9_isFor : GoodIn wsX9_needsSure wsX9_isFor := goodIn_r _ [14, 15, 16, 17, 18, 19, 20, 21, 22, 23, 24, 25, 26, 27, 28, 29, 30, 31, 32, 33, 34, 35, 36, 37, 38, 39, 40, 41, 42, 43, 44, 45, 46, 47, 48, 49, 50, 51, 52, 53, 54, 55, 56] (by decide +kernel) (by decide +kernel)
set_option maxRecDepth 20000 in
theorem gX9_needsSure_X9_isFor : GoodIn wsX9_needsSure (wsV RX9 126 RX9 yX9_isFor wsX9_isFor) := goodIn_app (goodIn_of _ (by decide +kernel)) ggX9_needsSure_X9_isFor
theorem dX9_needsSure_0 : decode cX9_needsSure 0 = .ok (.iconst 0, 1) := by decide +kernel
theorem dX9_needsSure_1 : decode cX9_needsSure 1 = .ok (.istore_n 2, 1) := by decide +kernel
theorem dX9_needsSure_2 : decode cX9_needsSure 2 = .ok (.iload_n 2, 1) := by decide +kernel
theorem dX9_needsSure_3 : decode cX9_needsSure 3 = .ok (.aload_n 0, 1) := by decide +kernel
theorem dX9_needsSure_4 : decode cX9_needsSure 4 = .ok (.getfield 77, 3) := by decide +kernel
theorem dX9_needsSure_7 : decode cX9_needsSure 7 = .ok (.if_icmp .ge 72, 3) := by decide +kernel
theorem dX9_needsSure_10 : decode cX9_needsSure 10 = .ok (.aload_n 0, 1) := by decide +kernel
theorem dX9_needsSure_11 : decode cX9_needsSure 11 = .ok (.getfield 93, 3) := by decide +kernel
theorem dX9_needsSure_14 : decode cX9_needsSure 14 = .ok (.iload_n 1, 1) := by decide +kernel
theorem dX9_needsSure_15 : decode cX9_needsSure 15 = .ok (.invokestatic 122, 3) := by decide +kernel
theorem dX9_needsSure_18 : decode cX9_needsSure 18 = .ok (.ifCond .ne 61, 3) := by decide +kernel
theorem dX9_needsSure_21 : decode cX9_needsSure 21 = .ok (.aload_n 0, 1) := by decide +kernel
theorem dX9_needsSure_22 : decode cX9_needsSure 22 = .ok (.iload_n 2, 1) := by decide +kernel
theorem dX9_needsSure_23 : decode cX9_needsSure 23 = .ok (.iload_n 1, 1) := by decide +kernel
theorem dX9_needsSure_24 : decode cX9_needsSure 24 = .ok (.invokevirtual 126, 3) := by decide +kernel
theorem dX9_needsSure_27 : decode cX9_needsSure 27 = .ok (.ifCond .eq 46, 3) := by decide +kernel
theorem dX9_needsSure_30 : decode cX9_needsSure 30 = .ok (.aload_n 0, 1) := by decide +kernel
theorem dX9_needsSure_31 : decode cX9_needsSure 31 = .ok (.getfield 7, 3) := by decide +kernel
theorem dX9_needsSure_34 : decode cX9_needsSure 34 = .ok (.iload_n 2, 1) := by decide +kernel
theorem dX9_needsSure_35 : decode cX9_needsSure 35 = .ok (.iaload, 1) := by decide +kernel
theorem dX9_needsSure_36 : decode cX9_needsSure 36 = .ok (.ifCond .ne 37, 3) := by decide +kernel
theorem dX9_needsSure_39 : decode cX9_needsSure 39 = .ok (.aload_n 0, 1) := by decide +kernel
theorem dX9_needsSure_40 : decode cX9_needsSure 40 = .ok (.getfield 16, 3) := by decide +kernel
theorem dX9_needsSure_43 : decode cX9_needsSure 43 = .ok (.iload_n 2, 1) := by decide +kernel
theorem dX9_needsSure_44 : decode cX9_needsSure 44 = .ok (.iaload, 1) := by decide +kernel
theorem dX9_needsSure_45 : decode cX9_needsSure 45 = .ok (.aload_n 0, 1) := by decide +kernel
theorem dX9_needsSure_46 : decode cX9_needsSure 46 = .ok (.getfield 61, 3) := by decide +kernel
theorem dX9_needsSure_49 : decode cX9_needsSure 49 = .ok (.iconst 0, 1) := by decide +kernel
theorem dX9_needsSure_50 : decode cX9_needsSure 50 = .ok (.iaload, 1) := by decide +kernel
theorem dX9_needsSure_51 : decode cX9_needsSure 51 = .ok (.iconst (-1), 1) := by decide +kernel
theorem dX9_needsSure_52 : decode cX9_needsSure 52 = .ok (.ixor, 1) := by decide +kernel
theorem dX9_needsSure_53 : decode cX9_needsSure 53 = .ok (.iand, 1) := by decide +kernel
theorem dX9_needsSure_54 : decode cX9_needsSure 54 = .ok (.ifCond .ne 19, 3) := by decide +kernel
theorem dX9_needsSure_57 : decode cX9_needsSure 57 = .ok (.aload_n 0, 1) := by decide +kernel
theorem dX9_needsSure_58 : decode cX9_needsSure 58 = .ok (.getfield 67, 3) := by decide +kernel
theorem dX9_needsSure_61 : decode cX9_needsSure 61 = .ok (.iconst 0, 1) := by decide +kernel
theorem dX9_needsSure_62 : decode cX9_needsSure 62 = .ok (.dup2, 1) := by decide +kernel
theorem dX9_needsSure_63 : decode cX9_needsSure 63 = .ok (.iaload, 1) := by decide +kernel
theorem dX9_needsSure_64 : decode cX9_needsSure 64 = .ok (.aload_n 0, 1) := by decide +kernel
theorem dX9_needsSure_65 : decode cX9_needsSure 65 = .ok (.getfield 16, 3) := by decide +kernel
theorem dX9_needsSure_68 : decode cX9_needsSure 68 = .ok (.iload_n 2, 1) := by decide +kernel
theorem dX9_needsSure_69 : decode cX9_needsSure 69 = .ok (.iaload, 1) := by decide +kernel
theorem dX9_needsSure_70 : decode cX9_needsSure 70 = .ok (.ior, 1) := by decide +kernel
theorem dX9_needsSure_71 : decode cX9_needsSure 71 = .ok (.iastore, 1) := by decide +kernel
theorem dX9_needsSure_72 : decode cX9_needsSure 72 = .ok (.return_, 1) := by decide +kernel
theorem dX9_needsSure_73 : decode cX9_needsSure 73 = .ok (.iinc 2 1, 3) := by decide +kernel
theorem dX9_needsSure_76 : decode cX9_needsSure 76 = .ok (.goto (-74), 3) := by decide +kernel
theorem dX9_needsSure_79 : decode cX9_needsSure 79 = .ok (.return_, 1) := by decide +kernel
set_option maxRecDepth 20000 in
theorem ggX9_needsNever_X9_isFor : GoodIn wsX9_needsNever wsX9_isFor := goodIn_r _ [10, 11, 12, 21, 22, 23, 24, 25, 26, 27, 28, 29, 30, 31, 32, 33, 34, 35, 36, 37, 38, 39, 40, 41, 42, 43, 44, 45, 46, 47, 48, 49, 50, 51, 52, 53, 54, 55, 56, 57, 58, 59, 60] (by decide +kernel) (by decide +kernel)
set_option maxRecDepth 20000 in
theorem gX9_needsNever_X9_isFor : GoodIn wsX9_needsNever (wsV RX9 126 RX9 yX9_isFor wsX9_isFor) := goodIn_app (goodIn_of _ (by decide +kernel)) ggX9_needsNever_X9_isFor
set_option maxRecDepth 20000 in
theorem ggX9_needsNever_X9_firstOf : GoodIn wsX9_needsNever wsX9_firstOf := goodIn_r _ [15, 16, 17, 18, 19, 20] (by decide +kernel) (by decide +kernel)
set_option maxRecDepth 20000 in
theorem gX9_needsNever_X9_firstOf : GoodIn wsX9_needsNever (va_wsS RX9 194 yX9_firstOf wsX9_firstOf) := goodIn_app (goodIn_of _ (by decide +kernel)) ggX9_needsNever_X9_firstOf
theorem dX9_needsNever_0 : decode cX9_needsNever 0 = .ok (.iconst 0, 1) := by decide +kernel
theorem dX9_needsNever_1 : decode cX9_needsNever 1 = .ok (.istore_n 2, 1) := by decide +kernel
theorem dX9_needsNever_2 : decode cX9_needsNever 2 = .ok (.iload_n 2, 1) := by decide +kernel
theorem dX9_needsNever_3 : decode cX9_needsNever 3 = .ok (.aload_n 0, 1) := by decide +kernel
theorem dX9_needsNever_4 : decode cX9_needsNever 4 = .ok (.getfield 77, 3) := by decide +kernel
theorem dX9_needsNever_7 : decode cX9_needsNever 7 = .ok (.if_icmp .ge 54, 3) := by decide +kernel
theorem dX9_needsNever_10 : decode cX9_needsNever 10 = .ok (.aload_n 0, 1) := by decide +kernel
theorem dX9_needsNever_11 : decode cX9_needsNever 11 = .ok (.iload_n 2, 1) := by decide +kernel
theorem dX9_needsNever_12 : decode cX9_needsNever 12 = .ok (.iload_n 1, 1) := by decide +kernel
theorem dX9_needsNever_13 : decode cX9_needsNever 13 = .ok (.invokevirtual 126, 3) := by decide +kernel
theorem dX9_needsNever_16 : decode cX9_needsNever 16 = .ok (.ifCond .eq 39, 3) := by decide +kernel
theorem dX9_needsNever_19 : decode cX9_needsNever 19 = .ok (.aload_n 0, 1) := by decide +kernel
theorem dX9_needsNever_20 : decode cX9_needsNever 20 = .ok (.getfield 7, 3) := by decide +kernel
theorem dX9_needsNever_23 : decode cX9_needsNever 23 = .ok (.iload_n 2, 1) := by decide +kernel
theorem dX9_needsNever_24 : decode cX9_needsNever 24 = .ok (.iaload, 1) := by decide +kernel
theorem dX9_needsNever_25 : decode cX9_needsNever 25 = .ok (.ifCond .ne 30, 3) := by decide +kernel
theorem dX9_needsNever_28 : decode cX9_needsNever 28 = .ok (.aload_n 0, 1) := by decide +kernel
theorem dX9_needsNever_29 : decode cX9_needsNever 29 = .ok (.getfield 67, 3) := by decide +kernel
theorem dX9_needsNever_32 : decode cX9_needsNever 32 = .ok (.iconst 1, 1) := by decide +kernel
theorem dX9_needsNever_33 : decode cX9_needsNever 33 = .ok (.dup2, 1) := by decide +kernel
theorem dX9_needsNever_34 : decode cX9_needsNever 34 = .ok (.iaload, 1) := by decide +kernel
theorem dX9_needsNever_35 : decode cX9_needsNever 35 = .ok (.iconst 1, 1) := by decide +kernel
theorem dX9_needsNever_36 : decode cX9_needsNever 36 = .ok (.aload_n 0, 1) := by decide +kernel
theorem dX9_needsNever_37 : decode cX9_needsNever 37 = .ok (.getfield 16, 3) := by decide +kernel
theorem dX9_needsNever_40 : decode cX9_needsNever 40 = .ok (.iload_n 2, 1) := by decide +kernel
theorem dX9_needsNever_41 : decode cX9_needsNever 41 = .ok (.iaload, 1) := by decide +kernel
theorem dX9_needsNever_42 : decode cX9_needsNever 42 = .ok (.aload_n 0, 1) := by decide +kernel
theorem dX9_needsNever_43 : decode cX9_needsNever 43 = .ok (.getfield 61, 3) := by decide +kernel
theorem dX9_needsNever_46 : decode cX9_needsNever 46 = .ok (.iconst 1, 1) := by decide +kernel
theorem dX9_needsNever_47 : decode cX9_needsNever 47 = .ok (.iaload, 1) := by decide +kernel
theorem dX9_needsNever_48 : decode cX9_needsNever 48 = .ok (.iand, 1) := by decide +kernel
theorem dX9_needsNever_49 : decode cX9_needsNever 49 = .ok (.invokestatic 194, 3) := by decide +kernel
theorem dX9_needsNever_52 : decode cX9_needsNever 52 = .ok (.ishl, 1) := by decide +kernel
theorem dX9_needsNever_53 : decode cX9_needsNever 53 = .ok (.ior, 1) := by decide +kernel
theorem dX9_needsNever_54 : decode cX9_needsNever 54 = .ok (.iastore, 1) := by decide +kernel
theorem dX9_needsNever_55 : decode cX9_needsNever 55 = .ok (.iinc 2 1, 3) := by decide +kernel
theorem dX9_needsNever_58 : decode cX9_needsNever 58 = .ok (.goto (-56), 3) := by decide +kernel
theorem dX9_needsNever_61 : decode cX9_needsNever 61 = .ok (.return_, 1) := by decide +kernel
set_option maxRecDepth 20000 in
theorem ggX9_needsLikely_X9_has : GoodIn wsX9_needsLikely wsX9_has := goodIn_r _ [7] (by decide +kernel) (by decide +kernel)
set_option maxRecDepth 20000 in
theorem gX9_needsLikely_X9_has : GoodIn wsX9_needsLikely (va_wsS RX9 122 yX9_has wsX9_has) := goodIn_app (goodIn_of _ (by decide +kernel)) ggX9_needsLikely_X9_has
set_option maxRecDepth 20000 in
theorem ggX9_needsLikely_X9_forcing : GoodIn wsX9_needsLikely wsX9_forcing := goodIn_r _ [11, 3, 12, 13, 14, 6, 15, 16, 17, 18, 19, 20, 21, 22, 23, 24, 25, 26, 27, 1, 28, 29, 30, 31, 32, 33, 34, 4, 5, 7, 58, 59, 60, 61, 62, 63, 64, 65, 66, 67, 68, 69, 70, 71, 72, 73, 74, 75, 76, 77, 78, 79, 80, 81, 82, 83, 84, 85, 86, 87, 88, 89, 90, 91, 92, 93, 94, 95, 96, 97] (by decide +kernel) (by decide +kernel)
set_option maxRecDepth 20000 in
theorem gX9_needsLikely_X9_forcing : GoodIn wsX9_needsLikely (wsV RX9 144 RX9 yX9_forcing wsX9_forcing) := goodIn_app (goodIn_of _ (by decide +kernel)) ggX9_needsLikely_X9_forcing
set_option maxRecDepth 20000 in
theorem ggX9_needsLikely_X9_force : GoodIn wsX9_needsLikely wsX9_force := goodIn_r _ [38, 2, 27, 28, 58, 59, 60, 61, 62, 63, 64, 65, 66, 67, 68, 69, 70, 71, 72, 73, 74, 75, 76, 77, 78, 79, 80, 81, 82, 83, 84, 85, 86, 87, 88, 89, 90, 91, 92, 93, 94, 95, 96, 97] (by decide +kernel) (by decide +kernel)
set_option maxRecDepth 20000 in
theorem gX9_needsLikely_X9_force : GoodIn wsX9_needsLikely (wsV RX9 197 RX9 yX9_force wsX9_force) := goodIn_app (goodIn_of _ (by decide +kernel)) ggX9_needsLikely_X9_force
set_option maxRecDepth 20000 in
theorem ggX9_needsLikely_X9_otherOf : GoodIn wsX9_needsLikely wsX9_otherOf := goodIn_r _ [41] (by decide +kernel) (by decide +kernel)
set_option maxRecDepth 20000 in
theorem gX9_needsLikely_X9_otherOf : GoodIn wsX9_needsLikely (va_wsS RX9 141 yX9_otherOf wsX9_otherOf) := goodIn_app (goodIn_of _ (by decide +kernel)) ggX9_needsLikely_X9_otherOf
set_option maxRecDepth 20000 in
theorem ggX9_needsLikely_X9_isFor : GoodIn wsX9_needsLikely wsX9_isFor := goodIn_r _ [20, 21, 22, 58, 59, 60, 61, 62, 63, 64, 65, 66, 67, 68, 69, 70, 71, 72, 73, 74, 75, 76, 77, 78, 79, 80, 81, 82, 83, 84, 85, 86, 87, 88, 89, 90, 91, 92, 93, 94, 95, 96, 97] (by decide +kernel) (by decide +kernel)
set_option maxRecDepth 20000 in
theorem gX9_needsLikely_X9_isFor : GoodIn wsX9_needsLikely (wsV RX9 126 RX9 yX9_isFor wsX9_isFor) := goodIn_app (goodIn_of _ (by decide +kernel)) ggX9_needsLikely_X9_isFor
set_option maxRecDepth 20000 in
theorem ggX9_needsLikely_X9_falls : GoodIn wsX9_needsLikely wsX9_falls := goodIn_r _ [45, 27, 1, 28, 58, 59, 60, 61, 62, 63, 64, 65, 66, 67, 68, 69, 70, 71, 72, 73, 74, 75, 76, 77, 78, 79, 80, 81, 82, 83, 84, 85, 86, 87, 88, 89, 90, 91, 92, 93, 94, 95, 96, 97] (by decide +kernel) (by decide +kernel)
set_option maxRecDepth 20000 in
theorem gX9_needsLikely_X9_falls : GoodIn wsX9_needsLikely (wsV RX9 148 RX9 yX9_falls wsX9_falls) := goodIn_app (goodIn_of _ (by decide +kernel)) ggX9_needsLikely_X9_falls
set_option maxRecDepth 20000 in
theorem ggX9_needsLikely_X9_fall : GoodIn wsX9_needsLikely wsX9_fall := goodIn_r _ [49, 27, 1, 2, 28, 50, 51, 6, 52, 53, 54, 55, 56, 57, 58, 59, 60, 61, 62, 63, 64, 65, 66, 67, 68, 69, 70, 71, 72, 73, 74, 75, 76, 77, 78, 79, 80, 81, 82, 83, 84, 85, 86, 87, 88, 89, 90, 91, 92, 93, 94, 95, 96, 97] (by decide +kernel) (by decide +kernel)
set_option maxRecDepth 20000 in
theorem gX9_needsLikely_X9_fall : GoodIn wsX9_needsLikely (wsV RX9 201 RX9 yX9_fall wsX9_fall) := goodIn_app (goodIn_of _ (by decide +kernel)) ggX9_needsLikely_X9_fall
theorem dX9_needsLikely_0 : decode cX9_needsLikely 0 = .ok (.aload_n 0, 1) := by decide +kernel
theorem dX9_needsLikely_1 : decode cX9_needsLikely 1 = .ok (.getfield 61, 3) := by decide +kernel
theorem dX9_needsLikely_4 : decode cX9_needsLikely 4 = .ok (.iconst 0, 1) := by decide +kernel
theorem dX9_needsLikely_5 : decode cX9_needsLikely 5 = .ok (.iaload, 1) := by decide +kernel
theorem dX9_needsLikely_6 : decode cX9_needsLikely 6 = .ok (.iload_n 1, 1) := by decide +kernel
theorem dX9_needsLikely_7 : decode cX9_needsLikely 7 = .ok (.invokestatic 122, 3) := by decide +kernel
theorem dX9_needsLikely_10 : decode cX9_needsLikely 10 = .ok (.ifCond .eq 16, 3) := by decide +kernel
theorem dX9_needsLikely_13 : decode cX9_needsLikely 13 = .ok (.aload_n 0, 1) := by decide +kernel
theorem dX9_needsLikely_14 : decode cX9_needsLikely 14 = .ok (.getfield 67, 3) := by decide +kernel
theorem dX9_needsLikely_17 : decode cX9_needsLikely 17 = .ok (.iconst 0, 1) := by decide +kernel
theorem dX9_needsLikely_18 : decode cX9_needsLikely 18 = .ok (.dup2, 1) := by decide +kernel
theorem dX9_needsLikely_19 : decode cX9_needsLikely 19 = .ok (.iaload, 1) := by decide +kernel
theorem dX9_needsLikely_20 : decode cX9_needsLikely 20 = .ok (.iconst 1, 1) := by decide +kernel
theorem dX9_needsLikely_21 : decode cX9_needsLikely 21 = .ok (.iload_n 1, 1) := by decide +kernel
theorem dX9_needsLikely_22 : decode cX9_needsLikely 22 = .ok (.ishl, 1) := by decide +kernel
theorem dX9_needsLikely_23 : decode cX9_needsLikely 23 = .ok (.ior, 1) := by decide +kernel
theorem dX9_needsLikely_24 : decode cX9_needsLikely 24 = .ok (.iastore, 1) := by decide +kernel
theorem dX9_needsLikely_25 : decode cX9_needsLikely 25 = .ok (.return_, 1) := by decide +kernel
theorem dX9_needsLikely_26 : decode cX9_needsLikely 26 = .ok (.aload_n 0, 1) := by decide +kernel
theorem dX9_needsLikely_27 : decode cX9_needsLikely 27 = .ok (.aload_n 0, 1) := by decide +kernel
theorem dX9_needsLikely_28 : decode cX9_needsLikely 28 = .ok (.iload_n 1, 1) := by decide +kernel
theorem dX9_needsLikely_29 : decode cX9_needsLikely 29 = .ok (.iconst (-1), 1) := by decide +kernel
theorem dX9_needsLikely_30 : decode cX9_needsLikely 30 = .ok (.invokevirtual 144, 3) := by decide +kernel
theorem dX9_needsLikely_33 : decode cX9_needsLikely 33 = .ok (.invokevirtual 197, 3) := by decide +kernel
theorem dX9_needsLikely_36 : decode cX9_needsLikely 36 = .ok (.aload_n 0, 1) := by decide +kernel
theorem dX9_needsLikely_37 : decode cX9_needsLikely 37 = .ok (.getfield 67, 3) := by decide +kernel
theorem dX9_needsLikely_40 : decode cX9_needsLikely 40 = .ok (.iconst 1, 1) := by decide +kernel
theorem dX9_needsLikely_41 : decode cX9_needsLikely 41 = .ok (.dup2, 1) := by decide +kernel
theorem dX9_needsLikely_42 : decode cX9_needsLikely 42 = .ok (.iaload, 1) := by decide +kernel
theorem dX9_needsLikely_43 : decode cX9_needsLikely 43 = .ok (.iconst 1, 1) := by decide +kernel
theorem dX9_needsLikely_44 : decode cX9_needsLikely 44 = .ok (.iload_n 1, 1) := by decide +kernel
theorem dX9_needsLikely_45 : decode cX9_needsLikely 45 = .ok (.invokestatic 141, 3) := by decide +kernel
theorem dX9_needsLikely_48 : decode cX9_needsLikely 48 = .ok (.ishl, 1) := by decide +kernel
theorem dX9_needsLikely_49 : decode cX9_needsLikely 49 = .ok (.ior, 1) := by decide +kernel
theorem dX9_needsLikely_50 : decode cX9_needsLikely 50 = .ok (.iastore, 1) := by decide +kernel
theorem dX9_needsLikely_51 : decode cX9_needsLikely 51 = .ok (.iconst 0, 1) := by decide +kernel
theorem dX9_needsLikely_52 : decode cX9_needsLikely 52 = .ok (.istore_n 2, 1) := by decide +kernel
theorem dX9_needsLikely_53 : decode cX9_needsLikely 53 = .ok (.iload_n 2, 1) := by decide +kernel
theorem dX9_needsLikely_54 : decode cX9_needsLikely 54 = .ok (.aload_n 0, 1) := by decide +kernel
theorem dX9_needsLikely_55 : decode cX9_needsLikely 55 = .ok (.getfield 77, 3) := by decide +kernel
theorem dX9_needsLikely_58 : decode cX9_needsLikely 58 = .ok (.if_icmp .ge 50, 3) := by decide +kernel
theorem dX9_needsLikely_61 : decode cX9_needsLikely 61 = .ok (.aload_n 0, 1) := by decide +kernel
theorem dX9_needsLikely_62 : decode cX9_needsLikely 62 = .ok (.iload_n 2, 1) := by decide +kernel
theorem dX9_needsLikely_63 : decode cX9_needsLikely 63 = .ok (.iload_n 1, 1) := by decide +kernel
theorem dX9_needsLikely_64 : decode cX9_needsLikely 64 = .ok (.invokestatic 141, 3) := by decide +kernel
theorem dX9_needsLikely_67 : decode cX9_needsLikely 67 = .ok (.invokevirtual 126, 3) := by decide +kernel
theorem dX9_needsLikely_70 : decode cX9_needsLikely 70 = .ok (.ifCond .ne 6, 3) := by decide +kernel
theorem dX9_needsLikely_73 : decode cX9_needsLikely 73 = .ok (.goto 29, 3) := by decide +kernel
theorem dX9_needsLikely_76 : decode cX9_needsLikely 76 = .ok (.aload_n 0, 1) := by decide +kernel
theorem dX9_needsLikely_77 : decode cX9_needsLikely 77 = .ok (.iload_n 2, 1) := by decide +kernel
theorem dX9_needsLikely_78 : decode cX9_needsLikely 78 = .ok (.invokevirtual 148, 3) := by decide +kernel
theorem dX9_needsLikely_81 : decode cX9_needsLikely 81 = .ok (.ifCond .eq 11, 3) := by decide +kernel
theorem dX9_needsLikely_84 : decode cX9_needsLikely 84 = .ok (.aload_n 0, 1) := by decide +kernel
theorem dX9_needsLikely_85 : decode cX9_needsLikely 85 = .ok (.iload_n 2, 1) := by decide +kernel
theorem dX9_needsLikely_86 : decode cX9_needsLikely 86 = .ok (.invokevirtual 201, 3) := by decide +kernel
theorem dX9_needsLikely_89 : decode cX9_needsLikely 89 = .ok (.goto 13, 3) := by decide +kernel
theorem dX9_needsLikely_92 : decode cX9_needsLikely 92 = .ok (.aload_n 0, 1) := by decide +kernel
theorem dX9_needsLikely_93 : decode cX9_needsLikely 93 = .ok (.aload_n 0, 1) := by decide +kernel
theorem dX9_needsLikely_94 : decode cX9_needsLikely 94 = .ok (.iload_n 1, 1) := by decide +kernel
theorem dX9_needsLikely_95 : decode cX9_needsLikely 95 = .ok (.iload_n 2, 1) := by decide +kernel
theorem dX9_needsLikely_96 : decode cX9_needsLikely 96 = .ok (.invokevirtual 144, 3) := by decide +kernel
theorem dX9_needsLikely_99 : decode cX9_needsLikely 99 = .ok (.invokevirtual 197, 3) := by decide +kernel
theorem dX9_needsLikely_102 : decode cX9_needsLikely 102 = .ok (.iinc 2 1, 3) := by decide +kernel
theorem dX9_needsLikely_105 : decode cX9_needsLikely 105 = .ok (.goto (-52), 3) := by decide +kernel
theorem dX9_needsLikely_108 : decode cX9_needsLikely 108 = .ok (.return_, 1) := by decide +kernel
set_option maxRecDepth 20000 in
theorem ggX9_needsUnlikely_X9_allFall : GoodIn wsX9_needsUnlikely wsX9_allFall := goodIn_r _ [8, 3, 9, 10, 11, 7, 12, 13, 14, 15, 16, 17, 18, 19, 20, 21, 22, 23, 24, 2, 25, 66, 67, 68, 69, 70, 71, 72, 73, 74, 75, 76, 77, 78, 79, 80, 81, 82, 83, 84, 85, 86, 87, 88, 89, 90, 91, 92, 93, 94, 95, 96, 97, 98, 99, 100, 101, 102, 103, 104, 105] (by decide +kernel) (by decide +kernel)
set_option maxRecDepth 20000 in
theorem gX9_needsUnlikely_X9_allFall : GoodIn wsX9_needsUnlikely (wsV RX9 154 RX9 yX9_allFall wsX9_allFall) := goodIn_app (goodIn_of _ (by decide +kernel)) ggX9_needsUnlikely_X9_allFall
set_option maxRecDepth 20000 in
theorem ggX9_needsUnlikely_X9_otherOf : GoodIn wsX9_needsUnlikely wsX9_otherOf := goodIn_r _ [28] (by decide +kernel) (by decide +kernel)
set_option maxRecDepth 20000 in
theorem gX9_needsUnlikely_X9_otherOf : GoodIn wsX9_needsUnlikely (va_wsS RX9 141 yX9_otherOf wsX9_otherOf) := goodIn_app (goodIn_of _ (by decide +kernel)) ggX9_needsUnlikely_X9_otherOf
set_option maxRecDepth 20000 in
theorem ggX9_needsUnlikely_X9_has : GoodIn wsX9_needsUnlikely wsX9_has := goodIn_r _ [31] (by decide +kernel) (by decide +kernel)
set_option maxRecDepth 20000 in
theorem gX9_needsUnlikely_X9_has : GoodIn wsX9_needsUnlikely (va_wsS RX9 122 yX9_has wsX9_has) := goodIn_app (goodIn_of _ (by decide +kernel)) ggX9_needsUnlikely_X9_has
set_option maxRecDepth 20000 in
theorem ggX9_needsUnlikely_X9_hindering : GoodIn wsX9_needsUnlikely wsX9_hindering := goodIn_r _ [35, 3, 26, 27, 7, 28, 14, 15, 16, 17, 18, 19, 36, 37, 38, 39, 24, 2, 25, 40, 41, 42, 43, 9, 10, 11, 12, 13, 20, 21, 22, 23, 44, 45, 46, 47, 48, 49, 29, 30, 31, 66, 67, 68, 69, 70, 71, 72, 73, 74, 75, 76, 77, 78, 79, 80, 81, 82, 83, 84, 85, 86, 87, 88, 89, 90, 91, 92, 93, 94, 95, 96, 97, 98, 99, 100, 101, 102, 103, 104, 105] (by decide +kernel) (by decide +kernel)
set_option maxRecDepth 20000 in
theorem gX9_needsUnlikely_X9_hindering : GoodIn wsX9_needsUnlikely (wsV RX9 157 RX9 yX9_hindering wsX9_hindering) := goodIn_app (goodIn_of _ (by decide +kernel)) ggX9_needsUnlikely_X9_hindering
set_option maxRecDepth 20000 in
theorem ggX9_needsUnlikely_X9_force : GoodIn wsX9_needsUnlikely wsX9_force := goodIn_r _ [53, 1, 24, 25, 66, 67, 68, 69, 70, 71, 72, 73, 74, 75, 76, 77, 78, 79, 80, 81, 82, 83, 84, 85, 86, 87, 88, 89, 90, 91, 92, 93, 94, 95, 96, 97, 98, 99, 100, 101, 102, 103, 104, 105] (by decide +kernel) (by decide +kernel)
set_option maxRecDepth 20000 in
theorem gX9_needsUnlikely_X9_force : GoodIn wsX9_needsUnlikely (wsV RX9 197 RX9 yX9_force wsX9_force) := goodIn_app (goodIn_of _ (by decide +kernel)) ggX9_needsUnlikely_X9_force
set_option maxRecDepth 20000 in
theorem ggX9_needsUnlikely_X9_isForward : GoodIn wsX9_needsUnlikely wsX9_isForward := goodIn_r _ [12, 13, 14, 15, 16, 7, 17, 18, 19, 66, 67, 68, 69, 70, 71, 72, 73, 74, 75, 76, 77, 78, 79, 80, 81, 82, 83, 84, 85, 86, 87, 88, 89, 90, 91, 92, 93, 94, 95, 96, 97, 98, 99, 100, 101, 102, 103, 104, 105] (by decide +kernel) (by decide +kernel)
set_option maxRecDepth 20000 in
theorem gX9_needsUnlikely_X9_isForward : GoodIn wsX9_needsUnlikely (wsV RX9 135 RX9 yX9_isForward wsX9_isForward) := goodIn_app (goodIn_of _ (by decide +kernel)) ggX9_needsUnlikely_X9_isForward
set_option maxRecDepth 20000 in
theorem ggX9_needsUnlikely_X9_isAbove : GoodIn wsX9_needsUnlikely wsX9_isAbove := goodIn_r _ [47, 48, 49, 29, 30, 7, 31, 66, 67, 68, 69, 70, 71, 72, 73, 74, 75, 76, 77, 78, 79, 80, 81, 82, 83, 84, 85, 86, 87, 88, 89, 90, 91, 92, 93, 94, 95, 96, 97, 98, 99, 100, 101, 102, 103, 104, 105] (by decide +kernel) (by decide +kernel)
set_option maxRecDepth 20000 in
theorem gX9_needsUnlikely_X9_isAbove : GoodIn wsX9_needsUnlikely (wsV RX9 129 RX9 yX9_isAbove wsX9_isAbove) := goodIn_app (goodIn_of _ (by decide +kernel)) ggX9_needsUnlikely_X9_isAbove
set_option maxRecDepth 20000 in
theorem ggX9_needsUnlikely_X9_fall : GoodIn wsX9_needsUnlikely wsX9_fall := goodIn_r _ [57, 24, 2, 1, 25, 58, 59, 7, 60, 61, 62, 63, 64, 65, 66, 67, 68, 69, 70, 71, 72, 73, 74, 75, 76, 77, 78, 79, 80, 81, 82, 83, 84, 85, 86, 87, 88, 89, 90, 91, 92, 93, 94, 95, 96, 97, 98, 99, 100, 101, 102, 103, 104, 105] (by decide +kernel) (by decide +kernel)
set_option maxRecDepth 20000 in
theorem gX9_needsUnlikely_X9_fall : GoodIn wsX9_needsUnlikely (wsV RX9 201 RX9 yX9_fall wsX9_fall) := goodIn_app (goodIn_of _ (by decide +kernel)) ggX9_needsUnlikely_X9_fall
theorem dX9_needsUnlikely_0 : decode cX9_needsUnlikely 0 = .ok (.aload_n 0, 1) := by decide +kernel
theorem dX9_needsUnlikely_1 : decode cX9_needsUnlikely 1 = .ok (.getfield 67, 3) := by decide +kernel
theorem dX9_needsUnlikely_4 : decode cX9_needsUnlikely 4 = .ok (.iconst 1, 1) := by decide +kernel
theorem dX9_needsUnlikely_5 : decode cX9_needsUnlikely 5 = .ok (.dup2, 1) := by decide +kernel
theorem dX9_needsUnlikely_6 : decode cX9_needsUnlikely 6 = .ok (.iaload, 1) := by decide +kernel
theorem dX9_needsUnlikely_7 : decode cX9_needsUnlikely 7 = .ok (.iconst 1, 1) := by decide +kernel
theorem dX9_needsUnlikely_8 : decode cX9_needsUnlikely 8 = .ok (.iload_n 1, 1) := by decide +kernel
theorem dX9_needsUnlikely_9 : decode cX9_needsUnlikely 9 = .ok (.ishl, 1) := by decide +kernel
theorem dX9_needsUnlikely_10 : decode cX9_needsUnlikely 10 = .ok (.ior, 1) := by decide +kernel
theorem dX9_needsUnlikely_11 : decode cX9_needsUnlikely 11 = .ok (.iastore, 1) := by decide +kernel
theorem dX9_needsUnlikely_12 : decode cX9_needsUnlikely 12 = .ok (.aload_n 0, 1) := by decide +kernel
theorem dX9_needsUnlikely_13 : decode cX9_needsUnlikely 13 = .ok (.iload_n 1, 1) := by decide +kernel
theorem dX9_needsUnlikely_14 : decode cX9_needsUnlikely 14 = .ok (.invokevirtual 154, 3) := by decide +kernel
theorem dX9_needsUnlikely_17 : decode cX9_needsUnlikely 17 = .ok (.ifCond .ne 35, 3) := by decide +kernel
theorem dX9_needsUnlikely_20 : decode cX9_needsUnlikely 20 = .ok (.aload_n 0, 1) := by decide +kernel
theorem dX9_needsUnlikely_21 : decode cX9_needsUnlikely 21 = .ok (.getfield 61, 3) := by decide +kernel
theorem dX9_needsUnlikely_24 : decode cX9_needsUnlikely 24 = .ok (.iconst 0, 1) := by decide +kernel
theorem dX9_needsUnlikely_25 : decode cX9_needsUnlikely 25 = .ok (.iaload, 1) := by decide +kernel
theorem dX9_needsUnlikely_26 : decode cX9_needsUnlikely 26 = .ok (.iload_n 1, 1) := by decide +kernel
theorem dX9_needsUnlikely_27 : decode cX9_needsUnlikely 27 = .ok (.invokestatic 141, 3) := by decide +kernel
theorem dX9_needsUnlikely_30 : decode cX9_needsUnlikely 30 = .ok (.invokestatic 122, 3) := by decide +kernel
theorem dX9_needsUnlikely_33 : decode cX9_needsUnlikely 33 = .ok (.ifCond .eq 19, 3) := by decide +kernel
theorem dX9_needsUnlikely_36 : decode cX9_needsUnlikely 36 = .ok (.aload_n 0, 1) := by decide +kernel
theorem dX9_needsUnlikely_37 : decode cX9_needsUnlikely 37 = .ok (.getfield 67, 3) := by decide +kernel
theorem dX9_needsUnlikely_40 : decode cX9_needsUnlikely 40 = .ok (.iconst 0, 1) := by decide +kernel
theorem dX9_needsUnlikely_41 : decode cX9_needsUnlikely 41 = .ok (.dup2, 1) := by decide +kernel
theorem dX9_needsUnlikely_42 : decode cX9_needsUnlikely 42 = .ok (.iaload, 1) := by decide +kernel
theorem dX9_needsUnlikely_43 : decode cX9_needsUnlikely 43 = .ok (.iconst 1, 1) := by decide +kernel
theorem dX9_needsUnlikely_44 : decode cX9_needsUnlikely 44 = .ok (.iload_n 1, 1) := by decide +kernel
theorem dX9_needsUnlikely_45 : decode cX9_needsUnlikely 45 = .ok (.invokestatic 141, 3) := by decide +kernel
theorem dX9_needsUnlikely_48 : decode cX9_needsUnlikely 48 = .ok (.ishl, 1) := by decide +kernel
theorem dX9_needsUnlikely_49 : decode cX9_needsUnlikely 49 = .ok (.ior, 1) := by decide +kernel
theorem dX9_needsUnlikely_50 : decode cX9_needsUnlikely 50 = .ok (.iastore, 1) := by decide +kernel
theorem dX9_needsUnlikely_51 : decode cX9_needsUnlikely 51 = .ok (.return_, 1) := by decide +kernel
theorem dX9_needsUnlikely_52 : decode cX9_needsUnlikely 52 = .ok (.aload_n 0, 1) := by decide +kernel
theorem dX9_needsUnlikely_53 : decode cX9_needsUnlikely 53 = .ok (.iload_n 1, 1) := by decide +kernel
theorem dX9_needsUnlikely_54 : decode cX9_needsUnlikely 54 = .ok (.invokevirtual 154, 3) := by decide +kernel
theorem dX9_needsUnlikely_57 : decode cX9_needsUnlikely 57 = .ok (.ifCond .eq 7, 3) := by decide +kernel
theorem dX9_needsUnlikely_60 : decode cX9_needsUnlikely 60 = .ok (.iconst (-1), 1) := by decide +kernel
theorem dX9_needsUnlikely_61 : decode cX9_needsUnlikely 61 = .ok (.goto 8, 3) := by decide +kernel
theorem dX9_needsUnlikely_64 : decode cX9_needsUnlikely 64 = .ok (.aload_n 0, 1) := by decide +kernel
theorem dX9_needsUnlikely_65 : decode cX9_needsUnlikely 65 = .ok (.iload_n 1, 1) := by decide +kernel
theorem dX9_needsUnlikely_66 : decode cX9_needsUnlikely 66 = .ok (.invokevirtual 157, 3) := by decide +kernel
theorem dX9_needsUnlikely_69 : decode cX9_needsUnlikely 69 = .ok (.istore_n 2, 1) := by decide +kernel
theorem dX9_needsUnlikely_70 : decode cX9_needsUnlikely 70 = .ok (.iload_n 2, 1) := by decide +kernel
theorem dX9_needsUnlikely_71 : decode cX9_needsUnlikely 71 = .ok (.ifCond .lt 8, 3) := by decide +kernel
theorem dX9_needsUnlikely_74 : decode cX9_needsUnlikely 74 = .ok (.aload_n 0, 1) := by decide +kernel
theorem dX9_needsUnlikely_75 : decode cX9_needsUnlikely 75 = .ok (.iload_n 2, 1) := by decide +kernel
theorem dX9_needsUnlikely_76 : decode cX9_needsUnlikely 76 = .ok (.invokevirtual 197, 3) := by decide +kernel
theorem dX9_needsUnlikely_79 : decode cX9_needsUnlikely 79 = .ok (.iconst 0, 1) := by decide +kernel
theorem dX9_needsUnlikely_80 : decode cX9_needsUnlikely 80 = .ok (.istore_n 3, 1) := by decide +kernel
theorem dX9_needsUnlikely_81 : decode cX9_needsUnlikely 81 = .ok (.iload_n 3, 1) := by decide +kernel
theorem dX9_needsUnlikely_82 : decode cX9_needsUnlikely 82 = .ok (.aload_n 0, 1) := by decide +kernel
theorem dX9_needsUnlikely_83 : decode cX9_needsUnlikely 83 = .ok (.getfield 77, 3) := by decide +kernel
theorem dX9_needsUnlikely_86 : decode cX9_needsUnlikely 86 = .ok (.if_icmp .ge 36, 3) := by decide +kernel
theorem dX9_needsUnlikely_89 : decode cX9_needsUnlikely 89 = .ok (.aload_n 0, 1) := by decide +kernel
theorem dX9_needsUnlikely_90 : decode cX9_needsUnlikely 90 = .ok (.iload_n 3, 1) := by decide +kernel
theorem dX9_needsUnlikely_91 : decode cX9_needsUnlikely 91 = .ok (.iload_n 1, 1) := by decide +kernel
theorem dX9_needsUnlikely_92 : decode cX9_needsUnlikely 92 = .ok (.invokevirtual 135, 3) := by decide +kernel
theorem dX9_needsUnlikely_95 : decode cX9_needsUnlikely 95 = .ok (.ifCond .eq 21, 3) := by decide +kernel
theorem dX9_needsUnlikely_98 : decode cX9_needsUnlikely 98 = .ok (.iload_n 2, 1) := by decide +kernel
theorem dX9_needsUnlikely_99 : decode cX9_needsUnlikely 99 = .ok (.ifCond .lt 12, 3) := by decide +kernel
theorem dX9_needsUnlikely_102 : decode cX9_needsUnlikely 102 = .ok (.aload_n 0, 1) := by decide +kernel
theorem dX9_needsUnlikely_103 : decode cX9_needsUnlikely 103 = .ok (.iload_n 3, 1) := by decide +kernel
theorem dX9_needsUnlikely_104 : decode cX9_needsUnlikely 104 = .ok (.iload_n 2, 1) := by decide +kernel
theorem dX9_needsUnlikely_105 : decode cX9_needsUnlikely 105 = .ok (.invokevirtual 129, 3) := by decide +kernel
theorem dX9_needsUnlikely_108 : decode cX9_needsUnlikely 108 = .ok (.ifCond .eq 8, 3) := by decide +kernel
theorem dX9_needsUnlikely_111 : decode cX9_needsUnlikely 111 = .ok (.aload_n 0, 1) := by decide +kernel
theorem dX9_needsUnlikely_112 : decode cX9_needsUnlikely 112 = .ok (.iload_n 3, 1) := by decide +kernel
theorem dX9_needsUnlikely_113 : decode cX9_needsUnlikely 113 = .ok (.invokevirtual 201, 3) := by decide +kernel
theorem dX9_needsUnlikely_116 : decode cX9_needsUnlikely 116 = .ok (.iinc 3 1, 3) := by decide +kernel
theorem dX9_needsUnlikely_119 : decode cX9_needsUnlikely 119 = .ok (.goto (-38), 3) := by decide +kernel
theorem dX9_needsUnlikely_122 : decode cX9_needsUnlikely 122 = .ok (.return_, 1) := by decide +kernel
set_option maxRecDepth 20000 in
theorem ggX9_needs_X9_needsSure : GoodIn wsX9_needs wsX9_needsSure := goodIn_r _ [5, 6, 7, 8, 9, 10, 11, 12, 13, 4, 14, 15, 16, 17, 18, 19, 20, 87, 88, 89, 90, 91, 92, 93, 94, 95, 96, 97, 98, 99, 100, 101, 102, 103, 104, 105, 106, 107, 108, 109, 110, 111, 112, 113, 114, 115, 116, 117, 118, 119, 120, 121, 122, 123, 124, 125, 126] (by decide +kernel) (by decide +kernel)
set_option maxRecDepth 20000 in
theorem gX9_needs_X9_needsSure : GoodIn wsX9_needs (wsV RX9 204 RX9 yX9_needsSure wsX9_needsSure) := goodIn_app (goodIn_of _ (by decide +kernel)) ggX9_needs_X9_needsSure
set_option maxRecDepth 20000 in
theorem ggX9_needs_X9_needsNever : GoodIn wsX9_needs wsX9_needsNever := goodIn_r _ [24, 6, 8, 11, 9, 10, 15, 16, 17, 4, 18, 19, 20, 25, 26, 27, 28, 29, 30, 31, 32, 87, 88, 89, 90, 91, 92, 93, 94, 95, 96, 97, 98, 99, 100, 101, 102, 103, 104, 105, 106, 107, 108, 109, 110, 111, 112, 113, 114, 115, 116, 117, 118, 119, 120, 121, 122, 123, 124, 125, 126] (by decide +kernel) (by decide +kernel)
set_option maxRecDepth 20000 in
theorem gX9_needs_X9_needsNever : GoodIn wsX9_needs (wsV RX9 207 RX9 yX9_needsNever wsX9_needsNever) := goodIn_app (goodIn_of _ (by decide +kernel)) ggX9_needs_X9_needsNever
set_option maxRecDepth 20000 in
theorem ggX9_needs_X9_needsLikely : GoodIn wsX9_needs wsX9_needsLikely := goodIn_r _ [36, 10, 11, 6, 12, 13, 4, 14, 37, 38, 39, 40, 41, 42, 43, 44, 8, 15, 16, 17, 18, 19, 20, 45, 46, 47, 48, 9, 49, 50, 51, 52, 53, 54, 55, 56, 57, 58, 59, 60, 61, 62, 63, 64, 65, 66, 67, 68, 69, 70, 25, 26, 27, 28, 29, 30, 31, 32, 87, 88, 89, 90, 91, 92, 93, 94, 95, 96, 97, 98, 99, 100, 101, 102, 103, 104, 105, 106, 107, 108, 109, 110, 111, 112, 113, 114, 115, 116, 117, 118, 119, 120, 121, 122, 123, 124, 125, 126] (by decide +kernel) (by decide +kernel)
set_option maxRecDepth 20000 in
theorem gX9_needs_X9_needsLikely : GoodIn wsX9_needs (wsV RX9 210 RX9 yX9_needsLikely wsX9_needsLikely) := goodIn_app (goodIn_of _ (by decide +kernel)) ggX9_needs_X9_needsLikely
set_option maxRecDepth 20000 in
theorem ggX9_needs_X9_needsUnlikely : GoodIn wsX9_needs wsX9_needsUnlikely := goodIn_r _ [74, 11, 10, 6, 75, 76, 77, 4, 78, 41, 42, 43, 44, 8, 15, 16, 17, 18, 19, 20, 63, 64, 65, 66, 9, 49, 60, 61, 62, 12, 13, 14, 79, 80, 81, 82, 45, 46, 47, 48, 83, 84, 85, 86, 50, 51, 52, 53, 54, 55, 56, 57, 58, 59, 67, 68, 69, 70, 25, 26, 27, 28, 29, 30, 31, 32, 87, 88, 89, 90, 91, 92, 93, 94, 95, 96, 97, 98, 99, 100, 101, 102, 103, 104, 105, 106, 107, 108, 109, 110, 111, 112, 113, 114, 115, 116, 117, 118, 119, 120, 121, 122, 123, 124, 125, 126] (by decide +kernel) (by decide +kernel)
set_option maxRecDepth 20000 in
theorem gX9_needs_X9_needsUnlikely : GoodIn wsX9_needs (wsV RX9 213 RX9 yX9_needsUnlikely wsX9_needsUnlikely) := goodIn_app (goodIn_of _ (by decide +kernel)) ggX9_needs_X9_needsUnlikely
theorem dX9_needs_0 : decode cX9_needs 0 = .ok (.iload_n 1, 1) := by decide +kernel
theorem dX9_needs_1 : decode cX9_needs 1 = .ok (.tableswitch 51 0 2 #[27, 35, 43], 27) := by decide +kernel
theorem dX9_needs_28 : decode cX9_needs 28 = .ok (.aload_n 0, 1) := by decide +kernel
theorem dX9_needs_29 : decode cX9_needs 29 = .ok (.iload_n 2, 1) := by decide +kernel
theorem dX9_needs_30 : decode cX9_needs 30 = .ok (.invokevirtual 204, 3) := by decide +kernel
theorem dX9_needs_33 : decode cX9_needs 33 = .ok (.goto 24, 3) := by decide +kernel
theorem dX9_needs_36 : decode cX9_needs 36 = .ok (.aload_n 0, 1) := by decide +kernel
theorem dX9_needs_37 : decode cX9_needs 37 = .ok (.iload_n 2, 1) := by decide +kernel
theorem dX9_needs_38 : decode cX9_needs 38 = .ok (.invokevirtual 207, 3) := by decide +kernel
theorem dX9_needs_41 : decode cX9_needs 41 = .ok (.goto 16, 3) := by decide +kernel
theorem dX9_needs_44 : decode cX9_needs 44 = .ok (.aload_n 0, 1) := by decide +kernel
theorem dX9_needs_45 : decode cX9_needs 45 = .ok (.iload_n 2, 1) := by decide +kernel
theorem dX9_needs_46 : decode cX9_needs 46 = .ok (.invokevirtual 210, 3) := by decide +kernel
theorem dX9_needs_49 : decode cX9_needs 49 = .ok (.goto 8, 3) := by decide +kernel
theorem dX9_needs_52 : decode cX9_needs 52 = .ok (.aload_n 0, 1) := by decide +kernel
theorem dX9_needs_53 : decode cX9_needs 53 = .ok (.iload_n 2, 1) := by decide +kernel
theorem dX9_needs_54 : decode cX9_needs 54 = .ok (.invokevirtual 213, 3) := by decide +kernel
theorem dX9_needs_57 : decode cX9_needs 57 = .ok (.return_, 1) := by decide +kernel
set_option maxRecDepth 20000 in
theorem ggX9_proves_X9_tags : GoodIn wsX9_proves wsX9_tags := goodIn_r _ [10, 2, 4, 11, 12, 13, 14, 9, 15, 16, 17, 18, 19, 20, 21, 22, 23, 24, 25, 26, 27, 28, 29, 30, 31, 32, 33, 34, 35, 36, 37, 38, 39, 40, 41, 42, 43, 44, 45, 46, 47, 48, 49, 50, 51, 52, 53, 54, 55, 56, 57, 58, 59, 60, 61, 62, 63, 64, 65, 66, 67, 68, 69, 70, 71, 72, 73, 74, 75, 76, 77, 78, 79, 80, 81, 82, 83, 124, 125, 126, 127, 128, 129, 130, 131, 132, 133, 134, 135, 136, 137, 138, 139, 140, 141, 142, 143, 144, 145, 146, 147, 148, 149, 150, 151, 152, 153, 154, 155, 156, 157, 158, 159, 160, 161, 162, 163] (by decide +kernel) (by decide +kernel)
set_option maxRecDepth 20000 in
theorem gX9_proves_X9_tags : GoodIn wsX9_proves (wsV RX9 181 RX9 yX9_tags wsX9_tags) := goodIn_app (goodIn_of _ (by decide +kernel)) ggX9_proves_X9_tags
set_option maxRecDepth 20000 in
theorem ggX9_proves_X9_cameIn : GoodIn wsX9_proves wsX9_cameIn := goodIn_r _ [87, 2, 124, 125, 126, 127, 128, 129, 130, 131, 132, 133, 134, 135, 136, 137, 138, 139, 140, 141, 142, 143, 144, 145, 146, 147, 148, 149, 150, 151, 152, 153, 154, 155, 156, 157, 158, 159, 160, 161, 162, 163] (by decide +kernel) (by decide +kernel)
set_option maxRecDepth 20000 in
theorem gX9_proves_X9_cameIn : GoodIn wsX9_proves (wsV RX9 184 RX9 yX9_cameIn wsX9_cameIn) := goodIn_app (goodIn_of _ (by decide +kernel)) ggX9_proves_X9_cameIn
set_option maxRecDepth 20000 in
theorem ggX9_proves_X9_has : GoodIn wsX9_proves wsX9_has := goodIn_r _ [15] (by decide +kernel) (by decide +kernel)
set_option maxRecDepth 20000 in
theorem gX9_proves_X9_has : GoodIn wsX9_proves (va_wsS RX9 122 yX9_has wsX9_has) := goodIn_app (goodIn_of _ (by decide +kernel)) ggX9_proves_X9_has
set_option maxRecDepth 20000 in
theorem ggX9_proves_X9_needs : GoodIn wsX9_proves wsX9_needs := goodIn_r _ [91, 92, 93, 94, 9, 95, 25, 24, 26, 27, 4, 3, 13, 14, 15, 28, 29, 30, 31, 32, 33, 96, 97, 98, 99, 100, 101, 102, 103, 104, 105, 106, 107, 108, 109, 110, 111, 45, 46, 47, 48, 49, 50, 51, 52, 53, 54, 55, 56, 57, 58, 59, 60, 61, 62, 63, 112, 113, 114, 115, 42, 43, 44, 64, 65, 66, 67, 116, 117, 118, 119, 120, 121, 122, 123, 72, 73, 74, 75, 76, 77, 78, 79, 80, 81, 82, 83, 124, 125, 126, 127, 128, 129, 130, 131, 132, 133, 134, 135, 136, 137, 138, 139, 140, 141, 142, 143, 144, 145, 146, 147, 148, 149, 150, 151, 152, 153, 154, 155, 156, 157, 158, 159, 160, 161, 162, 163] (by decide +kernel) (by decide +kernel)
set_option maxRecDepth 20000 in
theorem gX9_proves_X9_needs : GoodIn wsX9_proves (wsV RX9 219 RX9 yX9_needs wsX9_needs) := goodIn_app (goodIn_of _ (by decide +kernel)) ggX9_proves_X9_needs
theorem dX9_proves_0 : decode cX9_proves 0 = .ok (.aload_n 0, 1) := by decide +kernel
theorem dX9_proves_1 : decode cX9_proves 1 = .ok (.invokevirtual 181, 3) := by decide +kernel
theorem dX9_proves_4 : decode cX9_proves 4 = .ok (.aload_n 0, 1) := by decide +kernel
theorem dX9_proves_5 : decode cX9_proves 5 = .ok (.iconst 0, 1) := by decide +kernel
theorem dX9_proves_6 : decode cX9_proves 6 = .ok (.putfield 216, 3) := by decide +kernel
theorem dX9_proves_9 : decode cX9_proves 9 = .ok (.aload_n 0, 1) := by decide +kernel
theorem dX9_proves_10 : decode cX9_proves 10 = .ok (.getfield 58, 3) := by decide +kernel
theorem dX9_proves_13 : decode cX9_proves 13 = .ok (.bipush 20, 2) := by decide +kernel
theorem dX9_proves_15 : decode cX9_proves 15 = .ok (.iload_n 2, 1) := by decide +kernel
theorem dX9_proves_16 : decode cX9_proves 16 = .ok (.imul, 1) := by decide +kernel
theorem dX9_proves_17 : decode cX9_proves 17 = .ok (.iload_n 1, 1) := by decide +kernel
theorem dX9_proves_18 : decode cX9_proves 18 = .ok (.iadd, 1) := by decide +kernel
theorem dX9_proves_19 : decode cX9_proves 19 = .ok (.iaload, 1) := by decide +kernel
theorem dX9_proves_20 : decode cX9_proves 20 = .ok (.istore_n 3, 1) := by decide +kernel
theorem dX9_proves_21 : decode cX9_proves 21 = .ok (.iload_n 3, 1) := by decide +kernel
theorem dX9_proves_22 : decode cX9_proves 22 = .ok (.ifCond .ne 5, 3) := by decide +kernel
theorem dX9_proves_25 : decode cX9_proves 25 = .ok (.iconst 0, 1) := by decide +kernel
theorem dX9_proves_26 : decode cX9_proves 26 = .ok (.ireturn, 1) := by decide +kernel
theorem dX9_proves_27 : decode cX9_proves 27 = .ok (.iconst 0, 1) := by decide +kernel
theorem dX9_proves_28 : decode cX9_proves 28 = .ok (.istore 4, 2) := by decide +kernel
theorem dX9_proves_30 : decode cX9_proves 30 = .ok (.iload 4, 2) := by decide +kernel
theorem dX9_proves_32 : decode cX9_proves 32 = .ok (.iconst 4, 1) := by decide +kernel
theorem dX9_proves_33 : decode cX9_proves 33 = .ok (.if_icmp .ge 17, 3) := by decide +kernel
theorem dX9_proves_36 : decode cX9_proves 36 = .ok (.aload_n 0, 1) := by decide +kernel
theorem dX9_proves_37 : decode cX9_proves 37 = .ok (.getfield 67, 3) := by decide +kernel
theorem dX9_proves_40 : decode cX9_proves 40 = .ok (.iload 4, 2) := by decide +kernel
theorem dX9_proves_42 : decode cX9_proves 42 = .ok (.iconst 0, 1) := by decide +kernel
theorem dX9_proves_43 : decode cX9_proves 43 = .ok (.iastore, 1) := by decide +kernel
theorem dX9_proves_44 : decode cX9_proves 44 = .ok (.iinc 4 1, 3) := by decide +kernel
theorem dX9_proves_47 : decode cX9_proves 47 = .ok (.goto (-17), 3) := by decide +kernel
theorem dX9_proves_50 : decode cX9_proves 50 = .ok (.aload_n 0, 1) := by decide +kernel
theorem dX9_proves_51 : decode cX9_proves 51 = .ok (.getfield 67, 3) := by decide +kernel
theorem dX9_proves_54 : decode cX9_proves 54 = .ok (.iload_n 2, 1) := by decide +kernel
theorem dX9_proves_55 : decode cX9_proves 55 = .ok (.iconst 1, 1) := by decide +kernel
theorem dX9_proves_56 : decode cX9_proves 56 = .ok (.iload_n 1, 1) := by decide +kernel
theorem dX9_proves_57 : decode cX9_proves 57 = .ok (.ishl, 1) := by decide +kernel
theorem dX9_proves_58 : decode cX9_proves 58 = .ok (.iastore, 1) := by decide +kernel
theorem dX9_proves_59 : decode cX9_proves 59 = .ok (.iload_n 3, 1) := by decide +kernel
theorem dX9_proves_60 : decode cX9_proves 60 = .ok (.istore 4, 2) := by decide +kernel
theorem dX9_proves_62 : decode cX9_proves 62 = .ok (.iload 4, 2) := by decide +kernel
theorem dX9_proves_64 : decode cX9_proves 64 = .ok (.ifCond .le 103, 3) := by decide +kernel
theorem dX9_proves_67 : decode cX9_proves 67 = .ok (.iconst 0, 1) := by decide +kernel
theorem dX9_proves_68 : decode cX9_proves 68 = .ok (.istore 5, 2) := by decide +kernel
theorem dX9_proves_70 : decode cX9_proves 70 = .ok (.iload 5, 2) := by decide +kernel
theorem dX9_proves_72 : decode cX9_proves 72 = .ok (.iconst 4, 1) := by decide +kernel
theorem dX9_proves_73 : decode cX9_proves 73 = .ok (.if_icmp .ge 25, 3) := by decide +kernel
theorem dX9_proves_76 : decode cX9_proves 76 = .ok (.aload_n 0, 1) := by decide +kernel
theorem dX9_proves_77 : decode cX9_proves 77 = .ok (.getfield 61, 3) := by decide +kernel
theorem dX9_proves_80 : decode cX9_proves 80 = .ok (.iload 5, 2) := by decide +kernel
theorem dX9_proves_82 : decode cX9_proves 82 = .ok (.aload_n 0, 1) := by decide +kernel
theorem dX9_proves_83 : decode cX9_proves 83 = .ok (.iload 5, 2) := by decide +kernel
theorem dX9_proves_85 : decode cX9_proves 85 = .ok (.iload 4, 2) := by decide +kernel
theorem dX9_proves_87 : decode cX9_proves 87 = .ok (.iconst 1, 1) := by decide +kernel
theorem dX9_proves_88 : decode cX9_proves 88 = .ok (.invokevirtual 184, 3) := by decide +kernel
theorem dX9_proves_91 : decode cX9_proves 91 = .ok (.iastore, 1) := by decide +kernel
theorem dX9_proves_92 : decode cX9_proves 92 = .ok (.iinc 5 1, 3) := by decide +kernel
theorem dX9_proves_95 : decode cX9_proves 95 = .ok (.goto (-25), 3) := by decide +kernel
theorem dX9_proves_98 : decode cX9_proves 98 = .ok (.iconst 0, 1) := by decide +kernel
theorem dX9_proves_99 : decode cX9_proves 99 = .ok (.istore 5, 2) := by decide +kernel
theorem dX9_proves_101 : decode cX9_proves 101 = .ok (.iload 5, 2) := by decide +kernel
theorem dX9_proves_103 : decode cX9_proves 103 = .ok (.bipush 80, 2) := by decide +kernel
theorem dX9_proves_105 : decode cX9_proves 105 = .ok (.if_icmp .ge 56, 3) := by decide +kernel
theorem dX9_proves_108 : decode cX9_proves 108 = .ok (.aload_n 0, 1) := by decide +kernel
theorem dX9_proves_109 : decode cX9_proves 109 = .ok (.getfield 58, 3) := by decide +kernel
theorem dX9_proves_112 : decode cX9_proves 112 = .ok (.iload 5, 2) := by decide +kernel
theorem dX9_proves_114 : decode cX9_proves 114 = .ok (.iaload, 1) := by decide +kernel
theorem dX9_proves_115 : decode cX9_proves 115 = .ok (.iload 4, 2) := by decide +kernel
theorem dX9_proves_117 : decode cX9_proves 117 = .ok (.if_icmp .ne 38, 3) := by decide +kernel
theorem dX9_proves_120 : decode cX9_proves 120 = .ok (.aload_n 0, 1) := by decide +kernel
theorem dX9_proves_121 : decode cX9_proves 121 = .ok (.getfield 67, 3) := by decide +kernel
theorem dX9_proves_124 : decode cX9_proves 124 = .ok (.iload 5, 2) := by decide +kernel
theorem dX9_proves_126 : decode cX9_proves 126 = .ok (.bipush 20, 2) := by decide +kernel
theorem dX9_proves_128 : decode cX9_proves 128 = .ok (.idiv, 1) := by decide +kernel
theorem dX9_proves_129 : decode cX9_proves 129 = .ok (.iaload, 1) := by decide +kernel
theorem dX9_proves_130 : decode cX9_proves 130 = .ok (.iload 5, 2) := by decide +kernel
theorem dX9_proves_132 : decode cX9_proves 132 = .ok (.bipush 20, 2) := by decide +kernel
theorem dX9_proves_134 : decode cX9_proves 134 = .ok (.irem, 1) := by decide +kernel
theorem dX9_proves_135 : decode cX9_proves 135 = .ok (.invokestatic 122, 3) := by decide +kernel
theorem dX9_proves_138 : decode cX9_proves 138 = .ok (.ifCond .eq 17, 3) := by decide +kernel
theorem dX9_proves_141 : decode cX9_proves 141 = .ok (.aload_n 0, 1) := by decide +kernel
theorem dX9_proves_142 : decode cX9_proves 142 = .ok (.iload 5, 2) := by decide +kernel
theorem dX9_proves_144 : decode cX9_proves 144 = .ok (.bipush 20, 2) := by decide +kernel
theorem dX9_proves_146 : decode cX9_proves 146 = .ok (.idiv, 1) := by decide +kernel
theorem dX9_proves_147 : decode cX9_proves 147 = .ok (.iload 5, 2) := by decide +kernel
theorem dX9_proves_149 : decode cX9_proves 149 = .ok (.bipush 20, 2) := by decide +kernel
theorem dX9_proves_151 : decode cX9_proves 151 = .ok (.irem, 1) := by decide +kernel
theorem dX9_proves_152 : decode cX9_proves 152 = .ok (.invokevirtual 219, 3) := by decide +kernel
theorem dX9_proves_155 : decode cX9_proves 155 = .ok (.iinc 5 1, 3) := by decide +kernel
theorem dX9_proves_158 : decode cX9_proves 158 = .ok (.goto (-57), 3) := by decide +kernel
theorem dX9_proves_161 : decode cX9_proves 161 = .ok (.iinc 4 (-1), 3) := by decide +kernel
theorem dX9_proves_164 : decode cX9_proves 164 = .ok (.goto (-102), 3) := by decide +kernel
theorem dX9_proves_167 : decode cX9_proves 167 = .ok (.iconst 1, 1) := by decide +kernel
theorem dX9_proves_168 : decode cX9_proves 168 = .ok (.istore 4, 2) := by decide +kernel
theorem dX9_proves_170 : decode cX9_proves 170 = .ok (.iload 4, 2) := by decide +kernel
theorem dX9_proves_172 : decode cX9_proves 172 = .ok (.iload_n 3, 1) := by decide +kernel
theorem dX9_proves_173 : decode cX9_proves 173 = .ok (.if_icmp .gt 79, 3) := by decide +kernel
theorem dX9_proves_176 : decode cX9_proves 176 = .ok (.iconst 0, 1) := by decide +kernel
theorem dX9_proves_177 : decode cX9_proves 177 = .ok (.istore 5, 2) := by decide +kernel
theorem dX9_proves_179 : decode cX9_proves 179 = .ok (.iload 5, 2) := by decide +kernel
theorem dX9_proves_181 : decode cX9_proves 181 = .ok (.bipush 80, 2) := by decide +kernel
theorem dX9_proves_183 : decode cX9_proves 183 = .ok (.if_icmp .ge 63, 3) := by decide +kernel
theorem dX9_proves_186 : decode cX9_proves 186 = .ok (.aload_n 0, 1) := by decide +kernel
theorem dX9_proves_187 : decode cX9_proves 187 = .ok (.getfield 58, 3) := by decide +kernel
theorem dX9_proves_190 : decode cX9_proves 190 = .ok (.iload 5, 2) := by decide +kernel
theorem dX9_proves_192 : decode cX9_proves 192 = .ok (.iaload, 1) := by decide +kernel
theorem dX9_proves_193 : decode cX9_proves 193 = .ok (.iload 4, 2) := by decide +kernel
theorem dX9_proves_195 : decode cX9_proves 195 = .ok (.if_icmp .ne 45, 3) := by decide +kernel
theorem dX9_proves_198 : decode cX9_proves 198 = .ok (.aload_n 0, 1) := by decide +kernel
theorem dX9_proves_199 : decode cX9_proves 199 = .ok (.getfield 67, 3) := by decide +kernel
theorem dX9_proves_202 : decode cX9_proves 202 = .ok (.iload 5, 2) := by decide +kernel
theorem dX9_proves_204 : decode cX9_proves 204 = .ok (.bipush 20, 2) := by decide +kernel
theorem dX9_proves_206 : decode cX9_proves 206 = .ok (.idiv, 1) := by decide +kernel
theorem dX9_proves_207 : decode cX9_proves 207 = .ok (.iaload, 1) := by decide +kernel
theorem dX9_proves_208 : decode cX9_proves 208 = .ok (.iload 5, 2) := by decide +kernel
theorem dX9_proves_210 : decode cX9_proves 210 = .ok (.bipush 20, 2) := by decide +kernel
theorem dX9_proves_212 : decode cX9_proves 212 = .ok (.irem, 1) := by decide +kernel
theorem dX9_proves_213 : decode cX9_proves 213 = .ok (.invokestatic 122, 3) := by decide +kernel
theorem dX9_proves_216 : decode cX9_proves 216 = .ok (.ifCond .eq 24, 3) := by decide +kernel
theorem dX9_proves_219 : decode cX9_proves 219 = .ok (.aload_n 0, 1) := by decide +kernel
theorem dX9_proves_220 : decode cX9_proves 220 = .ok (.getfield 70, 3) := by decide +kernel
theorem dX9_proves_223 : decode cX9_proves 223 = .ok (.aload_n 0, 1) := by decide +kernel
theorem dX9_proves_224 : decode cX9_proves 224 = .ok (.getfield 216, 3) := by decide +kernel
theorem dX9_proves_227 : decode cX9_proves 227 = .ok (.iload 5, 2) := by decide +kernel
theorem dX9_proves_229 : decode cX9_proves 229 = .ok (.iastore, 1) := by decide +kernel
theorem dX9_proves_230 : decode cX9_proves 230 = .ok (.aload_n 0, 1) := by decide +kernel
theorem dX9_proves_231 : decode cX9_proves 231 = .ok (.dup, 1) := by decide +kernel
theorem dX9_proves_232 : decode cX9_proves 232 = .ok (.getfield 216, 3) := by decide +kernel
theorem dX9_proves_235 : decode cX9_proves 235 = .ok (.iconst 1, 1) := by decide +kernel
theorem dX9_proves_236 : decode cX9_proves 236 = .ok (.iadd, 1) := by decide +kernel
theorem dX9_proves_237 : decode cX9_proves 237 = .ok (.putfield 216, 3) := by decide +kernel
theorem dX9_proves_240 : decode cX9_proves 240 = .ok (.iinc 5 1, 3) := by decide +kernel
theorem dX9_proves_243 : decode cX9_proves 243 = .ok (.goto (-64), 3) := by decide +kernel
theorem dX9_proves_246 : decode cX9_proves 246 = .ok (.iinc 4 1, 3) := by decide +kernel
theorem dX9_proves_249 : decode cX9_proves 249 = .ok (.goto (-79), 3) := by decide +kernel
theorem dX9_proves_252 : decode cX9_proves 252 = .ok (.iconst 1, 1) := by decide +kernel
theorem dX9_proves_253 : decode cX9_proves 253 = .ok (.ireturn, 1) := by decide +kernel
set_option maxRecDepth 20000 in
theorem ggX9_proof_X9_isLiteral : GoodIn wsX9_proof wsX9_isLiteral := goodIn_r _ [6, 7, 8, 5, 9] (by decide +kernel) (by decide +kernel)
set_option maxRecDepth 20000 in
theorem gX9_proof_X9_isLiteral : GoodIn wsX9_proof (va_wsS RX9 104 yX9_isLiteral wsX9_isLiteral) := goodIn_app (goodIn_of _ (by decide +kernel)) ggX9_proof_X9_isLiteral
set_option maxRecDepth 20000 in
theorem ggX9_proof_X9_isTag : GoodIn wsX9_proof wsX9_isTag := goodIn_r _ [12, 7, 8, 5, 9] (by decide +kernel) (by decide +kernel)
set_option maxRecDepth 20000 in
theorem gX9_proof_X9_isTag : GoodIn wsX9_proof (va_wsS RX9 178 yX9_isTag wsX9_isTag) := goodIn_app (goodIn_of _ (by decide +kernel)) ggX9_proof_X9_isTag
set_option maxRecDepth 20000 in
theorem ggX9_proof_X9_proves : GoodIn wsX9_proof wsX9_proves := goodIn_r _ [16, 1, 17, 18, 19, 2, 20, 21, 22, 5, 23, 24, 25, 26, 27, 28, 29, 30, 31, 32, 33, 34, 35, 36, 37, 38, 39, 40, 41, 42, 43, 44, 45, 46, 47, 48, 49, 50, 51, 52, 53, 54, 55, 56, 57, 58, 59, 60, 61, 62, 63, 64, 65, 66, 67, 68, 69, 70, 71, 72, 73, 74, 75, 76, 77, 78, 79, 80, 81, 82, 83, 84, 85, 86, 87, 88, 89, 90, 91, 92, 93, 94, 95, 96, 97, 98, 99, 100, 101, 102, 103, 104, 105, 106, 107, 108, 109, 110, 111, 112, 113, 114, 115, 116, 117, 118, 119, 120, 121, 122, 123, 124, 125, 126, 127, 128, 129, 130, 131, 132, 133, 134, 135, 136, 137, 138, 139, 140, 141, 142, 143, 144, 145, 146, 147, 148, 149, 150, 151, 152, 153, 154, 155, 156, 157, 158, 159, 160, 161, 162, 163, 164, 165, 166, 167, 168, 169, 170, 171, 172, 173, 174, 175, 176] (by decide +kernel) (by decide +kernel)
set_option maxRecDepth 20000 in
theorem gX9_proof_X9_proves : GoodIn wsX9_proof (wsV RX9 223 RX9 yX9_proves wsX9_proves) := goodIn_app (goodIn_of _ (by decide +kernel)) ggX9_proof_X9_proves
theorem dX9_proof_0 : decode cX9_proof 0 = .ok (.iload_n 1, 1) := by decide +kernel
theorem dX9_proof_1 : decode cX9_proof 1 = .ok (.invokestatic 104, 3) := by decide +kernel
theorem dX9_proof_4 : decode cX9_proof 4 = .ok (.ifCond .eq 15, 3) := by decide +kernel
theorem dX9_proof_7 : decode cX9_proof 7 = .ok (.iload_n 2, 1) := by decide +kernel
theorem dX9_proof_8 : decode cX9_proof 8 = .ok (.invokestatic 178, 3) := by decide +kernel
theorem dX9_proof_11 : decode cX9_proof 11 = .ok (.ifCond .eq 8, 3) := by decide +kernel
theorem dX9_proof_14 : decode cX9_proof 14 = .ok (.iload_n 3, 1) := by decide +kernel
theorem dX9_proof_15 : decode cX9_proof 15 = .ok (.iconst (-1), 1) := by decide +kernel
theorem dX9_proof_16 : decode cX9_proof 16 = .ok (.if_icmp .ge 5, 3) := by decide +kernel
theorem dX9_proof_19 : decode cX9_proof 19 = .ok (.iconst (-1), 1) := by decide +kernel
theorem dX9_proof_20 : decode cX9_proof 20 = .ok (.ireturn, 1) := by decide +kernel
theorem dX9_proof_21 : decode cX9_proof 21 = .ok (.aload_n 0, 1) := by decide +kernel
theorem dX9_proof_22 : decode cX9_proof 22 = .ok (.iload_n 1, 1) := by decide +kernel
theorem dX9_proof_23 : decode cX9_proof 23 = .ok (.iload_n 2, 1) := by decide +kernel
theorem dX9_proof_24 : decode cX9_proof 24 = .ok (.invokevirtual 223, 3) := by decide +kernel
theorem dX9_proof_27 : decode cX9_proof 27 = .ok (.ifCond .eq 11, 3) := by decide +kernel
theorem dX9_proof_30 : decode cX9_proof 30 = .ok (.iload_n 3, 1) := by decide +kernel
theorem dX9_proof_31 : decode cX9_proof 31 = .ok (.aload_n 0, 1) := by decide +kernel
theorem dX9_proof_32 : decode cX9_proof 32 = .ok (.getfield 216, 3) := by decide +kernel
theorem dX9_proof_35 : decode cX9_proof 35 = .ok (.if_icmp .lt 6, 3) := by decide +kernel
theorem dX9_proof_38 : decode cX9_proof 38 = .ok (.bipush (-2), 2) := by decide +kernel
theorem dX9_proof_40 : decode cX9_proof 40 = .ok (.ireturn, 1) := by decide +kernel
theorem dX9_proof_41 : decode cX9_proof 41 = .ok (.iload_n 3, 1) := by decide +kernel
theorem dX9_proof_42 : decode cX9_proof 42 = .ok (.ifCond .ge 10, 3) := by decide +kernel
theorem dX9_proof_45 : decode cX9_proof 45 = .ok (.aload_n 0, 1) := by decide +kernel
theorem dX9_proof_46 : decode cX9_proof 46 = .ok (.getfield 216, 3) := by decide +kernel
theorem dX9_proof_49 : decode cX9_proof 49 = .ok (.goto 25, 3) := by decide +kernel
theorem dX9_proof_52 : decode cX9_proof 52 = .ok (.bipush 100, 2) := by decide +kernel
theorem dX9_proof_54 : decode cX9_proof 54 = .ok (.aload_n 0, 1) := by decide +kernel
theorem dX9_proof_55 : decode cX9_proof 55 = .ok (.getfield 70, 3) := by decide +kernel
theorem dX9_proof_58 : decode cX9_proof 58 = .ok (.iload_n 3, 1) := by decide +kernel
theorem dX9_proof_59 : decode cX9_proof 59 = .ok (.iaload, 1) := by decide +kernel
theorem dX9_proof_60 : decode cX9_proof 60 = .ok (.bipush 20, 2) := by decide +kernel
theorem dX9_proof_62 : decode cX9_proof 62 = .ok (.idiv, 1) := by decide +kernel
theorem dX9_proof_63 : decode cX9_proof 63 = .ok (.imul, 1) := by decide +kernel
theorem dX9_proof_64 : decode cX9_proof 64 = .ok (.aload_n 0, 1) := by decide +kernel
theorem dX9_proof_65 : decode cX9_proof 65 = .ok (.getfield 70, 3) := by decide +kernel
theorem dX9_proof_68 : decode cX9_proof 68 = .ok (.iload_n 3, 1) := by decide +kernel
theorem dX9_proof_69 : decode cX9_proof 69 = .ok (.iaload, 1) := by decide +kernel
theorem dX9_proof_70 : decode cX9_proof 70 = .ok (.bipush 20, 2) := by decide +kernel
theorem dX9_proof_72 : decode cX9_proof 72 = .ok (.irem, 1) := by decide +kernel
theorem dX9_proof_73 : decode cX9_proof 73 = .ok (.iadd, 1) := by decide +kernel
theorem dX9_proof_74 : decode cX9_proof 74 = .ok (.ireturn, 1) := by decide +kernel
theorem dX9_print_0 : decode cX9_print 0 = .ok (.aload_n 0, 1) := by decide +kernel
theorem dX9_print_1 : decode cX9_print 1 = .ok (.getfield 37, 3) := by decide +kernel
theorem dX9_print_4 : decode cX9_print 4 = .ok (.aload_n 0, 1) := by decide +kernel
theorem dX9_print_5 : decode cX9_print 5 = .ok (.getfield 226, 3) := by decide +kernel
theorem dX9_print_8 : decode cX9_print 8 = .ok (.iload_n 1, 1) := by decide +kernel
theorem dX9_print_9 : decode cX9_print 9 = .ok (.iastore, 1) := by decide +kernel
theorem dX9_print_10 : decode cX9_print 10 = .ok (.aload_n 0, 1) := by decide +kernel
theorem dX9_print_11 : decode cX9_print 11 = .ok (.dup, 1) := by decide +kernel
theorem dX9_print_12 : decode cX9_print 12 = .ok (.getfield 226, 3) := by decide +kernel
theorem dX9_print_15 : decode cX9_print 15 = .ok (.iconst 1, 1) := by decide +kernel
theorem dX9_print_16 : decode cX9_print 16 = .ok (.iadd, 1) := by decide +kernel
theorem dX9_print_17 : decode cX9_print 17 = .ok (.putfield 226, 3) := by decide +kernel
theorem dX9_print_20 : decode cX9_print 20 = .ok (.return_, 1) := by decide +kernel
set_option maxRecDepth 20000 in
theorem ggX9_printLiteral_X9_print : GoodIn wsX9_printLiteral wsX9_print := goodIn_r _ [5, 6, 7, 8, 9, 10, 11, 12, 13, 14, 15, 16, 17, 18, 19, 20, 21, 22, 23, 24, 25, 26, 27, 28, 29, 30, 31, 32, 33, 34, 35, 36, 37, 38, 39, 40, 41, 42, 43, 44, 45, 46, 47] (by decide +kernel) (by decide +kernel)
set_option maxRecDepth 20000 in
theorem gX9_printLiteral_X9_print : GoodIn wsX9_printLiteral (wsV RX9 229 RX9 yX9_print wsX9_print) := goodIn_app (goodIn_of _ (by decide +kernel)) ggX9_printLiteral_X9_print
theorem dX9_printLiteral_0 : decode cX9_printLiteral 0 = .ok (.iload_n 1, 1) := by decide +kernel
theorem dX9_printLiteral_1 : decode cX9_printLiteral 1 = .ok (.bipush 9, 2) := by decide +kernel
theorem dX9_printLiteral_3 : decode cX9_printLiteral 3 = .ok (.if_icmp .le 9, 3) := by decide +kernel
theorem dX9_printLiteral_6 : decode cX9_printLiteral 6 = .ok (.aload_n 0, 1) := by decide +kernel
theorem dX9_printLiteral_7 : decode cX9_printLiteral 7 = .ok (.bipush 126, 2) := by decide +kernel
theorem dX9_printLiteral_9 : decode cX9_printLiteral 9 = .ok (.invokevirtual 229, 3) := by decide +kernel
theorem dX9_printLiteral_12 : decode cX9_printLiteral 12 = .ok (.aload_n 0, 1) := by decide +kernel
theorem dX9_printLiteral_13 : decode cX9_printLiteral 13 = .ok (.bipush 97, 2) := by decide +kernel
theorem dX9_printLiteral_15 : decode cX9_printLiteral 15 = .ok (.iload_n 1, 1) := by decide +kernel
theorem dX9_printLiteral_16 : decode cX9_printLiteral 16 = .ok (.bipush 10, 2) := by decide +kernel
theorem dX9_printLiteral_18 : decode cX9_printLiteral 18 = .ok (.irem, 1) := by decide +kernel
theorem dX9_printLiteral_19 : decode cX9_printLiteral 19 = .ok (.iadd, 1) := by decide +kernel
theorem dX9_printLiteral_20 : decode cX9_printLiteral 20 = .ok (.invokevirtual 229, 3) := by decide +kernel
theorem dX9_printLiteral_23 : decode cX9_printLiteral 23 = .ok (.return_, 1) := by decide +kernel
set_option maxRecDepth 20000 in
theorem ggX9_printAll_X9_has : GoodIn wsX9_printAll wsX9_has := goodIn_r _ [4] (by decide +kernel) (by decide +kernel)
set_option maxRecDepth 20000 in
theorem gX9_printAll_X9_has : GoodIn wsX9_printAll (va_wsS RX9 122 yX9_has wsX9_has) := goodIn_app (goodIn_of _ (by decide +kernel)) ggX9_printAll_X9_has
set_option maxRecDepth 20000 in
theorem ggX9_printAll_X9_print : GoodIn wsX9_printAll wsX9_print := goodIn_r _ [8, 9, 10, 15, 16, 17, 18, 19, 20, 21, 22, 23, 24, 25, 26, 27, 28, 29, 30, 31, 32, 33, 34, 35, 36, 37, 38, 39, 40, 41, 42, 43, 44, 45, 46, 47, 48, 49, 50, 51, 52, 53, 54] (by decide +kernel) (by decide +kernel)
set_option maxRecDepth 20000 in
theorem gX9_printAll_X9_print : GoodIn wsX9_printAll (wsV RX9 229 RX9 yX9_print wsX9_print) := goodIn_app (goodIn_of _ (by decide +kernel)) ggX9_printAll_X9_print
set_option maxRecDepth 20000 in
theorem ggX9_printAll_X9_printLiteral : GoodIn wsX9_printAll wsX9_printLiteral := goodIn_r _ [14, 5, 6, 7, 3, 8, 9, 10, 15, 16, 17, 18, 19, 20, 21, 22, 23, 24, 25, 26, 27, 28, 29, 30, 31, 32, 33, 34, 35, 36, 37, 38, 39, 40, 41, 42, 43, 44, 45, 46, 47, 48, 49, 50, 51, 52, 53, 54] (by decide +kernel) (by decide +kernel)
set_option maxRecDepth 20000 in
theorem gX9_printAll_X9_printLiteral : GoodIn wsX9_printAll (wsV RX9 232 RX9 yX9_printLiteral wsX9_printLiteral) := goodIn_app (goodIn_of _ (by decide +kernel)) ggX9_printAll_X9_printLiteral
theorem dX9_printAll_0 : decode cX9_printAll 0 = .ok (.iconst 1, 1) := by decide +kernel
theorem dX9_printAll_1 : decode cX9_printAll 1 = .ok (.istore_n 2, 1) := by decide +kernel
theorem dX9_printAll_2 : decode cX9_printAll 2 = .ok (.iconst 0, 1) := by decide +kernel
theorem dX9_printAll_3 : decode cX9_printAll 3 = .ok (.istore_n 3, 1) := by decide +kernel
theorem dX9_printAll_4 : decode cX9_printAll 4 = .ok (.iload_n 3, 1) := by decide +kernel
theorem dX9_printAll_5 : decode cX9_printAll 5 = .ok (.bipush 20, 2) := by decide +kernel
theorem dX9_printAll_7 : decode cX9_printAll 7 = .ok (.if_icmp .ge 34, 3) := by decide +kernel
theorem dX9_printAll_10 : decode cX9_printAll 10 = .ok (.iload_n 1, 1) := by decide +kernel
theorem dX9_printAll_11 : decode cX9_printAll 11 = .ok (.iload_n 3, 1) := by decide +kernel
theorem dX9_printAll_12 : decode cX9_printAll 12 = .ok (.invokestatic 122, 3) := by decide +kernel
theorem dX9_printAll_15 : decode cX9_printAll 15 = .ok (.ifCond .eq 20, 3) := by decide +kernel
theorem dX9_printAll_18 : decode cX9_printAll 18 = .ok (.iload_n 2, 1) := by decide +kernel
theorem dX9_printAll_19 : decode cX9_printAll 19 = .ok (.ifCond .ne 9, 3) := by decide +kernel
theorem dX9_printAll_22 : decode cX9_printAll 22 = .ok (.aload_n 0, 1) := by decide +kernel
theorem dX9_printAll_23 : decode cX9_printAll 23 = .ok (.bipush 44, 2) := by decide +kernel
theorem dX9_printAll_25 : decode cX9_printAll 25 = .ok (.invokevirtual 229, 3) := by decide +kernel
theorem dX9_printAll_28 : decode cX9_printAll 28 = .ok (.aload_n 0, 1) := by decide +kernel
theorem dX9_printAll_29 : decode cX9_printAll 29 = .ok (.iload_n 3, 1) := by decide +kernel
theorem dX9_printAll_30 : decode cX9_printAll 30 = .ok (.invokevirtual 232, 3) := by decide +kernel
theorem dX9_printAll_33 : decode cX9_printAll 33 = .ok (.iconst 0, 1) := by decide +kernel
theorem dX9_printAll_34 : decode cX9_printAll 34 = .ok (.istore_n 2, 1) := by decide +kernel
theorem dX9_printAll_35 : decode cX9_printAll 35 = .ok (.iinc 3 1, 3) := by decide +kernel
theorem dX9_printAll_38 : decode cX9_printAll 38 = .ok (.goto (-34), 3) := by decide +kernel
theorem dX9_printAll_41 : decode cX9_printAll 41 = .ok (.return_, 1) := by decide +kernel
set_option maxRecDepth 20000 in
theorem ggX9_printRule_X9_printAll : GoodIn wsX9_printRule wsX9_printAll := goodIn_r _ [10, 11, 12, 9, 13, 14, 15, 16, 17, 18, 19, 20, 21, 22, 23, 24, 25, 26, 27, 28, 29, 30, 31, 32, 33, 34, 35, 36, 37, 38, 39, 40, 41, 42, 43, 44, 45, 46, 47, 48, 49, 50, 51, 52, 53, 54, 55, 56, 57, 58, 59, 60, 61, 62, 63] (by decide +kernel) (by decide +kernel)
set_option maxRecDepth 20000 in
theorem gX9_printRule_X9_printAll : GoodIn wsX9_printRule (wsV RX9 235 RX9 yX9_printAll wsX9_printAll) := goodIn_app (goodIn_of _ (by decide +kernel)) ggX9_printRule_X9_printAll
set_option maxRecDepth 20000 in
theorem ggX9_printRule_X9_print : GoodIn wsX9_printRule wsX9_print := goodIn_r _ [17, 18, 19, 24, 25, 26, 27, 28, 29, 30, 31, 32, 33, 34, 35, 36, 37, 38, 39, 40, 41, 42, 43, 44, 45, 46, 47, 48, 49, 50, 51, 52, 53, 54, 55, 56, 57, 58, 59, 60, 61, 62, 63] (by decide +kernel) (by decide +kernel)
set_option maxRecDepth 20000 in
theorem gX9_printRule_X9_print : GoodIn wsX9_printRule (wsV RX9 229 RX9 yX9_print wsX9_print) := goodIn_app (goodIn_of _ (by decide +kernel)) ggX9_printRule_X9_print
set_option maxRecDepth 20000 in
theorem ggX9_printRule_X9_printLiteral : GoodIn wsX9_printRule wsX9_printLiteral := goodIn_r _ [23, 14, 15, 16, 9, 17, 18, 19, 24, 25, 26, 27, 28, 29, 30, 31, 32, 33, 34, 35, 36, 37, 38, 39, 40, 41, 42, 43, 44, 45, 46, 47, 48, 49, 50, 51, 52, 53, 54, 55, 56, 57, 58, 59, 60, 61, 62, 63] (by decide +kernel) (by decide +kernel)
set_option maxRecDepth 20000 in
theorem gX9_printRule_X9_printLiteral : GoodIn wsX9_printRule (wsV RX9 232 RX9 yX9_printLiteral wsX9_printLiteral) := goodIn_app (goodIn_of _ (by decide +kernel)) ggX9_printRule_X9_printLiteral
theorem dX9_printRule_0 : decode cX9_printRule 0 = .ok (.aload_n 0, 1) := by decide +kernel
theorem dX9_printRule_1 : decode cX9_printRule 1 = .ok (.aload_n 0, 1) := by decide +kernel
theorem dX9_printRule_2 : decode cX9_printRule 2 = .ok (.getfield 16, 3) := by decide +kernel
theorem dX9_printRule_5 : decode cX9_printRule 5 = .ok (.iload_n 1, 1) := by decide +kernel
theorem dX9_printRule_6 : decode cX9_printRule 6 = .ok (.iaload, 1) := by decide +kernel
theorem dX9_printRule_7 : decode cX9_printRule 7 = .ok (.invokevirtual 235, 3) := by decide +kernel
theorem dX9_printRule_10 : decode cX9_printRule 10 = .ok (.aload_n 0, 1) := by decide +kernel
theorem dX9_printRule_11 : decode cX9_printRule 11 = .ok (.aload_n 0, 1) := by decide +kernel
theorem dX9_printRule_12 : decode cX9_printRule 12 = .ok (.getfield 7, 3) := by decide +kernel
theorem dX9_printRule_15 : decode cX9_printRule 15 = .ok (.iload_n 1, 1) := by decide +kernel
theorem dX9_printRule_16 : decode cX9_printRule 16 = .ok (.iaload, 1) := by decide +kernel
theorem dX9_printRule_17 : decode cX9_printRule 17 = .ok (.ifCond .ne 8, 3) := by decide +kernel
theorem dX9_printRule_20 : decode cX9_printRule 20 = .ok (.bipush 45, 2) := by decide +kernel
theorem dX9_printRule_22 : decode cX9_printRule 22 = .ok (.goto 20, 3) := by decide +kernel
theorem dX9_printRule_25 : decode cX9_printRule 25 = .ok (.aload_n 0, 1) := by decide +kernel
theorem dX9_printRule_26 : decode cX9_printRule 26 = .ok (.getfield 7, 3) := by decide +kernel
theorem dX9_printRule_29 : decode cX9_printRule 29 = .ok (.iload_n 1, 1) := by decide +kernel
theorem dX9_printRule_30 : decode cX9_printRule 30 = .ok (.iaload, 1) := by decide +kernel
theorem dX9_printRule_31 : decode cX9_printRule 31 = .ok (.iconst 1, 1) := by decide +kernel
theorem dX9_printRule_32 : decode cX9_printRule 32 = .ok (.if_icmp .ne 8, 3) := by decide +kernel
theorem dX9_printRule_35 : decode cX9_printRule 35 = .ok (.bipush 61, 2) := by decide +kernel
theorem dX9_printRule_37 : decode cX9_printRule 37 = .ok (.goto 5, 3) := by decide +kernel
theorem dX9_printRule_40 : decode cX9_printRule 40 = .ok (.bipush 126, 2) := by decide +kernel
theorem dX9_printRule_42 : decode cX9_printRule 42 = .ok (.invokevirtual 229, 3) := by decide +kernel
theorem dX9_printRule_45 : decode cX9_printRule 45 = .ok (.aload_n 0, 1) := by decide +kernel
theorem dX9_printRule_46 : decode cX9_printRule 46 = .ok (.bipush 62, 2) := by decide +kernel
theorem dX9_printRule_48 : decode cX9_printRule 48 = .ok (.invokevirtual 229, 3) := by decide +kernel
theorem dX9_printRule_51 : decode cX9_printRule 51 = .ok (.aload_n 0, 1) := by decide +kernel
theorem dX9_printRule_52 : decode cX9_printRule 52 = .ok (.aload_n 0, 1) := by decide +kernel
theorem dX9_printRule_53 : decode cX9_printRule 53 = .ok (.getfield 13, 3) := by decide +kernel
theorem dX9_printRule_56 : decode cX9_printRule 56 = .ok (.iload_n 1, 1) := by decide +kernel
theorem dX9_printRule_57 : decode cX9_printRule 57 = .ok (.iaload, 1) := by decide +kernel
theorem dX9_printRule_58 : decode cX9_printRule 58 = .ok (.invokevirtual 232, 3) := by decide +kernel
theorem dX9_printRule_61 : decode cX9_printRule 61 = .ok (.aload_n 0, 1) := by decide +kernel
theorem dX9_printRule_62 : decode cX9_printRule 62 = .ok (.getfield 19, 3) := by decide +kernel
theorem dX9_printRule_65 : decode cX9_printRule 65 = .ok (.iload_n 1, 1) := by decide +kernel
theorem dX9_printRule_66 : decode cX9_printRule 66 = .ok (.iaload, 1) := by decide +kernel
theorem dX9_printRule_67 : decode cX9_printRule 67 = .ok (.ifCond .eq 19, 3) := by decide +kernel
theorem dX9_printRule_70 : decode cX9_printRule 70 = .ok (.aload_n 0, 1) := by decide +kernel
theorem dX9_printRule_71 : decode cX9_printRule 71 = .ok (.bipush 63, 2) := by decide +kernel
theorem dX9_printRule_73 : decode cX9_printRule 73 = .ok (.invokevirtual 229, 3) := by decide +kernel
theorem dX9_printRule_76 : decode cX9_printRule 76 = .ok (.aload_n 0, 1) := by decide +kernel
theorem dX9_printRule_77 : decode cX9_printRule 77 = .ok (.aload_n 0, 1) := by decide +kernel
theorem dX9_printRule_78 : decode cX9_printRule 78 = .ok (.getfield 19, 3) := by decide +kernel
theorem dX9_printRule_81 : decode cX9_printRule 81 = .ok (.iload_n 1, 1) := by decide +kernel
theorem dX9_printRule_82 : decode cX9_printRule 82 = .ok (.iaload, 1) := by decide +kernel
theorem dX9_printRule_83 : decode cX9_printRule 83 = .ok (.invokevirtual 235, 3) := by decide +kernel
theorem dX9_printRule_86 : decode cX9_printRule 86 = .ok (.aload_n 0, 1) := by decide +kernel
theorem dX9_printRule_87 : decode cX9_printRule 87 = .ok (.bipush 42, 2) := by decide +kernel
theorem dX9_printRule_89 : decode cX9_printRule 89 = .ok (.invokevirtual 229, 3) := by decide +kernel
theorem dX9_printRule_92 : decode cX9_printRule 92 = .ok (.aload_n 0, 1) := by decide +kernel
theorem dX9_printRule_93 : decode cX9_printRule 93 = .ok (.bipush 48, 2) := by decide +kernel
theorem dX9_printRule_95 : decode cX9_printRule 95 = .ok (.aload_n 0, 1) := by decide +kernel
theorem dX9_printRule_96 : decode cX9_printRule 96 = .ok (.getfield 22, 3) := by decide +kernel
theorem dX9_printRule_99 : decode cX9_printRule 99 = .ok (.iload_n 1, 1) := by decide +kernel
theorem dX9_printRule_100 : decode cX9_printRule 100 = .ok (.iaload, 1) := by decide +kernel
theorem dX9_printRule_101 : decode cX9_printRule 101 = .ok (.iadd, 1) := by decide +kernel
theorem dX9_printRule_102 : decode cX9_printRule 102 = .ok (.invokevirtual 229, 3) := by decide +kernel
theorem dX9_printRule_105 : decode cX9_printRule 105 = .ok (.aload_n 0, 1) := by decide +kernel
theorem dX9_printRule_106 : decode cX9_printRule 106 = .ok (.bipush 59, 2) := by decide +kernel
theorem dX9_printRule_108 : decode cX9_printRule 108 = .ok (.invokevirtual 229, 3) := by decide +kernel
theorem dX9_printRule_111 : decode cX9_printRule 111 = .ok (.return_, 1) := by decide +kernel
set_option maxRecDepth 20000 in
theorem ggX9_printTag_X9_print : GoodIn wsX9_printTag wsX9_print := goodIn_r _ [5, 6, 7, 12, 13, 14, 15, 16, 17, 18, 19, 20, 21, 22, 23, 24, 25, 26, 27, 28, 29, 30, 31, 32, 33, 34, 35, 36, 37, 38, 39, 40, 41, 42, 43, 44, 45, 46, 47, 48, 49, 50, 51] (by decide +kernel) (by decide +kernel)
set_option maxRecDepth 20000 in
theorem gX9_printTag_X9_print : GoodIn wsX9_printTag (wsV RX9 229 RX9 yX9_print wsX9_print) := goodIn_app (goodIn_of _ (by decide +kernel)) ggX9_printTag_X9_print
set_option maxRecDepth 20000 in
theorem ggX9_printTag_X9_printLiteral : GoodIn wsX9_printTag wsX9_printLiteral := goodIn_r _ [11, 1, 2, 3, 4, 5, 6, 7, 12, 13, 14, 15, 16, 17, 18, 19, 20, 21, 22, 23, 24, 25, 26, 27, 28, 29, 30, 31, 32, 33, 34, 35, 36, 37, 38, 39, 40, 41, 42, 43, 44, 45, 46, 47, 48, 49, 50, 51] (by decide +kernel) (by decide +kernel)
set_option maxRecDepth 20000 in
theorem gX9_printTag_X9_printLiteral : GoodIn wsX9_printTag (wsV RX9 232 RX9 yX9_printLiteral wsX9_printLiteral) := goodIn_app (goodIn_of _ (by decide +kernel)) ggX9_printTag_X9_printLiteral
theorem dX9_printTag_0 : decode cX9_printTag 0 = .ok (.iload_n 1, 1) := by decide +kernel
theorem dX9_printTag_1 : decode cX9_printTag 1 = .ok (.bipush 20, 2) := by decide +kernel
theorem dX9_printTag_3 : decode cX9_printTag 3 = .ok (.idiv, 1) := by decide +kernel
theorem dX9_printTag_4 : decode cX9_printTag 4 = .ok (.istore_n 2, 1) := by decide +kernel
theorem dX9_printTag_5 : decode cX9_printTag 5 = .ok (.aload_n 0, 1) := by decide +kernel
theorem dX9_printTag_6 : decode cX9_printTag 6 = .ok (.iload_n 2, 1) := by decide +kernel
theorem dX9_printTag_7 : decode cX9_printTag 7 = .ok (.ifCond .ne 8, 3) := by decide +kernel
theorem dX9_printTag_10 : decode cX9_printTag 10 = .ok (.bipush 33, 2) := by decide +kernel
theorem dX9_printTag_12 : decode cX9_printTag 12 = .ok (.goto 25, 3) := by decide +kernel
theorem dX9_printTag_15 : decode cX9_printTag 15 = .ok (.iload_n 2, 1) := by decide +kernel
theorem dX9_printTag_16 : decode cX9_printTag 16 = .ok (.iconst 1, 1) := by decide +kernel
theorem dX9_printTag_17 : decode cX9_printTag 17 = .ok (.if_icmp .ne 8, 3) := by decide +kernel
theorem dX9_printTag_20 : decode cX9_printTag 20 = .ok (.bipush 35, 2) := by decide +kernel
theorem dX9_printTag_22 : decode cX9_printTag 22 = .ok (.goto 15, 3) := by decide +kernel
theorem dX9_printTag_25 : decode cX9_printTag 25 = .ok (.iload_n 2, 1) := by decide +kernel
theorem dX9_printTag_26 : decode cX9_printTag 26 = .ok (.iconst 2, 1) := by decide +kernel
theorem dX9_printTag_27 : decode cX9_printTag 27 = .ok (.if_icmp .ne 8, 3) := by decide +kernel
theorem dX9_printTag_30 : decode cX9_printTag 30 = .ok (.bipush 43, 2) := by decide +kernel
theorem dX9_printTag_32 : decode cX9_printTag 32 = .ok (.goto 5, 3) := by decide +kernel
theorem dX9_printTag_35 : decode cX9_printTag 35 = .ok (.bipush 45, 2) := by decide +kernel
theorem dX9_printTag_37 : decode cX9_printTag 37 = .ok (.invokevirtual 229, 3) := by decide +kernel
theorem dX9_printTag_40 : decode cX9_printTag 40 = .ok (.aload_n 0, 1) := by decide +kernel
theorem dX9_printTag_41 : decode cX9_printTag 41 = .ok (.iload_n 1, 1) := by decide +kernel
theorem dX9_printTag_42 : decode cX9_printTag 42 = .ok (.bipush 20, 2) := by decide +kernel
theorem dX9_printTag_44 : decode cX9_printTag 44 = .ok (.irem, 1) := by decide +kernel
theorem dX9_printTag_45 : decode cX9_printTag 45 = .ok (.invokevirtual 232, 3) := by decide +kernel
theorem dX9_printTag_48 : decode cX9_printTag 48 = .ok (.aload_n 0, 1) := by decide +kernel
theorem dX9_printTag_49 : decode cX9_printTag 49 = .ok (.bipush 59, 2) := by decide +kernel
theorem dX9_printTag_51 : decode cX9_printTag 51 = .ok (.invokevirtual 229, 3) := by decide +kernel
theorem dX9_printTag_54 : decode cX9_printTag 54 = .ok (.return_, 1) := by decide +kernel
set_option maxRecDepth 20000 in
theorem ggX9_prints_X9_isLiteral : GoodIn wsX9_prints wsX9_isLiteral := goodIn_r _ [8, 9, 10, 7, 11] (by decide +kernel) (by decide +kernel)
set_option maxRecDepth 20000 in
theorem gX9_prints_X9_isLiteral : GoodIn wsX9_prints (va_wsS RX9 104 yX9_isLiteral wsX9_isLiteral) := goodIn_app (goodIn_of _ (by decide +kernel)) ggX9_prints_X9_isLiteral
set_option maxRecDepth 20000 in
theorem ggX9_prints_X9_isTag : GoodIn wsX9_prints wsX9_isTag := goodIn_r _ [14, 9, 10, 7, 11] (by decide +kernel) (by decide +kernel)
set_option maxRecDepth 20000 in
theorem gX9_prints_X9_isTag : GoodIn wsX9_prints (va_wsS RX9 178 yX9_isTag wsX9_isTag) := goodIn_app (goodIn_of _ (by decide +kernel)) ggX9_prints_X9_isTag
set_option maxRecDepth 20000 in
theorem ggX9_prints_X9_proves : GoodIn wsX9_prints wsX9_proves := goodIn_r _ [18, 3, 19, 20, 21, 4, 22, 23, 24, 7, 25, 26, 27, 28, 29, 30, 31, 32, 33, 34, 35, 36, 37, 38, 39, 2, 40, 41, 42, 43, 44, 45, 46, 47, 48, 49, 50, 51, 52, 53, 54, 55, 56, 57, 58, 59, 60, 61, 62, 63, 64, 65, 66, 67, 68, 69, 70, 71, 72, 73, 74, 75, 76, 77, 78, 79, 80, 81, 82, 83, 84, 85, 86, 87, 88, 89, 90, 91, 92, 93, 94, 95, 96, 97, 98, 99, 100, 101, 102, 103, 104, 105, 106, 107, 108, 109, 110, 111, 112, 113, 114, 115, 116, 117, 118, 119, 120, 121, 122, 123, 124, 125, 126, 127, 128, 129, 130, 131, 132, 133, 134, 135, 136, 137, 159, 160, 161, 162, 163, 164, 165, 166, 167, 168, 169, 170, 171, 172, 173, 174, 175, 176, 177, 178, 179, 180, 181, 182, 183, 184, 185, 186, 187, 188, 189, 190, 191, 192, 193, 194, 195, 196, 197, 198] (by decide +kernel) (by decide +kernel)
set_option maxRecDepth 20000 in
theorem gX9_prints_X9_proves : GoodIn wsX9_prints (wsV RX9 223 RX9 yX9_proves wsX9_proves) := goodIn_app (goodIn_of _ (by decide +kernel)) ggX9_prints_X9_proves
set_option maxRecDepth 20000 in
theorem ggX9_prints_X9_printRule : GoodIn wsX9_prints wsX9_printRule := goodIn_r _ [141, 41, 40, 47, 71, 77, 142, 143, 144, 7, 145, 28, 29, 30, 146, 147, 148, 149, 150, 1, 151, 152, 153, 154, 159, 160, 161, 162, 163, 164, 165, 166, 167, 168, 169, 170, 171, 172, 173, 174, 175, 176, 177, 178, 179, 180, 181, 182, 183, 184, 185, 186, 187, 188, 189, 190, 191, 192, 193, 194, 195, 196, 197, 198] (by decide +kernel) (by decide +kernel)
set_option maxRecDepth 20000 in
theorem gX9_prints_X9_printRule : GoodIn wsX9_prints (wsV RX9 238 RX9 yX9_printRule wsX9_printRule) := goodIn_app (goodIn_of _ (by decide +kernel)) ggX9_prints_X9_printRule
set_option maxRecDepth 20000 in
theorem ggX9_prints_X9_printTag : GoodIn wsX9_prints wsX9_printTag := goodIn_r _ [158, 146, 147, 148, 7, 149, 150, 1, 151, 152, 153, 154, 159, 160, 161, 162, 163, 164, 165, 166, 167, 168, 169, 170, 171, 172, 173, 174, 175, 176, 177, 178, 179, 180, 181, 182, 183, 184, 185, 186, 187, 188, 189, 190, 191, 192, 193, 194, 195, 196, 197, 198] (by decide +kernel) (by decide +kernel)
set_option maxRecDepth 20000 in
theorem gX9_prints_X9_printTag : GoodIn wsX9_prints (wsV RX9 241 RX9 yX9_printTag wsX9_printTag) := goodIn_app (goodIn_of _ (by decide +kernel)) ggX9_prints_X9_printTag
theorem dX9_prints_0 : decode cX9_prints 0 = .ok (.iload_n 1, 1) := by decide +kernel
theorem dX9_prints_1 : decode cX9_prints 1 = .ok (.iconst (-1), 1) := by decide +kernel
theorem dX9_prints_2 : decode cX9_prints 2 = .ok (.if_icmp .eq 19, 3) := by decide +kernel
theorem dX9_prints_5 : decode cX9_prints 5 = .ok (.iload_n 1, 1) := by decide +kernel
theorem dX9_prints_6 : decode cX9_prints 6 = .ok (.invokestatic 104, 3) := by decide +kernel
theorem dX9_prints_9 : decode cX9_prints 9 = .ok (.ifCond .eq 10, 3) := by decide +kernel
theorem dX9_prints_12 : decode cX9_prints 12 = .ok (.iload_n 2, 1) := by decide +kernel
theorem dX9_prints_13 : decode cX9_prints 13 = .ok (.invokestatic 178, 3) := by decide +kernel
theorem dX9_prints_16 : decode cX9_prints 16 = .ok (.ifCond .ne 5, 3) := by decide +kernel
theorem dX9_prints_19 : decode cX9_prints 19 = .ok (.iconst (-1), 1) := by decide +kernel
theorem dX9_prints_20 : decode cX9_prints 20 = .ok (.ireturn, 1) := by decide +kernel
theorem dX9_prints_21 : decode cX9_prints 21 = .ok (.iload_n 1, 1) := by decide +kernel
theorem dX9_prints_22 : decode cX9_prints 22 = .ok (.iconst (-1), 1) := by decide +kernel
theorem dX9_prints_23 : decode cX9_prints 23 = .ok (.if_icmp .eq 15, 3) := by decide +kernel
theorem dX9_prints_26 : decode cX9_prints 26 = .ok (.aload_n 0, 1) := by decide +kernel
theorem dX9_prints_27 : decode cX9_prints 27 = .ok (.iload_n 1, 1) := by decide +kernel
theorem dX9_prints_28 : decode cX9_prints 28 = .ok (.iload_n 2, 1) := by decide +kernel
theorem dX9_prints_29 : decode cX9_prints 29 = .ok (.invokevirtual 223, 3) := by decide +kernel
theorem dX9_prints_32 : decode cX9_prints 32 = .ok (.ifCond .ne 6, 3) := by decide +kernel
theorem dX9_prints_35 : decode cX9_prints 35 = .ok (.bipush (-2), 2) := by decide +kernel
theorem dX9_prints_37 : decode cX9_prints 37 = .ok (.ireturn, 1) := by decide +kernel
theorem dX9_prints_38 : decode cX9_prints 38 = .ok (.aload_n 0, 1) := by decide +kernel
theorem dX9_prints_39 : decode cX9_prints 39 = .ok (.iconst 0, 1) := by decide +kernel
theorem dX9_prints_40 : decode cX9_prints 40 = .ok (.putfield 226, 3) := by decide +kernel
theorem dX9_prints_43 : decode cX9_prints 43 = .ok (.iconst 0, 1) := by decide +kernel
theorem dX9_prints_44 : decode cX9_prints 44 = .ok (.istore_n 3, 1) := by decide +kernel
theorem dX9_prints_45 : decode cX9_prints 45 = .ok (.iload_n 3, 1) := by decide +kernel
theorem dX9_prints_46 : decode cX9_prints 46 = .ok (.iload_n 1, 1) := by decide +kernel
theorem dX9_prints_47 : decode cX9_prints 47 = .ok (.ifCond .ge 10, 3) := by decide +kernel
theorem dX9_prints_50 : decode cX9_prints 50 = .ok (.aload_n 0, 1) := by decide +kernel
theorem dX9_prints_51 : decode cX9_prints 51 = .ok (.getfield 77, 3) := by decide +kernel
theorem dX9_prints_54 : decode cX9_prints 54 = .ok (.goto 7, 3) := by decide +kernel
theorem dX9_prints_57 : decode cX9_prints 57 = .ok (.aload_n 0, 1) := by decide +kernel
theorem dX9_prints_58 : decode cX9_prints 58 = .ok (.getfield 216, 3) := by decide +kernel
theorem dX9_prints_61 : decode cX9_prints 61 = .ok (.if_icmp .ge 31, 3) := by decide +kernel
theorem dX9_prints_64 : decode cX9_prints 64 = .ok (.iload_n 1, 1) := by decide +kernel
theorem dX9_prints_65 : decode cX9_prints 65 = .ok (.ifCond .ge 11, 3) := by decide +kernel
theorem dX9_prints_68 : decode cX9_prints 68 = .ok (.aload_n 0, 1) := by decide +kernel
theorem dX9_prints_69 : decode cX9_prints 69 = .ok (.iload_n 3, 1) := by decide +kernel
theorem dX9_prints_70 : decode cX9_prints 70 = .ok (.invokevirtual 238, 3) := by decide +kernel
theorem dX9_prints_73 : decode cX9_prints 73 = .ok (.goto 13, 3) := by decide +kernel
theorem dX9_prints_76 : decode cX9_prints 76 = .ok (.aload_n 0, 1) := by decide +kernel
theorem dX9_prints_77 : decode cX9_prints 77 = .ok (.aload_n 0, 1) := by decide +kernel
theorem dX9_prints_78 : decode cX9_prints 78 = .ok (.getfield 70, 3) := by decide +kernel
theorem dX9_prints_81 : decode cX9_prints 81 = .ok (.iload_n 3, 1) := by decide +kernel
theorem dX9_prints_82 : decode cX9_prints 82 = .ok (.iaload, 1) := by decide +kernel
theorem dX9_prints_83 : decode cX9_prints 83 = .ok (.invokevirtual 241, 3) := by decide +kernel
theorem dX9_prints_86 : decode cX9_prints 86 = .ok (.iinc 3 1, 3) := by decide +kernel
theorem dX9_prints_89 : decode cX9_prints 89 = .ok (.goto (-44), 3) := by decide +kernel
theorem dX9_prints_92 : decode cX9_prints 92 = .ok (.aload_n 0, 1) := by decide +kernel
theorem dX9_prints_93 : decode cX9_prints 93 = .ok (.getfield 226, 3) := by decide +kernel
theorem dX9_prints_96 : decode cX9_prints 96 = .ok (.ireturn, 1) := by decide +kernel
theorem dX9_paper_0 : decode cX9_paper 0 = .ok (.iload_n 1, 1) := by decide +kernel
theorem dX9_paper_1 : decode cX9_paper 1 = .ok (.ifCond .ge 5, 3) := by decide +kernel
theorem dX9_paper_4 : decode cX9_paper 4 = .ok (.iconst (-1), 1) := by decide +kernel
theorem dX9_paper_5 : decode cX9_paper 5 = .ok (.ireturn, 1) := by decide +kernel
theorem dX9_paper_6 : decode cX9_paper 6 = .ok (.iload_n 1, 1) := by decide +kernel
theorem dX9_paper_7 : decode cX9_paper 7 = .ok (.aload_n 0, 1) := by decide +kernel
theorem dX9_paper_8 : decode cX9_paper 8 = .ok (.getfield 226, 3) := by decide +kernel
theorem dX9_paper_11 : decode cX9_paper 11 = .ok (.if_icmp .ge 12, 3) := by decide +kernel
theorem dX9_paper_14 : decode cX9_paper 14 = .ok (.aload_n 0, 1) := by decide +kernel
theorem dX9_paper_15 : decode cX9_paper 15 = .ok (.getfield 37, 3) := by decide +kernel
theorem dX9_paper_18 : decode cX9_paper 18 = .ok (.iload_n 1, 1) := by decide +kernel
theorem dX9_paper_19 : decode cX9_paper 19 = .ok (.iaload, 1) := by decide +kernel
theorem dX9_paper_20 : decode cX9_paper 20 = .ok (.goto 5, 3) := by decide +kernel
theorem dX9_paper_23 : decode cX9_paper 23 = .ok (.bipush (-2), 2) := by decide +kernel
theorem dX9_paper_25 : decode cX9_paper 25 = .ok (.ireturn, 1) := by decide +kernel
set_option maxRecDepth 20000 in
theorem ggX9_pairs_J6_bitCount_0f7a4 : GoodIn wsX9_pairs wsJ6_bitCount_0f7a4 := goodIn_r _ [6, 7, 8, 9] (by decide +kernel) (by decide +kernel)
set_option maxRecDepth 20000 in
theorem gX9_pairs_J6_bitCount_0f7a4 : GoodIn wsX9_pairs (va_wsS RX9 244 yJ6_bitCount_0f7a4 wsJ6_bitCount_0f7a4) := goodIn_app (goodIn_of _ (by decide +kernel)) ggX9_pairs_J6_bitCount_0f7a4
theorem dX9_pairs_0 : decode cX9_pairs 0 = .ok (.iconst 0, 1) := by decide +kernel
theorem dX9_pairs_1 : decode cX9_pairs 1 = .ok (.istore_n 1, 1) := by decide +kernel
theorem dX9_pairs_2 : decode cX9_pairs 2 = .ok (.iconst 0, 1) := by decide +kernel
theorem dX9_pairs_3 : decode cX9_pairs 3 = .ok (.istore_n 2, 1) := by decide +kernel
theorem dX9_pairs_4 : decode cX9_pairs 4 = .ok (.iload_n 2, 1) := by decide +kernel
theorem dX9_pairs_5 : decode cX9_pairs 5 = .ok (.aload_n 0, 1) := by decide +kernel
theorem dX9_pairs_6 : decode cX9_pairs 6 = .ok (.getfield 77, 3) := by decide +kernel
theorem dX9_pairs_9 : decode cX9_pairs 9 = .ok (.if_icmp .ge 21, 3) := by decide +kernel
theorem dX9_pairs_12 : decode cX9_pairs 12 = .ok (.iload_n 1, 1) := by decide +kernel
theorem dX9_pairs_13 : decode cX9_pairs 13 = .ok (.aload_n 0, 1) := by decide +kernel
theorem dX9_pairs_14 : decode cX9_pairs 14 = .ok (.getfield 28, 3) := by decide +kernel
theorem dX9_pairs_17 : decode cX9_pairs 17 = .ok (.iload_n 2, 1) := by decide +kernel
theorem dX9_pairs_18 : decode cX9_pairs 18 = .ok (.iaload, 1) := by decide +kernel
theorem dX9_pairs_19 : decode cX9_pairs 19 = .ok (.invokestatic 244, 3) := by decide +kernel
theorem dX9_pairs_22 : decode cX9_pairs 22 = .ok (.iadd, 1) := by decide +kernel
theorem dX9_pairs_23 : decode cX9_pairs 23 = .ok (.istore_n 1, 1) := by decide +kernel
theorem dX9_pairs_24 : decode cX9_pairs 24 = .ok (.iinc 2 1, 3) := by decide +kernel
theorem dX9_pairs_27 : decode cX9_pairs 27 = .ok (.goto (-23), 3) := by decide +kernel
theorem dX9_pairs_30 : decode cX9_pairs 30 = .ok (.iload_n 1, 1) := by decide +kernel
theorem dX9_pairs_31 : decode cX9_pairs 31 = .ok (.ireturn, 1) := by decide +kernel
set_option maxRecDepth 20000 in
theorem ggX9_missing_X9_tags : GoodIn wsX9_missing wsX9_tags := goodIn_r _ [7, 8, 2, 9, 10, 11, 12, 6, 13, 14, 15, 16, 17, 18, 19, 20, 21, 22, 23, 24, 25, 26, 27, 28, 29, 30, 31, 32, 33, 34, 35, 36, 37, 38, 39, 40, 41, 42, 43, 44, 45, 46, 47, 48, 49, 50, 51, 52, 53, 54, 55, 56, 57, 58, 59, 60, 61, 62, 63, 64, 65, 66, 67, 68, 69, 70, 71, 72, 73, 74, 75, 76, 77, 78, 79, 80, 81, 82, 83, 84, 85, 86, 87, 88, 89, 90, 91, 92, 93, 94, 95, 96, 97, 98, 99, 100, 101, 102, 103, 104, 105, 106, 107, 108, 109, 110, 111, 112, 113, 114, 115, 116, 117, 118, 119, 120, 121] (by decide +kernel) (by decide +kernel)
set_option maxRecDepth 20000 in
theorem gX9_missing_X9_tags : GoodIn wsX9_missing (wsV RX9 181 RX9 yX9_tags wsX9_tags) := goodIn_app (goodIn_of _ (by decide +kernel)) ggX9_missing_X9_tags
theorem dX9_missing_0 : decode cX9_missing 0 = .ok (.aload_n 0, 1) := by decide +kernel
theorem dX9_missing_1 : decode cX9_missing 1 = .ok (.invokevirtual 181, 3) := by decide +kernel
theorem dX9_missing_4 : decode cX9_missing 4 = .ok (.ldc 115, 2) := by decide +kernel
theorem dX9_missing_6 : decode cX9_missing 6 = .ok (.aload_n 0, 1) := by decide +kernel
theorem dX9_missing_7 : decode cX9_missing 7 = .ok (.getfield 61, 3) := by decide +kernel
theorem dX9_missing_10 : decode cX9_missing 10 = .ok (.iconst 2, 1) := by decide +kernel
theorem dX9_missing_11 : decode cX9_missing 11 = .ok (.iaload, 1) := by decide +kernel
theorem dX9_missing_12 : decode cX9_missing 12 = .ok (.aload_n 0, 1) := by decide +kernel
theorem dX9_missing_13 : decode cX9_missing 13 = .ok (.getfield 61, 3) := by decide +kernel
theorem dX9_missing_16 : decode cX9_missing 16 = .ok (.iconst 3, 1) := by decide +kernel
theorem dX9_missing_17 : decode cX9_missing 17 = .ok (.iaload, 1) := by decide +kernel
theorem dX9_missing_18 : decode cX9_missing 18 = .ok (.ior, 1) := by decide +kernel
theorem dX9_missing_19 : decode cX9_missing 19 = .ok (.iconst (-1), 1) := by decide +kernel
theorem dX9_missing_20 : decode cX9_missing 20 = .ok (.ixor, 1) := by decide +kernel
theorem dX9_missing_21 : decode cX9_missing 21 = .ok (.iand, 1) := by decide +kernel
theorem dX9_missing_22 : decode cX9_missing 22 = .ok (.ireturn, 1) := by decide +kernel
set_option maxRecDepth 20000 in
theorem ggX9_bothSides_X9_tags : GoodIn wsX9_bothSides wsX9_tags := goodIn_r _ [7, 8, 1, 9, 10, 11, 12, 6, 13, 14, 15, 16, 17, 18, 19, 20, 21, 22, 23, 24, 25, 26, 27, 28, 29, 30, 31, 32, 33, 34, 35, 36, 37, 38, 39, 40, 41, 42, 43, 44, 45, 46, 47, 48, 49, 50, 51, 52, 53, 54, 55, 56, 57, 58, 59, 60, 61, 62, 63, 64, 65, 66, 67, 68, 69, 70, 71, 72, 73, 74, 75, 76, 77, 78, 79, 80, 81, 82, 83, 84, 85, 86, 87, 88, 89, 90, 91, 92, 93, 94, 95, 96, 97, 98, 99, 100, 101, 102, 103, 104, 105, 106, 107, 108, 109, 110, 111, 112, 113, 114, 115, 116, 117, 118, 119, 120, 121] (by decide +kernel) (by decide +kernel)
set_option maxRecDepth 20000 in
theorem gX9_bothSides_X9_tags : GoodIn wsX9_bothSides (wsV RX9 181 RX9 yX9_tags wsX9_tags) := goodIn_app (goodIn_of _ (by decide +kernel)) ggX9_bothSides_X9_tags
theorem dX9_bothSides_0 : decode cX9_bothSides 0 = .ok (.aload_n 0, 1) := by decide +kernel
theorem dX9_bothSides_1 : decode cX9_bothSides 1 = .ok (.invokevirtual 181, 3) := by decide +kernel
theorem dX9_bothSides_4 : decode cX9_bothSides 4 = .ok (.aload_n 0, 1) := by decide +kernel
theorem dX9_bothSides_5 : decode cX9_bothSides 5 = .ok (.getfield 61, 3) := by decide +kernel
theorem dX9_bothSides_8 : decode cX9_bothSides 8 = .ok (.iconst 2, 1) := by decide +kernel
theorem dX9_bothSides_9 : decode cX9_bothSides 9 = .ok (.iaload, 1) := by decide +kernel
theorem dX9_bothSides_10 : decode cX9_bothSides 10 = .ok (.aload_n 0, 1) := by decide +kernel
theorem dX9_bothSides_11 : decode cX9_bothSides 11 = .ok (.getfield 61, 3) := by decide +kernel
theorem dX9_bothSides_14 : decode cX9_bothSides 14 = .ok (.iconst 2, 1) := by decide +kernel
theorem dX9_bothSides_15 : decode cX9_bothSides 15 = .ok (.iaload, 1) := by decide +kernel
theorem dX9_bothSides_16 : decode cX9_bothSides 16 = .ok (.bipush 10, 2) := by decide +kernel
theorem dX9_bothSides_18 : decode cX9_bothSides 18 = .ok (.ishr, 1) := by decide +kernel
theorem dX9_bothSides_19 : decode cX9_bothSides 19 = .ok (.aload_n 0, 1) := by decide +kernel
theorem dX9_bothSides_20 : decode cX9_bothSides 20 = .ok (.getfield 61, 3) := by decide +kernel
theorem dX9_bothSides_23 : decode cX9_bothSides 23 = .ok (.iconst 2, 1) := by decide +kernel
theorem dX9_bothSides_24 : decode cX9_bothSides 24 = .ok (.iaload, 1) := by decide +kernel
theorem dX9_bothSides_25 : decode cX9_bothSides 25 = .ok (.bipush 10, 2) := by decide +kernel
theorem dX9_bothSides_27 : decode cX9_bothSides 27 = .ok (.ishl, 1) := by decide +kernel
theorem dX9_bothSides_28 : decode cX9_bothSides 28 = .ok (.ldc 115, 2) := by decide +kernel
theorem dX9_bothSides_30 : decode cX9_bothSides 30 = .ok (.iand, 1) := by decide +kernel
theorem dX9_bothSides_31 : decode cX9_bothSides 31 = .ok (.ior, 1) := by decide +kernel
theorem dX9_bothSides_32 : decode cX9_bothSides 32 = .ok (.iand, 1) := by decide +kernel
theorem dX9_bothSides_33 : decode cX9_bothSides 33 = .ok (.ireturn, 1) := by decide +kernel
set_option maxRecDepth 20000 in
theorem ggX9_cameMany_X9_tags : GoodIn wsX9_cameMany wsX9_tags := goodIn_r _ [6, 7, 1, 8, 9, 10, 11, 5, 12, 13, 14, 15, 16, 17, 18, 19, 20, 21, 22, 23, 24, 25, 26, 27, 28, 29, 30, 31, 32, 33, 34, 35, 36, 37, 38, 39, 40, 41, 42, 43, 44, 45, 46, 47, 48, 49, 50, 51, 52, 53, 54, 55, 56, 57, 58, 59, 60, 61, 62, 63, 64, 65, 66, 67, 68, 69, 70, 71, 72, 73, 74, 75, 76, 77, 78, 79, 80, 88, 89, 90, 91, 92, 93, 94, 95, 96, 97, 98, 99, 100, 101, 102, 103, 104, 105, 106, 107, 108, 109, 110, 111, 112, 113, 114, 115, 116, 117, 118, 119, 120, 121, 122, 123, 124, 125, 126, 127] (by decide +kernel) (by decide +kernel)
set_option maxRecDepth 20000 in
theorem gX9_cameMany_X9_tags : GoodIn wsX9_cameMany (wsV RX9 181 RX9 yX9_tags wsX9_tags) := goodIn_app (goodIn_of _ (by decide +kernel)) ggX9_cameMany_X9_tags
set_option maxRecDepth 20000 in
theorem ggX9_cameMany_J6_bitCount_0f7a4 : GoodIn wsX9_cameMany wsJ6_bitCount_0f7a4 := goodIn_r _ [84, 85, 86, 87] (by decide +kernel) (by decide +kernel)
set_option maxRecDepth 20000 in
theorem gX9_cameMany_J6_bitCount_0f7a4 : GoodIn wsX9_cameMany (va_wsS RX9 244 yJ6_bitCount_0f7a4 wsJ6_bitCount_0f7a4) := goodIn_app (goodIn_of _ (by decide +kernel)) ggX9_cameMany_J6_bitCount_0f7a4
theorem dX9_cameMany_0 : decode cX9_cameMany 0 = .ok (.aload_n 0, 1) := by decide +kernel
theorem dX9_cameMany_1 : decode cX9_cameMany 1 = .ok (.invokevirtual 181, 3) := by decide +kernel
theorem dX9_cameMany_4 : decode cX9_cameMany 4 = .ok (.iconst 0, 1) := by decide +kernel
theorem dX9_cameMany_5 : decode cX9_cameMany 5 = .ok (.istore_n 1, 1) := by decide +kernel
theorem dX9_cameMany_6 : decode cX9_cameMany 6 = .ok (.iconst 0, 1) := by decide +kernel
theorem dX9_cameMany_7 : decode cX9_cameMany 7 = .ok (.istore_n 2, 1) := by decide +kernel
theorem dX9_cameMany_8 : decode cX9_cameMany 8 = .ok (.iload_n 2, 1) := by decide +kernel
theorem dX9_cameMany_9 : decode cX9_cameMany 9 = .ok (.iconst 4, 1) := by decide +kernel
theorem dX9_cameMany_10 : decode cX9_cameMany 10 = .ok (.if_icmp .ge 21, 3) := by decide +kernel
theorem dX9_cameMany_13 : decode cX9_cameMany 13 = .ok (.iload_n 1, 1) := by decide +kernel
theorem dX9_cameMany_14 : decode cX9_cameMany 14 = .ok (.aload_n 0, 1) := by decide +kernel
theorem dX9_cameMany_15 : decode cX9_cameMany 15 = .ok (.getfield 61, 3) := by decide +kernel
theorem dX9_cameMany_18 : decode cX9_cameMany 18 = .ok (.iload_n 2, 1) := by decide +kernel
theorem dX9_cameMany_19 : decode cX9_cameMany 19 = .ok (.iaload, 1) := by decide +kernel
theorem dX9_cameMany_20 : decode cX9_cameMany 20 = .ok (.invokestatic 244, 3) := by decide +kernel
theorem dX9_cameMany_23 : decode cX9_cameMany 23 = .ok (.iadd, 1) := by decide +kernel
theorem dX9_cameMany_24 : decode cX9_cameMany 24 = .ok (.istore_n 1, 1) := by decide +kernel
theorem dX9_cameMany_25 : decode cX9_cameMany 25 = .ok (.iinc 2 1, 3) := by decide +kernel
theorem dX9_cameMany_28 : decode cX9_cameMany 28 = .ok (.goto (-20), 3) := by decide +kernel
theorem dX9_cameMany_31 : decode cX9_cameMany 31 = .ok (.iload_n 1, 1) := by decide +kernel
theorem dX9_cameMany_32 : decode cX9_cameMany 32 = .ok (.ireturn, 1) := by decide +kernel
set_option maxRecDepth 20000 in
theorem ggX9_roundMany_X9_tags : GoodIn wsX9_roundMany wsX9_tags := goodIn_r _ [6, 7, 8, 1, 9, 10, 11, 5, 12, 13, 14, 15, 16, 17, 18, 19, 20, 21, 22, 23, 24, 25, 26, 27, 28, 29, 30, 31, 32, 33, 34, 35, 36, 37, 38, 39, 40, 41, 42, 43, 44, 45, 46, 47, 48, 49, 50, 51, 52, 53, 54, 55, 56, 57, 58, 59, 60, 61, 62, 63, 64, 65, 66, 67, 68, 69, 70, 71, 72, 73, 74, 75, 76, 77, 78, 79, 80, 81, 82, 83, 84, 85, 86, 87, 88, 89, 90, 91, 92, 93, 94, 95, 96, 97, 98, 99, 100, 101, 102, 103, 104, 105, 106, 107, 108, 109, 110, 111, 112, 113, 114, 115, 116, 117, 118, 119, 120] (by decide +kernel) (by decide +kernel)
set_option maxRecDepth 20000 in
theorem gX9_roundMany_X9_tags : GoodIn wsX9_roundMany (wsV RX9 181 RX9 yX9_tags wsX9_tags) := goodIn_app (goodIn_of _ (by decide +kernel)) ggX9_roundMany_X9_tags
theorem dX9_roundMany_0 : decode cX9_roundMany 0 = .ok (.aload_n 0, 1) := by decide +kernel
theorem dX9_roundMany_1 : decode cX9_roundMany 1 = .ok (.invokevirtual 181, 3) := by decide +kernel
theorem dX9_roundMany_4 : decode cX9_roundMany 4 = .ok (.aload_n 0, 1) := by decide +kernel
theorem dX9_roundMany_5 : decode cX9_roundMany 5 = .ok (.getfield 172, 3) := by decide +kernel
theorem dX9_roundMany_8 : decode cX9_roundMany 8 = .ok (.ireturn, 1) := by decide +kernel
set_option maxRecDepth 20000 in
theorem ggX9_count_X9_circles : GoodIn wsX9_count wsX9_circles := goodIn_r _ [11, 2, 12, 13, 14, 15, 10, 16, 17, 18, 19, 20, 21, 22, 23, 24, 25, 122, 123, 124, 125, 126, 127, 128, 129, 130, 131, 132, 133, 134, 135, 136, 137, 138, 139, 140, 141, 142, 143, 144, 145, 146, 147, 148, 149, 150, 151, 152, 153, 154, 155, 156, 157, 158, 159, 160, 161] (by decide +kernel) (by decide +kernel)
set_option maxRecDepth 20000 in
theorem gX9_count_X9_circles : GoodIn wsX9_count (wsV RX9 247 RX9 yX9_circles wsX9_circles) := goodIn_app (goodIn_of _ (by decide +kernel)) ggX9_count_X9_circles
set_option maxRecDepth 20000 in
theorem ggX9_count_X9_missing : GoodIn wsX9_count wsX9_missing := goodIn_r _ [29, 30, 31, 32, 33, 34, 10, 35, 36, 37, 38, 23, 24, 25, 39, 40, 41, 42, 43, 44, 45, 46, 1, 2, 47, 48, 49, 50, 51, 52, 53, 54, 55, 56, 57, 58, 59, 60, 61, 62, 63, 64, 65, 66, 67, 68, 69, 70, 71, 72, 73, 74, 75, 76, 77, 78, 17, 18, 19, 20, 21, 22, 79, 80, 81, 82, 83, 84, 85, 86, 87, 88, 89, 90, 91, 92, 93, 94, 95, 96, 97, 98, 122, 123, 124, 125, 126, 127, 128, 129, 130, 131, 132, 133, 134, 135, 136, 137, 138, 139, 140, 141, 142, 143, 144, 145, 146, 147, 148, 149, 150, 151, 152, 153, 154, 155, 156, 157, 158, 159, 160, 161] (by decide +kernel) (by decide +kernel)
set_option maxRecDepth 20000 in
theorem gX9_count_X9_missing : GoodIn wsX9_count (wsV RX9 251 RX9 yX9_missing wsX9_missing) := goodIn_app (goodIn_of _ (by decide +kernel)) ggX9_count_X9_missing
set_option maxRecDepth 20000 in
theorem ggX9_count_X9_bothSides : GoodIn wsX9_count wsX9_bothSides := goodIn_r _ [102, 31, 30, 32, 33, 34, 10, 35, 36, 37, 38, 23, 24, 25, 39, 40, 41, 42, 43, 44, 45, 46, 1, 2, 47, 48, 49, 50, 51, 52, 53, 54, 55, 56, 57, 58, 59, 60, 61, 62, 63, 64, 65, 66, 67, 68, 69, 70, 71, 72, 73, 74, 75, 76, 77, 78, 17, 18, 19, 20, 21, 22, 79, 80, 81, 82, 83, 84, 85, 86, 87, 88, 89, 90, 91, 92, 93, 94, 95, 96, 97, 98, 122, 123, 124, 125, 126, 127, 128, 129, 130, 131, 132, 133, 134, 135, 136, 137, 138, 139, 140, 141, 142, 143, 144, 145, 146, 147, 148, 149, 150, 151, 152, 153, 154, 155, 156, 157, 158, 159, 160, 161] (by decide +kernel) (by decide +kernel)
set_option maxRecDepth 20000 in
theorem gX9_count_X9_bothSides : GoodIn wsX9_count (wsV RX9 254 RX9 yX9_bothSides wsX9_bothSides) := goodIn_app (goodIn_of _ (by decide +kernel)) ggX9_count_X9_bothSides
set_option maxRecDepth 20000 in
theorem ggX9_count_X9_pairs : GoodIn wsX9_count wsX9_pairs := goodIn_r _ [106, 2, 21, 107, 108, 109, 110, 111, 112, 113, 122, 123, 124, 125, 126, 127, 128, 129, 130, 131, 132, 133, 134, 135, 136, 137, 138, 139, 140, 141, 142, 143, 144, 145, 146, 147, 148, 149, 150, 151, 152, 153, 154, 155, 156, 157, 158, 159, 160, 161] (by decide +kernel) (by decide +kernel)
set_option maxRecDepth 20000 in
theorem gX9_count_X9_pairs : GoodIn wsX9_count (wsV RX9 257 RX9 yX9_pairs wsX9_pairs) := goodIn_app (goodIn_of _ (by decide +kernel)) ggX9_count_X9_pairs
set_option maxRecDepth 20000 in
theorem ggX9_count_X9_cameMany : GoodIn wsX9_count wsX9_cameMany := goodIn_r _ [117, 31, 32, 33, 34, 10, 35, 36, 37, 38, 23, 24, 25, 39, 40, 41, 42, 43, 44, 45, 46, 1, 2, 47, 48, 49, 50, 51, 52, 53, 54, 55, 56, 57, 58, 59, 60, 61, 62, 63, 64, 65, 66, 67, 68, 69, 70, 71, 72, 73, 74, 75, 76, 77, 78, 17, 18, 19, 20, 21, 22, 79, 80, 81, 82, 83, 84, 85, 86, 87, 88, 89, 90, 91, 92, 93, 94, 95, 96, 97, 98, 107, 108, 109, 110, 111, 112, 113, 122, 123, 124, 125, 126, 127, 128, 129, 130, 131, 132, 133, 134, 135, 136, 137, 138, 139, 140, 141, 142, 143, 144, 145, 146, 147, 148, 149, 150, 151, 152, 153, 154, 155, 156, 157, 158, 159, 160, 161] (by decide +kernel) (by decide +kernel)
set_option maxRecDepth 20000 in
theorem gX9_count_X9_cameMany : GoodIn wsX9_count (wsV RX9 260 RX9 yX9_cameMany wsX9_cameMany) := goodIn_app (goodIn_of _ (by decide +kernel)) ggX9_count_X9_cameMany
set_option maxRecDepth 20000 in
theorem ggX9_count_X9_roundMany : GoodIn wsX9_count wsX9_roundMany := goodIn_r _ [121, 37, 32, 33, 34, 10, 35, 36, 31, 38, 23, 24, 25, 39, 40, 41, 42, 43, 44, 45, 46, 1, 2, 47, 48, 49, 50, 51, 52, 53, 54, 55, 56, 57, 58, 59, 60, 61, 62, 63, 64, 65, 66, 67, 68, 69, 70, 71, 72, 73, 74, 75, 76, 77, 78, 17, 18, 19, 20, 21, 22, 79, 80, 81, 82, 83, 84, 85, 86, 87, 88, 89, 90, 91, 92, 93, 94, 95, 96, 97, 98, 122, 123, 124, 125, 126, 127, 128, 129, 130, 131, 132, 133, 134, 135, 136, 137, 138, 139, 140, 141, 142, 143, 144, 145, 146, 147, 148, 149, 150, 151, 152, 153, 154, 155, 156, 157, 158, 159, 160, 161] (by decide +kernel) (by decide +kernel)
set_option maxRecDepth 20000 in
theorem gX9_count_X9_roundMany : GoodIn wsX9_count (wsV RX9 263 RX9 yX9_roundMany wsX9_roundMany) := goodIn_app (goodIn_of _ (by decide +kernel)) ggX9_count_X9_roundMany
theorem dX9_count_0 : decode cX9_count 0 = .ok (.iload_n 1, 1) := by decide +kernel
theorem dX9_count_1 : decode cX9_count 1 = .ok (.tableswitch 123 0 11 #[63, 68, 73, 78, 83, 88, 93, 98, 103, 108, 113, 118], 63) := by decide +kernel
theorem dX9_count_64 : decode cX9_count 64 = .ok (.aload_n 0, 1) := by decide +kernel
theorem dX9_count_65 : decode cX9_count 65 = .ok (.getfield 93, 3) := by decide +kernel
theorem dX9_count_68 : decode cX9_count 68 = .ok (.ireturn, 1) := by decide +kernel
theorem dX9_count_69 : decode cX9_count 69 = .ok (.aload_n 0, 1) := by decide +kernel
theorem dX9_count_70 : decode cX9_count 70 = .ok (.invokevirtual 247, 3) := by decide +kernel
theorem dX9_count_73 : decode cX9_count 73 = .ok (.ireturn, 1) := by decide +kernel
theorem dX9_count_74 : decode cX9_count 74 = .ok (.aload_n 0, 1) := by decide +kernel
theorem dX9_count_75 : decode cX9_count 75 = .ok (.invokevirtual 251, 3) := by decide +kernel
theorem dX9_count_78 : decode cX9_count 78 = .ok (.ireturn, 1) := by decide +kernel
theorem dX9_count_79 : decode cX9_count 79 = .ok (.aload_n 0, 1) := by decide +kernel
theorem dX9_count_80 : decode cX9_count 80 = .ok (.invokevirtual 254, 3) := by decide +kernel
theorem dX9_count_83 : decode cX9_count 83 = .ok (.ireturn, 1) := by decide +kernel
theorem dX9_count_84 : decode cX9_count 84 = .ok (.aload_n 0, 1) := by decide +kernel
theorem dX9_count_85 : decode cX9_count 85 = .ok (.getfield 77, 3) := by decide +kernel
theorem dX9_count_88 : decode cX9_count 88 = .ok (.ireturn, 1) := by decide +kernel
theorem dX9_count_89 : decode cX9_count 89 = .ok (.aload_n 0, 1) := by decide +kernel
theorem dX9_count_90 : decode cX9_count 90 = .ok (.invokevirtual 257, 3) := by decide +kernel
theorem dX9_count_93 : decode cX9_count 93 = .ok (.ireturn, 1) := by decide +kernel
theorem dX9_count_94 : decode cX9_count 94 = .ok (.aload_n 0, 1) := by decide +kernel
theorem dX9_count_95 : decode cX9_count 95 = .ok (.invokevirtual 260, 3) := by decide +kernel
theorem dX9_count_98 : decode cX9_count 98 = .ok (.ireturn, 1) := by decide +kernel
theorem dX9_count_99 : decode cX9_count 99 = .ok (.aload_n 0, 1) := by decide +kernel
theorem dX9_count_100 : decode cX9_count 100 = .ok (.invokevirtual 263, 3) := by decide +kernel
theorem dX9_count_103 : decode cX9_count 103 = .ok (.ireturn, 1) := by decide +kernel
theorem dX9_count_104 : decode cX9_count 104 = .ok (.aload_n 0, 1) := by decide +kernel
theorem dX9_count_105 : decode cX9_count 105 = .ok (.getfield 87, 3) := by decide +kernel
theorem dX9_count_108 : decode cX9_count 108 = .ok (.ireturn, 1) := by decide +kernel
theorem dX9_count_109 : decode cX9_count 109 = .ok (.aload_n 0, 1) := by decide +kernel
theorem dX9_count_110 : decode cX9_count 110 = .ok (.getfield 90, 3) := by decide +kernel
theorem dX9_count_113 : decode cX9_count 113 = .ok (.ireturn, 1) := by decide +kernel
theorem dX9_count_114 : decode cX9_count 114 = .ok (.aload_n 0, 1) := by decide +kernel
theorem dX9_count_115 : decode cX9_count 115 = .ok (.getfield 266, 3) := by decide +kernel
theorem dX9_count_118 : decode cX9_count 118 = .ok (.ireturn, 1) := by decide +kernel
theorem dX9_count_119 : decode cX9_count 119 = .ok (.aload_n 0, 1) := by decide +kernel
theorem dX9_count_120 : decode cX9_count 120 = .ok (.getfield 226, 3) := by decide +kernel
theorem dX9_count_123 : decode cX9_count 123 = .ok (.ireturn, 1) := by decide +kernel
theorem dX9_count_124 : decode cX9_count 124 = .ok (.iconst (-1), 1) := by decide +kernel
theorem dX9_count_125 : decode cX9_count 125 = .ok (.ireturn, 1) := by decide +kernel
set_option maxRecDepth 20000 in
theorem ggX9_comes_X9_tags : GoodIn wsX9_comes wsX9_tags := goodIn_r _ [6, 7, 1, 8, 9, 10, 11, 5, 12, 13, 14, 15, 16, 17, 18, 19, 20, 21, 22, 23, 24, 25, 26, 27, 28, 29, 30, 31, 32, 33, 34, 35, 36, 37, 38, 39, 40, 41, 42, 43, 44, 45, 46, 47, 48, 49, 50, 51, 52, 53, 54, 55, 56, 57, 58, 59, 60, 61, 62, 63, 64, 65, 66, 67, 68, 69, 70, 71, 72, 73, 74, 75, 76, 77, 78, 79, 80, 81, 82, 83, 84, 85, 86, 87, 88, 89, 90, 91, 92, 93, 94, 95, 96, 97, 98, 99, 100, 101, 102, 103, 104, 105, 106, 107, 108, 109, 110, 111, 112, 113, 114, 115, 116, 117, 118, 119, 120] (by decide +kernel) (by decide +kernel)
set_option maxRecDepth 20000 in
theorem gX9_comes_X9_tags : GoodIn wsX9_comes (wsV RX9 181 RX9 yX9_tags wsX9_tags) := goodIn_app (goodIn_of _ (by decide +kernel)) ggX9_comes_X9_tags
set_option maxRecDepth 20000 in
theorem ggX9_comes_X9_has : GoodIn wsX9_comes wsX9_has := goodIn_r _ [12] (by decide +kernel) (by decide +kernel)
set_option maxRecDepth 20000 in
theorem gX9_comes_X9_has : GoodIn wsX9_comes (va_wsS RX9 122 yX9_has wsX9_has) := goodIn_app (goodIn_of _ (by decide +kernel)) ggX9_comes_X9_has
theorem dX9_comes_0 : decode cX9_comes 0 = .ok (.aload_n 0, 1) := by decide +kernel
theorem dX9_comes_1 : decode cX9_comes 1 = .ok (.invokevirtual 181, 3) := by decide +kernel
theorem dX9_comes_4 : decode cX9_comes 4 = .ok (.aload_n 0, 1) := by decide +kernel
theorem dX9_comes_5 : decode cX9_comes 5 = .ok (.getfield 61, 3) := by decide +kernel
theorem dX9_comes_8 : decode cX9_comes 8 = .ok (.iload_n 2, 1) := by decide +kernel
theorem dX9_comes_9 : decode cX9_comes 9 = .ok (.iaload, 1) := by decide +kernel
theorem dX9_comes_10 : decode cX9_comes 10 = .ok (.iload_n 1, 1) := by decide +kernel
theorem dX9_comes_11 : decode cX9_comes 11 = .ok (.invokestatic 122, 3) := by decide +kernel
theorem dX9_comes_14 : decode cX9_comes 14 = .ok (.ireturn, 1) := by decide +kernel
theorem dX9_with_0 : decode cX9_with 0 = .ok (.iload_n 2, 1) := by decide +kernel
theorem dX9_with_1 : decode cX9_with 1 = .ok (.iconst 1, 1) := by decide +kernel
theorem dX9_with_2 : decode cX9_with 2 = .ok (.if_icmp .ne 11, 3) := by decide +kernel
theorem dX9_with_5 : decode cX9_with 5 = .ok (.iload_n 0, 1) := by decide +kernel
theorem dX9_with_6 : decode cX9_with 6 = .ok (.iconst 1, 1) := by decide +kernel
theorem dX9_with_7 : decode cX9_with 7 = .ok (.iload_n 1, 1) := by decide +kernel
theorem dX9_with_8 : decode cX9_with 8 = .ok (.ishl, 1) := by decide +kernel
theorem dX9_with_9 : decode cX9_with 9 = .ok (.ior, 1) := by decide +kernel
theorem dX9_with_10 : decode cX9_with 10 = .ok (.goto 10, 3) := by decide +kernel
theorem dX9_with_13 : decode cX9_with 13 = .ok (.iload_n 0, 1) := by decide +kernel
theorem dX9_with_14 : decode cX9_with 14 = .ok (.iconst 1, 1) := by decide +kernel
theorem dX9_with_15 : decode cX9_with 15 = .ok (.iload_n 1, 1) := by decide +kernel
theorem dX9_with_16 : decode cX9_with 16 = .ok (.ishl, 1) := by decide +kernel
theorem dX9_with_17 : decode cX9_with 17 = .ok (.iconst (-1), 1) := by decide +kernel
theorem dX9_with_18 : decode cX9_with 18 = .ok (.ixor, 1) := by decide +kernel
theorem dX9_with_19 : decode cX9_with 19 = .ok (.iand, 1) := by decide +kernel
theorem dX9_with_20 : decode cX9_with 20 = .ok (.ireturn, 1) := by decide +kernel
set_option maxRecDepth 20000 in
theorem ggX9_would_X9_isLiteral : GoodIn wsX9_would wsX9_isLiteral := goodIn_r _ [6, 7, 8, 5, 9] (by decide +kernel) (by decide +kernel)
set_option maxRecDepth 20000 in
theorem gX9_would_X9_isLiteral : GoodIn wsX9_would (va_wsS RX9 104 yX9_isLiteral wsX9_isLiteral) := goodIn_app (goodIn_of _ (by decide +kernel)) ggX9_would_X9_isLiteral
set_option maxRecDepth 20000 in
theorem ggX9_would_X9_isBit : GoodIn wsX9_would wsX9_isBit := goodIn_r _ [12, 7, 8, 5, 9] (by decide +kernel) (by decide +kernel)
set_option maxRecDepth 20000 in
theorem gX9_would_X9_isBit : GoodIn wsX9_would (va_wsS RX9 108 yX9_isBit wsX9_isBit) := goodIn_app (goodIn_of _ (by decide +kernel)) ggX9_would_X9_isBit
set_option maxRecDepth 20000 in
theorem ggX9_would_X9_with : GoodIn wsX9_would wsX9_with := goodIn_r _ [15] (by decide +kernel) (by decide +kernel)
set_option maxRecDepth 20000 in
theorem gX9_would_X9_with : GoodIn wsX9_would (va_wsS RX9 269 yX9_with wsX9_with) := goodIn_app (goodIn_of _ (by decide +kernel)) ggX9_would_X9_with
set_option maxRecDepth 20000 in
theorem ggX9_would_X9_tags : GoodIn wsX9_would wsX9_tags := goodIn_r _ [19, 20, 2, 21, 22, 23, 24, 5, 25, 26, 27, 28, 29, 30, 31, 32, 33, 1, 34, 35, 36, 37, 38, 39, 40, 41, 42, 43, 44, 45, 46, 47, 48, 49, 50, 51, 52, 53, 54, 55, 56, 57, 58, 59, 60, 61, 62, 63, 64, 65, 66, 67, 68, 69, 70, 71, 72, 73, 74, 75, 76, 77, 78, 79, 80, 81, 82, 83, 84, 85, 86, 87, 88, 89, 90, 91, 92, 93, 94, 95, 96, 97, 98, 99, 100, 101, 102, 103, 104, 105, 106, 107, 108, 109, 110, 111, 112, 113, 114, 115, 116, 117, 118, 119, 120, 121, 122, 123, 124, 125, 126, 127, 128, 129, 130, 131, 132] (by decide +kernel) (by decide +kernel)
set_option maxRecDepth 20000 in
theorem gX9_would_X9_tags : GoodIn wsX9_would (wsV RX9 181 RX9 yX9_tags wsX9_tags) := goodIn_app (goodIn_of _ (by decide +kernel)) ggX9_would_X9_tags
set_option maxRecDepth 20000 in
theorem ggX9_would_X9_has : GoodIn wsX9_would wsX9_has := goodIn_r _ [25] (by decide +kernel) (by decide +kernel)
set_option maxRecDepth 20000 in
theorem gX9_would_X9_has : GoodIn wsX9_would (va_wsS RX9 122 yX9_has wsX9_has) := goodIn_app (goodIn_of _ (by decide +kernel)) ggX9_would_X9_has
theorem dX9_would_0 : decode cX9_would 0 = .ok (.iload_n 1, 1) := by decide +kernel
theorem dX9_would_1 : decode cX9_would 1 = .ok (.invokestatic 104, 3) := by decide +kernel
theorem dX9_would_4 : decode cX9_would 4 = .ok (.ifCond .eq 17, 3) := by decide +kernel
theorem dX9_would_7 : decode cX9_would 7 = .ok (.iload_n 2, 1) := by decide +kernel
theorem dX9_would_8 : decode cX9_would 8 = .ok (.invokestatic 104, 3) := by decide +kernel
theorem dX9_would_11 : decode cX9_would 11 = .ok (.ifCond .eq 10, 3) := by decide +kernel
theorem dX9_would_14 : decode cX9_would 14 = .ok (.iload_n 3, 1) := by decide +kernel
theorem dX9_would_15 : decode cX9_would 15 = .ok (.invokestatic 108, 3) := by decide +kernel
theorem dX9_would_18 : decode cX9_would 18 = .ok (.ifCond .ne 5, 3) := by decide +kernel
theorem dX9_would_21 : decode cX9_would 21 = .ok (.iconst (-1), 1) := by decide +kernel
theorem dX9_would_22 : decode cX9_would 22 = .ok (.ireturn, 1) := by decide +kernel
theorem dX9_would_23 : decode cX9_would 23 = .ok (.aload_n 0, 1) := by decide +kernel
theorem dX9_would_24 : decode cX9_would 24 = .ok (.getfield 93, 3) := by decide +kernel
theorem dX9_would_27 : decode cX9_would 27 = .ok (.istore 4, 2) := by decide +kernel
theorem dX9_would_29 : decode cX9_would 29 = .ok (.aload_n 0, 1) := by decide +kernel
theorem dX9_would_30 : decode cX9_would 30 = .ok (.aload_n 0, 1) := by decide +kernel
theorem dX9_would_31 : decode cX9_would 31 = .ok (.getfield 93, 3) := by decide +kernel
theorem dX9_would_34 : decode cX9_would 34 = .ok (.iload_n 2, 1) := by decide +kernel
theorem dX9_would_35 : decode cX9_would 35 = .ok (.iload_n 3, 1) := by decide +kernel
theorem dX9_would_36 : decode cX9_would 36 = .ok (.invokestatic 269, 3) := by decide +kernel
theorem dX9_would_39 : decode cX9_would 39 = .ok (.putfield 93, 3) := by decide +kernel
theorem dX9_would_42 : decode cX9_would 42 = .ok (.aload_n 0, 1) := by decide +kernel
theorem dX9_would_43 : decode cX9_would 43 = .ok (.invokevirtual 181, 3) := by decide +kernel
theorem dX9_would_46 : decode cX9_would 46 = .ok (.aload_n 0, 1) := by decide +kernel
theorem dX9_would_47 : decode cX9_would 47 = .ok (.iload 4, 2) := by decide +kernel
theorem dX9_would_49 : decode cX9_would 49 = .ok (.putfield 93, 3) := by decide +kernel
theorem dX9_would_52 : decode cX9_would 52 = .ok (.iconst 0, 1) := by decide +kernel
theorem dX9_would_53 : decode cX9_would 53 = .ok (.istore 5, 2) := by decide +kernel
theorem dX9_would_55 : decode cX9_would 55 = .ok (.iconst 0, 1) := by decide +kernel
theorem dX9_would_56 : decode cX9_would 56 = .ok (.istore 6, 2) := by decide +kernel
theorem dX9_would_58 : decode cX9_would 58 = .ok (.iload 6, 2) := by decide +kernel
theorem dX9_would_60 : decode cX9_would 60 = .ok (.iconst 4, 1) := by decide +kernel
theorem dX9_would_61 : decode cX9_would 61 = .ok (.if_icmp .ge 36, 3) := by decide +kernel
theorem dX9_would_64 : decode cX9_would 64 = .ok (.iload 5, 2) := by decide +kernel
theorem dX9_would_66 : decode cX9_would 66 = .ok (.aload_n 0, 1) := by decide +kernel
theorem dX9_would_67 : decode cX9_would 67 = .ok (.getfield 61, 3) := by decide +kernel
theorem dX9_would_70 : decode cX9_would 70 = .ok (.iload 6, 2) := by decide +kernel
theorem dX9_would_72 : decode cX9_would 72 = .ok (.iaload, 1) := by decide +kernel
theorem dX9_would_73 : decode cX9_would 73 = .ok (.iload_n 1, 1) := by decide +kernel
theorem dX9_would_74 : decode cX9_would 74 = .ok (.invokestatic 122, 3) := by decide +kernel
theorem dX9_would_77 : decode cX9_would 77 = .ok (.ifCond .eq 10, 3) := by decide +kernel
theorem dX9_would_80 : decode cX9_would 80 = .ok (.iconst 1, 1) := by decide +kernel
theorem dX9_would_81 : decode cX9_would 81 = .ok (.iload 6, 2) := by decide +kernel
theorem dX9_would_83 : decode cX9_would 83 = .ok (.ishl, 1) := by decide +kernel
theorem dX9_would_84 : decode cX9_would 84 = .ok (.goto 4, 3) := by decide +kernel
theorem dX9_would_87 : decode cX9_would 87 = .ok (.iconst 0, 1) := by decide +kernel
theorem dX9_would_88 : decode cX9_would 88 = .ok (.ior, 1) := by decide +kernel
theorem dX9_would_89 : decode cX9_would 89 = .ok (.istore 5, 2) := by decide +kernel
theorem dX9_would_91 : decode cX9_would 91 = .ok (.iinc 6 1, 3) := by decide +kernel
theorem dX9_would_94 : decode cX9_would 94 = .ok (.goto (-36), 3) := by decide +kernel
theorem dX9_would_97 : decode cX9_would 97 = .ok (.iload 5, 2) := by decide +kernel
theorem dX9_would_99 : decode cX9_would 99 = .ok (.ireturn, 1) := by decide +kernel
set_option maxRecDepth 20000 in
theorem ggX9_key_X9_isLiteral : GoodIn wsX9_key wsX9_isLiteral := goodIn_r _ [5, 6, 7, 4, 8] (by decide +kernel) (by decide +kernel)
set_option maxRecDepth 20000 in
theorem gX9_key_X9_isLiteral : GoodIn wsX9_key (va_wsS RX9 104 yX9_isLiteral wsX9_isLiteral) := goodIn_app (goodIn_of _ (by decide +kernel)) ggX9_key_X9_isLiteral
set_option maxRecDepth 20000 in
theorem ggX9_key_X9_comes : GoodIn wsX9_key wsX9_comes := goodIn_r _ [12, 13, 14, 15, 16, 4, 17, 18, 19, 20, 21, 22, 23, 24, 25, 26, 27, 28, 29, 30, 31, 1, 32, 33, 34, 35, 36, 37, 38, 39, 40, 41, 42, 43, 44, 45, 46, 47, 48, 49, 50, 51, 52, 53, 54, 55, 56, 57, 58, 59, 60, 61, 62, 63, 64, 65, 66, 67, 68, 69, 70, 71, 72, 73, 74, 75, 76, 77, 78, 79, 80, 81, 82, 83, 84, 85, 86, 87, 88, 89, 90, 94, 95, 96, 97, 98, 99, 100, 101, 102, 103, 104, 105, 106, 107, 108, 109, 110, 111, 112, 113, 114, 115, 116, 117, 118, 119, 120, 121, 122, 123, 124, 125, 126, 127, 128, 129, 130, 131, 132, 133] (by decide +kernel) (by decide +kernel)
set_option maxRecDepth 20000 in
theorem gX9_key_X9_comes : GoodIn wsX9_key (wsV RX9 273 RX9 yX9_comes wsX9_comes) := goodIn_app (goodIn_of _ (by decide +kernel)) ggX9_key_X9_comes
set_option maxRecDepth 20000 in
theorem ggX9_key_X9_has : GoodIn wsX9_key wsX9_has := goodIn_r _ [23] (by decide +kernel) (by decide +kernel)
set_option maxRecDepth 20000 in
theorem gX9_key_X9_has : GoodIn wsX9_key (va_wsS RX9 122 yX9_has wsX9_has) := goodIn_app (goodIn_of _ (by decide +kernel)) ggX9_key_X9_has
set_option maxRecDepth 20000 in
theorem ggX9_key_X9_with : GoodIn wsX9_key wsX9_with := goodIn_r _ [93] (by decide +kernel) (by decide +kernel)
set_option maxRecDepth 20000 in
theorem gX9_key_X9_with : GoodIn wsX9_key (va_wsS RX9 269 yX9_with wsX9_with) := goodIn_app (goodIn_of _ (by decide +kernel)) ggX9_key_X9_with
theorem dX9_key_0 : decode cX9_key 0 = .ok (.iload_n 1, 1) := by decide +kernel
theorem dX9_key_1 : decode cX9_key 1 = .ok (.invokestatic 104, 3) := by decide +kernel
theorem dX9_key_4 : decode cX9_key 4 = .ok (.ifCond .ne 5, 3) := by decide +kernel
theorem dX9_key_7 : decode cX9_key 7 = .ok (.iconst (-1), 1) := by decide +kernel
theorem dX9_key_8 : decode cX9_key 8 = .ok (.ireturn, 1) := by decide +kernel
theorem dX9_key_9 : decode cX9_key 9 = .ok (.aload_n 0, 1) := by decide +kernel
theorem dX9_key_10 : decode cX9_key 10 = .ok (.iload_n 1, 1) := by decide +kernel
theorem dX9_key_11 : decode cX9_key 11 = .ok (.iconst 2, 1) := by decide +kernel
theorem dX9_key_12 : decode cX9_key 12 = .ok (.invokevirtual 273, 3) := by decide +kernel
theorem dX9_key_15 : decode cX9_key 15 = .ok (.ifCond .eq 6, 3) := by decide +kernel
theorem dX9_key_18 : decode cX9_key 18 = .ok (.bipush (-5), 2) := by decide +kernel
theorem dX9_key_20 : decode cX9_key 20 = .ok (.ireturn, 1) := by decide +kernel
theorem dX9_key_21 : decode cX9_key 21 = .ok (.aload_n 0, 1) := by decide +kernel
theorem dX9_key_22 : decode cX9_key 22 = .ok (.getfield 93, 3) := by decide +kernel
theorem dX9_key_25 : decode cX9_key 25 = .ok (.istore_n 2, 1) := by decide +kernel
theorem dX9_key_26 : decode cX9_key 26 = .ok (.bipush (-2), 2) := by decide +kernel
theorem dX9_key_28 : decode cX9_key 28 = .ok (.istore_n 3, 1) := by decide +kernel
theorem dX9_key_29 : decode cX9_key 29 = .ok (.iconst 0, 1) := by decide +kernel
theorem dX9_key_30 : decode cX9_key 30 = .ok (.istore 4, 2) := by decide +kernel
theorem dX9_key_32 : decode cX9_key 32 = .ok (.iload 4, 2) := by decide +kernel
theorem dX9_key_34 : decode cX9_key 34 = .ok (.bipush 20, 2) := by decide +kernel
theorem dX9_key_36 : decode cX9_key 36 = .ok (.if_icmp .ge 61, 3) := by decide +kernel
theorem dX9_key_39 : decode cX9_key 39 = .ok (.iload_n 3, 1) := by decide +kernel
theorem dX9_key_40 : decode cX9_key 40 = .ok (.bipush (-2), 2) := by decide +kernel
theorem dX9_key_42 : decode cX9_key 42 = .ok (.if_icmp .ne 55, 3) := by decide +kernel
theorem dX9_key_45 : decode cX9_key 45 = .ok (.iload 4, 2) := by decide +kernel
theorem dX9_key_47 : decode cX9_key 47 = .ok (.iload_n 1, 1) := by decide +kernel
theorem dX9_key_48 : decode cX9_key 48 = .ok (.if_icmp .eq 43, 3) := by decide +kernel
theorem dX9_key_51 : decode cX9_key 51 = .ok (.iload_n 2, 1) := by decide +kernel
theorem dX9_key_52 : decode cX9_key 52 = .ok (.iload 4, 2) := by decide +kernel
theorem dX9_key_54 : decode cX9_key 54 = .ok (.invokestatic 122, 3) := by decide +kernel
theorem dX9_key_57 : decode cX9_key 57 = .ok (.ifCond .eq 6, 3) := by decide +kernel
theorem dX9_key_60 : decode cX9_key 60 = .ok (.goto 31, 3) := by decide +kernel
theorem dX9_key_63 : decode cX9_key 63 = .ok (.aload_n 0, 1) := by decide +kernel
theorem dX9_key_64 : decode cX9_key 64 = .ok (.iload_n 2, 1) := by decide +kernel
theorem dX9_key_65 : decode cX9_key 65 = .ok (.iload 4, 2) := by decide +kernel
theorem dX9_key_67 : decode cX9_key 67 = .ok (.iconst 1, 1) := by decide +kernel
theorem dX9_key_68 : decode cX9_key 68 = .ok (.invokestatic 269, 3) := by decide +kernel
theorem dX9_key_71 : decode cX9_key 71 = .ok (.putfield 93, 3) := by decide +kernel
theorem dX9_key_74 : decode cX9_key 74 = .ok (.aload_n 0, 1) := by decide +kernel
theorem dX9_key_75 : decode cX9_key 75 = .ok (.iload_n 1, 1) := by decide +kernel
theorem dX9_key_76 : decode cX9_key 76 = .ok (.iconst 2, 1) := by decide +kernel
theorem dX9_key_77 : decode cX9_key 77 = .ok (.invokevirtual 273, 3) := by decide +kernel
theorem dX9_key_80 : decode cX9_key 80 = .ok (.ifCond .eq 8, 3) := by decide +kernel
theorem dX9_key_83 : decode cX9_key 83 = .ok (.iload 4, 2) := by decide +kernel
theorem dX9_key_85 : decode cX9_key 85 = .ok (.goto 5, 3) := by decide +kernel
theorem dX9_key_88 : decode cX9_key 88 = .ok (.bipush (-2), 2) := by decide +kernel
theorem dX9_key_90 : decode cX9_key 90 = .ok (.istore_n 3, 1) := by decide +kernel
theorem dX9_key_91 : decode cX9_key 91 = .ok (.iinc 4 1, 3) := by decide +kernel
theorem dX9_key_94 : decode cX9_key 94 = .ok (.goto (-62), 3) := by decide +kernel
theorem dX9_key_97 : decode cX9_key 97 = .ok (.aload_n 0, 1) := by decide +kernel
theorem dX9_key_98 : decode cX9_key 98 = .ok (.iload_n 2, 1) := by decide +kernel
theorem dX9_key_99 : decode cX9_key 99 = .ok (.putfield 93, 3) := by decide +kernel
theorem dX9_key_102 : decode cX9_key 102 = .ok (.iload_n 3, 1) := by decide +kernel
theorem dX9_key_103 : decode cX9_key 103 = .ok (.ireturn, 1) := by decide +kernel
set_option maxRecDepth 20000 in
theorem ggX9_hinges_X9_isLiteral : GoodIn wsX9_hinges wsX9_isLiteral := goodIn_r _ [6, 7, 8, 5, 9] (by decide +kernel) (by decide +kernel)
set_option maxRecDepth 20000 in
theorem gX9_hinges_X9_isLiteral : GoodIn wsX9_hinges (va_wsS RX9 104 yX9_isLiteral wsX9_isLiteral) := goodIn_app (goodIn_of _ (by decide +kernel)) ggX9_hinges_X9_isLiteral
set_option maxRecDepth 20000 in
theorem ggX9_hinges_X9_isTag : GoodIn wsX9_hinges wsX9_isTag := goodIn_r _ [12, 7, 8, 5, 9] (by decide +kernel) (by decide +kernel)
set_option maxRecDepth 20000 in
theorem gX9_hinges_X9_isTag : GoodIn wsX9_hinges (va_wsS RX9 178 yX9_isTag wsX9_isTag) := goodIn_app (goodIn_of _ (by decide +kernel)) ggX9_hinges_X9_isTag
set_option maxRecDepth 20000 in
theorem ggX9_hinges_X9_comes : GoodIn wsX9_hinges wsX9_comes := goodIn_r _ [16, 17, 18, 19, 20, 5, 21, 22, 23, 24, 25, 26, 27, 28, 29, 30, 31, 32, 33, 34, 35, 36, 1, 37, 38, 39, 40, 41, 42, 2, 43, 44, 45, 46, 47, 48, 49, 50, 51, 52, 53, 54, 55, 56, 57, 58, 59, 60, 61, 62, 63, 64, 65, 66, 67, 68, 69, 70, 71, 72, 73, 74, 75, 76, 77, 78, 79, 80, 81, 82, 83, 84, 85, 86, 87, 88, 89, 90, 91, 92, 93, 94, 95, 96, 97, 98, 99, 100, 101, 102, 103, 104, 105, 106, 107, 108, 109, 110, 111, 112, 113, 114, 115, 116, 117, 118, 119, 120, 121, 122, 123, 124, 125, 126, 127, 128, 129, 130, 131, 132, 133] (by decide +kernel) (by decide +kernel)
set_option maxRecDepth 20000 in
theorem gX9_hinges_X9_comes : GoodIn wsX9_hinges (wsV RX9 273 RX9 yX9_comes wsX9_comes) := goodIn_app (goodIn_of _ (by decide +kernel)) ggX9_hinges_X9_comes
theorem dX9_hinges_0 : decode cX9_hinges 0 = .ok (.iload_n 1, 1) := by decide +kernel
theorem dX9_hinges_1 : decode cX9_hinges 1 = .ok (.invokestatic 104, 3) := by decide +kernel
theorem dX9_hinges_4 : decode cX9_hinges 4 = .ok (.ifCond .eq 10, 3) := by decide +kernel
theorem dX9_hinges_7 : decode cX9_hinges 7 = .ok (.iload_n 2, 1) := by decide +kernel
theorem dX9_hinges_8 : decode cX9_hinges 8 = .ok (.invokestatic 178, 3) := by decide +kernel
theorem dX9_hinges_11 : decode cX9_hinges 11 = .ok (.ifCond .ne 5, 3) := by decide +kernel
theorem dX9_hinges_14 : decode cX9_hinges 14 = .ok (.iconst (-1), 1) := by decide +kernel
theorem dX9_hinges_15 : decode cX9_hinges 15 = .ok (.ireturn, 1) := by decide +kernel
theorem dX9_hinges_16 : decode cX9_hinges 16 = .ok (.aload_n 0, 1) := by decide +kernel
theorem dX9_hinges_17 : decode cX9_hinges 17 = .ok (.iload_n 1, 1) := by decide +kernel
theorem dX9_hinges_18 : decode cX9_hinges 18 = .ok (.iload_n 2, 1) := by decide +kernel
theorem dX9_hinges_19 : decode cX9_hinges 19 = .ok (.invokevirtual 273, 3) := by decide +kernel
theorem dX9_hinges_22 : decode cX9_hinges 22 = .ok (.istore_n 3, 1) := by decide +kernel
theorem dX9_hinges_23 : decode cX9_hinges 23 = .ok (.iconst 0, 1) := by decide +kernel
theorem dX9_hinges_24 : decode cX9_hinges 24 = .ok (.istore 4, 2) := by decide +kernel
theorem dX9_hinges_26 : decode cX9_hinges 26 = .ok (.iconst 0, 1) := by decide +kernel
theorem dX9_hinges_27 : decode cX9_hinges 27 = .ok (.istore 5, 2) := by decide +kernel
theorem dX9_hinges_29 : decode cX9_hinges 29 = .ok (.iload 5, 2) := by decide +kernel
theorem dX9_hinges_31 : decode cX9_hinges 31 = .ok (.aload_n 0, 1) := by decide +kernel
theorem dX9_hinges_32 : decode cX9_hinges 32 = .ok (.getfield 77, 3) := by decide +kernel
theorem dX9_hinges_35 : decode cX9_hinges 35 = .ok (.if_icmp .ge 58, 3) := by decide +kernel
theorem dX9_hinges_38 : decode cX9_hinges 38 = .ok (.aload_n 0, 1) := by decide +kernel
theorem dX9_hinges_39 : decode cX9_hinges 39 = .ok (.getfield 25, 3) := by decide +kernel
theorem dX9_hinges_42 : decode cX9_hinges 42 = .ok (.iload 5, 2) := by decide +kernel
theorem dX9_hinges_44 : decode cX9_hinges 44 = .ok (.iaload, 1) := by decide +kernel
theorem dX9_hinges_45 : decode cX9_hinges 45 = .ok (.ifCond .ne 42, 3) := by decide +kernel
theorem dX9_hinges_48 : decode cX9_hinges 48 = .ok (.aload_n 0, 1) := by decide +kernel
theorem dX9_hinges_49 : decode cX9_hinges 49 = .ok (.getfield 25, 3) := by decide +kernel
theorem dX9_hinges_52 : decode cX9_hinges 52 = .ok (.iload 5, 2) := by decide +kernel
theorem dX9_hinges_54 : decode cX9_hinges 54 = .ok (.iconst 1, 1) := by decide +kernel
theorem dX9_hinges_55 : decode cX9_hinges 55 = .ok (.iastore, 1) := by decide +kernel
theorem dX9_hinges_56 : decode cX9_hinges 56 = .ok (.iload 4, 2) := by decide +kernel
theorem dX9_hinges_58 : decode cX9_hinges 58 = .ok (.aload_n 0, 1) := by decide +kernel
theorem dX9_hinges_59 : decode cX9_hinges 59 = .ok (.iload_n 1, 1) := by decide +kernel
theorem dX9_hinges_60 : decode cX9_hinges 60 = .ok (.iload_n 2, 1) := by decide +kernel
theorem dX9_hinges_61 : decode cX9_hinges 61 = .ok (.invokevirtual 273, 3) := by decide +kernel
theorem dX9_hinges_64 : decode cX9_hinges 64 = .ok (.iload_n 3, 1) := by decide +kernel
theorem dX9_hinges_65 : decode cX9_hinges 65 = .ok (.if_icmp .eq 10, 3) := by decide +kernel
theorem dX9_hinges_68 : decode cX9_hinges 68 = .ok (.iconst 1, 1) := by decide +kernel
theorem dX9_hinges_69 : decode cX9_hinges 69 = .ok (.iload 5, 2) := by decide +kernel
theorem dX9_hinges_71 : decode cX9_hinges 71 = .ok (.ishl, 1) := by decide +kernel
theorem dX9_hinges_72 : decode cX9_hinges 72 = .ok (.goto 4, 3) := by decide +kernel
theorem dX9_hinges_75 : decode cX9_hinges 75 = .ok (.iconst 0, 1) := by decide +kernel
theorem dX9_hinges_76 : decode cX9_hinges 76 = .ok (.ior, 1) := by decide +kernel
theorem dX9_hinges_77 : decode cX9_hinges 77 = .ok (.istore 4, 2) := by decide +kernel
theorem dX9_hinges_79 : decode cX9_hinges 79 = .ok (.aload_n 0, 1) := by decide +kernel
theorem dX9_hinges_80 : decode cX9_hinges 80 = .ok (.getfield 25, 3) := by decide +kernel
theorem dX9_hinges_83 : decode cX9_hinges 83 = .ok (.iload 5, 2) := by decide +kernel
theorem dX9_hinges_85 : decode cX9_hinges 85 = .ok (.iconst 0, 1) := by decide +kernel
theorem dX9_hinges_86 : decode cX9_hinges 86 = .ok (.iastore, 1) := by decide +kernel
theorem dX9_hinges_87 : decode cX9_hinges 87 = .ok (.iinc 5 1, 3) := by decide +kernel
theorem dX9_hinges_90 : decode cX9_hinges 90 = .ok (.goto (-61), 3) := by decide +kernel
theorem dX9_hinges_93 : decode cX9_hinges 93 = .ok (.iload 4, 2) := by decide +kernel
theorem dX9_hinges_95 : decode cX9_hinges 95 = .ok (.ireturn, 1) := by decide +kernel
set_option maxRecDepth 20000 in
theorem ggX9_least_X9_isRule : GoodIn wsX9_least wsX9_isRule := goodIn_r _ [6, 7, 8, 9, 5, 10, 95, 96, 97, 98, 99, 100, 101, 102, 103, 104, 105, 106, 107, 108, 109, 110, 111, 112, 113, 114, 115, 116, 117, 118, 119, 120, 121, 122, 123, 124, 125, 126, 127, 128, 129, 130, 131, 132, 133, 134] (by decide +kernel) (by decide +kernel)
set_option maxRecDepth 20000 in
theorem gX9_least_X9_isRule : GoodIn wsX9_least (wsV RX9 119 RX9 yX9_isRule wsX9_isRule) := goodIn_app (goodIn_of _ (by decide +kernel)) ggX9_least_X9_isRule
set_option maxRecDepth 20000 in
theorem ggX9_least_X9_isLiteral : GoodIn wsX9_least wsX9_isLiteral := goodIn_r _ [13, 8, 9, 5, 10] (by decide +kernel) (by decide +kernel)
set_option maxRecDepth 20000 in
theorem gX9_least_X9_isLiteral : GoodIn wsX9_least (va_wsS RX9 104 yX9_isLiteral wsX9_isLiteral) := goodIn_app (goodIn_of _ (by decide +kernel)) ggX9_least_X9_isLiteral
set_option maxRecDepth 20000 in
theorem ggX9_least_X9_comes : GoodIn wsX9_least wsX9_comes := goodIn_r _ [17, 18, 19, 20, 21, 5, 22, 23, 24, 25, 26, 27, 28, 29, 30, 31, 32, 33, 34, 35, 36, 37, 7, 38, 39, 40, 41, 42, 43, 44, 45, 46, 47, 48, 49, 50, 51, 52, 53, 54, 55, 56, 57, 58, 59, 60, 61, 62, 63, 64, 65, 66, 67, 68, 69, 70, 71, 72, 73, 74, 1, 75, 76, 77, 78, 79, 80, 81, 82, 83, 84, 85, 86, 87, 88, 89, 90, 91, 92, 93, 94, 95, 96, 97, 98, 99, 100, 101, 102, 103, 104, 105, 106, 107, 108, 109, 110, 111, 112, 113, 114, 115, 116, 117, 118, 119, 120, 121, 122, 123, 124, 125, 126, 127, 128, 129, 130, 131, 132, 133, 134] (by decide +kernel) (by decide +kernel)
set_option maxRecDepth 20000 in
theorem gX9_least_X9_comes : GoodIn wsX9_least (wsV RX9 273 RX9 yX9_comes wsX9_comes) := goodIn_app (goodIn_of _ (by decide +kernel)) ggX9_least_X9_comes
theorem dX9_least_0 : decode cX9_least 0 = .ok (.aload_n 0, 1) := by decide +kernel
theorem dX9_least_1 : decode cX9_least 1 = .ok (.iload_n 1, 1) := by decide +kernel
theorem dX9_least_2 : decode cX9_least 2 = .ok (.invokevirtual 119, 3) := by decide +kernel
theorem dX9_least_5 : decode cX9_least 5 = .ok (.ifCond .eq 10, 3) := by decide +kernel
theorem dX9_least_8 : decode cX9_least 8 = .ok (.iload_n 2, 1) := by decide +kernel
theorem dX9_least_9 : decode cX9_least 9 = .ok (.invokestatic 104, 3) := by decide +kernel
theorem dX9_least_12 : decode cX9_least 12 = .ok (.ifCond .ne 5, 3) := by decide +kernel
theorem dX9_least_15 : decode cX9_least 15 = .ok (.iconst (-1), 1) := by decide +kernel
theorem dX9_least_16 : decode cX9_least 16 = .ok (.ireturn, 1) := by decide +kernel
theorem dX9_least_17 : decode cX9_least 17 = .ok (.aload_n 0, 1) := by decide +kernel
theorem dX9_least_18 : decode cX9_least 18 = .ok (.getfield 22, 3) := by decide +kernel
theorem dX9_least_21 : decode cX9_least 21 = .ok (.iload_n 1, 1) := by decide +kernel
theorem dX9_least_22 : decode cX9_least 22 = .ok (.iaload, 1) := by decide +kernel
theorem dX9_least_23 : decode cX9_least 23 = .ok (.istore_n 3, 1) := by decide +kernel
theorem dX9_least_24 : decode cX9_least 24 = .ok (.bipush (-2), 2) := by decide +kernel
theorem dX9_least_26 : decode cX9_least 26 = .ok (.istore 4, 2) := by decide +kernel
theorem dX9_least_28 : decode cX9_least 28 = .ok (.iconst 0, 1) := by decide +kernel
