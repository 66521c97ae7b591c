theorem dX3_wantForLikely_26 : decode cX3_wantForLikely 26 = .ok (.ior, 1) := by decide +kernel
theorem dX3_wantForLikely_27 : decode cX3_wantForLikely 27 = .ok (.iastore, 1) := by decide +kernel
theorem dX3_wantForLikely_28 : decode cX3_wantForLikely 28 = .ok (.return_, 1) := by decide +kernel
theorem dX3_wantForLikely_29 : decode cX3_wantForLikely 29 = .ok (.iload_n 1, 1) := by decide +kernel
theorem dX3_wantForLikely_30 : decode cX3_wantForLikely 30 = .ok (.invokestatic 107, 3) := by decide +kernel
theorem dX3_wantForLikely_33 : decode cX3_wantForLikely 33 = .ok (.istore_n 3, 1) := by decide +kernel
theorem dX3_wantForLikely_34 : decode cX3_wantForLikely 34 = .ok (.aload_n 0, 1) := by decide +kernel
theorem dX3_wantForLikely_35 : decode cX3_wantForLikely 35 = .ok (.aload_n 0, 1) := by decide +kernel
theorem dX3_wantForLikely_36 : decode cX3_wantForLikely 36 = .ok (.getfield 12, 3) := by decide +kernel
theorem dX3_wantForLikely_39 : decode cX3_wantForLikely 39 = .ok (.iload_n 1, 1) := by decide +kernel
theorem dX3_wantForLikely_40 : decode cX3_wantForLikely 40 = .ok (.invokevirtual 110, 3) := by decide +kernel
theorem dX3_wantForLikely_43 : decode cX3_wantForLikely 43 = .ok (.invokestatic 92, 3) := by decide +kernel
theorem dX3_wantForLikely_46 : decode cX3_wantForLikely 46 = .ok (.aload_n 2, 1) := by decide +kernel
theorem dX3_wantForLikely_47 : decode cX3_wantForLikely 47 = .ok (.invokevirtual 113, 3) := by decide +kernel
theorem dX3_wantForLikely_50 : decode cX3_wantForLikely 50 = .ok (.aload_n 0, 1) := by decide +kernel
theorem dX3_wantForLikely_51 : decode cX3_wantForLikely 51 = .ok (.getfield 18, 3) := by decide +kernel
theorem dX3_wantForLikely_54 : decode cX3_wantForLikely 54 = .ok (.iconst 1, 1) := by decide +kernel
theorem dX3_wantForLikely_55 : decode cX3_wantForLikely 55 = .ok (.dup2, 1) := by decide +kernel
theorem dX3_wantForLikely_56 : decode cX3_wantForLikely 56 = .ok (.iaload, 1) := by decide +kernel
theorem dX3_wantForLikely_57 : decode cX3_wantForLikely 57 = .ok (.iconst 1, 1) := by decide +kernel
theorem dX3_wantForLikely_58 : decode cX3_wantForLikely 58 = .ok (.iload_n 3, 1) := by decide +kernel
theorem dX3_wantForLikely_59 : decode cX3_wantForLikely 59 = .ok (.ishl, 1) := by decide +kernel
theorem dX3_wantForLikely_60 : decode cX3_wantForLikely 60 = .ok (.ior, 1) := by decide +kernel
theorem dX3_wantForLikely_61 : decode cX3_wantForLikely 61 = .ok (.iastore, 1) := by decide +kernel
theorem dX3_wantForLikely_62 : decode cX3_wantForLikely 62 = .ok (.iconst 0, 1) := by decide +kernel
theorem dX3_wantForLikely_63 : decode cX3_wantForLikely 63 = .ok (.istore 4, 2) := by decide +kernel
theorem dX3_wantForLikely_65 : decode cX3_wantForLikely 65 = .ok (.iload 4, 2) := by decide +kernel
theorem dX3_wantForLikely_67 : decode cX3_wantForLikely 67 = .ok (.bipush 16, 2) := by decide +kernel
theorem dX3_wantForLikely_69 : decode cX3_wantForLikely 69 = .ok (.if_icmp .ge 83, 3) := by decide +kernel
theorem dX3_wantForLikely_72 : decode cX3_wantForLikely 72 = .ok (.aload_n 0, 1) := by decide +kernel
theorem dX3_wantForLikely_73 : decode cX3_wantForLikely 73 = .ok (.getfield 12, 3) := by decide +kernel
theorem dX3_wantForLikely_76 : decode cX3_wantForLikely 76 = .ok (.getfield 116, 3) := by decide +kernel
theorem dX3_wantForLikely_79 : decode cX3_wantForLikely 79 = .ok (.iload_n 3, 1) := by decide +kernel
theorem dX3_wantForLikely_80 : decode cX3_wantForLikely 80 = .ok (.iaload, 1) := by decide +kernel
theorem dX3_wantForLikely_81 : decode cX3_wantForLikely 81 = .ok (.aload_n 0, 1) := by decide +kernel
theorem dX3_wantForLikely_82 : decode cX3_wantForLikely 82 = .ok (.getfield 12, 3) := by decide +kernel
theorem dX3_wantForLikely_85 : decode cX3_wantForLikely 85 = .ok (.getfield 119, 3) := by decide +kernel
theorem dX3_wantForLikely_88 : decode cX3_wantForLikely 88 = .ok (.iand, 1) := by decide +kernel
theorem dX3_wantForLikely_89 : decode cX3_wantForLikely 89 = .ok (.iload 4, 2) := by decide +kernel
theorem dX3_wantForLikely_91 : decode cX3_wantForLikely 91 = .ok (.invokestatic 82, 3) := by decide +kernel
theorem dX3_wantForLikely_94 : decode cX3_wantForLikely 94 = .ok (.ifCond .eq 13, 3) := by decide +kernel
theorem dX3_wantForLikely_97 : decode cX3_wantForLikely 97 = .ok (.aload_n 0, 1) := by decide +kernel
theorem dX3_wantForLikely_98 : decode cX3_wantForLikely 98 = .ok (.iload 4, 2) := by decide +kernel
theorem dX3_wantForLikely_100 : decode cX3_wantForLikely 100 = .ok (.aload_n 2, 1) := by decide +kernel
theorem dX3_wantForLikely_101 : decode cX3_wantForLikely 101 = .ok (.invokevirtual 122, 3) := by decide +kernel
theorem dX3_wantForLikely_104 : decode cX3_wantForLikely 104 = .ok (.goto 42, 3) := by decide +kernel
theorem dX3_wantForLikely_107 : decode cX3_wantForLikely 107 = .ok (.aload_n 0, 1) := by decide +kernel
theorem dX3_wantForLikely_108 : decode cX3_wantForLikely 108 = .ok (.getfield 12, 3) := by decide +kernel
theorem dX3_wantForLikely_111 : decode cX3_wantForLikely 111 = .ok (.getfield 116, 3) := by decide +kernel
theorem dX3_wantForLikely_114 : decode cX3_wantForLikely 114 = .ok (.iload_n 3, 1) := by decide +kernel
theorem dX3_wantForLikely_115 : decode cX3_wantForLikely 115 = .ok (.iaload, 1) := by decide +kernel
theorem dX3_wantForLikely_116 : decode cX3_wantForLikely 116 = .ok (.iload 4, 2) := by decide +kernel
theorem dX3_wantForLikely_118 : decode cX3_wantForLikely 118 = .ok (.invokestatic 82, 3) := by decide +kernel
theorem dX3_wantForLikely_121 : decode cX3_wantForLikely 121 = .ok (.ifCond .eq 25, 3) := by decide +kernel
theorem dX3_wantForLikely_124 : decode cX3_wantForLikely 124 = .ok (.aload_n 0, 1) := by decide +kernel
theorem dX3_wantForLikely_125 : decode cX3_wantForLikely 125 = .ok (.aload_n 0, 1) := by decide +kernel
theorem dX3_wantForLikely_126 : decode cX3_wantForLikely 126 = .ok (.aload_n 0, 1) := by decide +kernel
theorem dX3_wantForLikely_127 : decode cX3_wantForLikely 127 = .ok (.getfield 12, 3) := by decide +kernel
theorem dX3_wantForLikely_130 : decode cX3_wantForLikely 130 = .ok (.iload_n 1, 1) := by decide +kernel
theorem dX3_wantForLikely_131 : decode cX3_wantForLikely 131 = .ok (.invokevirtual 110, 3) := by decide +kernel
theorem dX3_wantForLikely_134 : decode cX3_wantForLikely 134 = .ok (.iload 4, 2) := by decide +kernel
theorem dX3_wantForLikely_136 : decode cX3_wantForLikely 136 = .ok (.invokevirtual 125, 3) := by decide +kernel
theorem dX3_wantForLikely_139 : decode cX3_wantForLikely 139 = .ok (.invokestatic 92, 3) := by decide +kernel
theorem dX3_wantForLikely_142 : decode cX3_wantForLikely 142 = .ok (.aload_n 2, 1) := by decide +kernel
theorem dX3_wantForLikely_143 : decode cX3_wantForLikely 143 = .ok (.invokevirtual 113, 3) := by decide +kernel
theorem dX3_wantForLikely_146 : decode cX3_wantForLikely 146 = .ok (.iinc 4 1, 3) := by decide +kernel
theorem dX3_wantForLikely_149 : decode cX3_wantForLikely 149 = .ok (.goto (-84), 3) := by decide +kernel
theorem dX3_wantForLikely_152 : decode cX3_wantForLikely 152 = .ok (.return_, 1) := by decide +kernel
set_option maxRecDepth 20000 in
theorem ggX3_wantForUnlikely_X6_unfallen : GoodIn wsX3_wantForUnlikely wsX6_unfallen := goodIn_r _ [9, 10, 11, 58, 59, 60, 61, 62, 63, 64, 65, 66, 67, 68, 69] (by decide +kernel) (by decide +kernel)
set_option maxRecDepth 20000 in
theorem gX3_wantForUnlikely_X6_unfallen : GoodIn wsX3_wantForUnlikely (wsV RX3 128 RX6 yX6_unfallen wsX6_unfallen) := goodIn_app (goodIn_of _ (by decide +kernel)) ggX3_wantForUnlikely_X6_unfallen
set_option maxRecDepth 20000 in
theorem ggX3_wantForUnlikely_X3_wantFalls : GoodIn wsX3_wantForUnlikely wsX3_wantFalls := goodIn_r _ [16, 17, 18, 19, 20, 21, 22, 15, 23, 24, 2, 4, 1, 25, 26, 27, 70, 71, 72, 73, 74, 75, 76, 77, 78, 54, 55, 56, 57, 58, 59, 60, 61, 62, 63, 64, 65, 66, 67, 68, 69] (by decide +kernel) (by decide +kernel)
set_option maxRecDepth 20000 in
theorem gX3_wantForUnlikely_X3_wantFalls : GoodIn wsX3_wantForUnlikely (wsV RX3 134 RX3 yX3_wantFalls wsX3_wantFalls) := goodIn_app (goodIn_of _ (by decide +kernel)) ggX3_wantForUnlikely_X3_wantFalls
set_option maxRecDepth 20000 in
theorem ggX3_wantForUnlikely_X8_otherOf : GoodIn wsX3_wantForUnlikely wsX8_otherOf := goodIn_r _ [29] (by decide +kernel) (by decide +kernel)
set_option maxRecDepth 20000 in
theorem gX3_wantForUnlikely_X8_otherOf_n107 : GoodIn wsX3_wantForUnlikely (wsX8_otherOf) := ggX3_wantForUnlikely_X8_otherOf
set_option maxRecDepth 20000 in
theorem ggX3_wantForUnlikely_X8_has : GoodIn wsX3_wantForUnlikely wsX8_has := goodIn_r _ [19] (by decide +kernel) (by decide +kernel)
set_option maxRecDepth 20000 in
theorem gX3_wantForUnlikely_X8_has_n82 : GoodIn wsX3_wantForUnlikely (wsX8_has) := ggX3_wantForUnlikely_X8_has
set_option maxRecDepth 20000 in
theorem ggX3_wantForUnlikely_X6_victors : GoodIn wsX3_wantForUnlikely wsX6_victors := goodIn_r _ [33, 34, 35, 28, 18, 29, 36, 6, 7, 8, 9, 10, 11, 37, 38, 39, 40, 41, 58, 59, 60, 61, 62, 63, 64, 65, 66, 67, 68, 69] (by decide +kernel) (by decide +kernel)
set_option maxRecDepth 20000 in
theorem gX3_wantForUnlikely_X6_victors : GoodIn wsX3_wantForUnlikely (wsV RX3 137 RX6 yX6_victors wsX6_victors) := goodIn_app (goodIn_of _ (by decide +kernel)) ggX3_wantForUnlikely_X6_victors
set_option maxRecDepth 20000 in
theorem ggX3_wantForUnlikely_X8_firstRule : GoodIn wsX3_wantForUnlikely wsX8_firstRule := goodIn_r _ [43, 44, 17, 18, 19] (by decide +kernel) (by decide +kernel)
set_option maxRecDepth 20000 in
theorem gX3_wantForUnlikely_X8_firstRule_n92 : GoodIn wsX3_wantForUnlikely (wsX8_firstRule) := ggX3_wantForUnlikely_X8_firstRule
set_option maxRecDepth 20000 in
theorem ggX3_wantForUnlikely_X3_wantForce : GoodIn wsX3_wantForUnlikely wsX3_wantForce := goodIn_r _ [48, 1, 24, 25, 54, 55, 56, 57, 70, 71, 72, 73, 74, 75, 76, 77, 78] (by decide +kernel) (by decide +kernel)
set_option maxRecDepth 20000 in
theorem gX3_wantForUnlikely_X3_wantForce : GoodIn wsX3_wantForUnlikely (wsV RX3 113 RX3 yX3_wantForce wsX3_wantForce) := goodIn_app (goodIn_of _ (by decide +kernel)) ggX3_wantForUnlikely_X3_wantForce
set_option maxRecDepth 20000 in
theorem ggX3_wantForUnlikely_X3_allAbove : GoodIn wsX3_wantForUnlikely wsX3_allAbove := goodIn_r _ [52, 2, 53, 17, 18, 19, 54, 55, 56, 57, 58, 59, 60, 61, 62, 63, 64, 65, 66, 67, 68, 69] (by decide +kernel) (by decide +kernel)
set_option maxRecDepth 20000 in
theorem gX3_wantForUnlikely_X3_allAbove : GoodIn wsX3_wantForUnlikely (wsV RX3 125 RX3 yX3_allAbove wsX3_allAbove) := goodIn_app (goodIn_of _ (by decide +kernel)) ggX3_wantForUnlikely_X3_allAbove
theorem dX3_wantForUnlikely_0 : decode cX3_wantForUnlikely 0 = .ok (.aload_n 0, 1) := by decide +kernel
theorem dX3_wantForUnlikely_1 : decode cX3_wantForUnlikely 1 = .ok (.getfield 18, 3) := by decide +kernel
theorem dX3_wantForUnlikely_4 : decode cX3_wantForUnlikely 4 = .ok (.iconst 1, 1) := by decide +kernel
theorem dX3_wantForUnlikely_5 : decode cX3_wantForUnlikely 5 = .ok (.dup2, 1) := by decide +kernel
theorem dX3_wantForUnlikely_6 : decode cX3_wantForUnlikely 6 = .ok (.iaload, 1) := by decide +kernel
theorem dX3_wantForUnlikely_7 : decode cX3_wantForUnlikely 7 = .ok (.iconst 1, 1) := by decide +kernel
theorem dX3_wantForUnlikely_8 : decode cX3_wantForUnlikely 8 = .ok (.iload_n 1, 1) := by decide +kernel
theorem dX3_wantForUnlikely_9 : decode cX3_wantForUnlikely 9 = .ok (.ishl, 1) := by decide +kernel
theorem dX3_wantForUnlikely_10 : decode cX3_wantForUnlikely 10 = .ok (.ior, 1) := by decide +kernel
theorem dX3_wantForUnlikely_11 : decode cX3_wantForUnlikely 11 = .ok (.iastore, 1) := by decide +kernel
theorem dX3_wantForUnlikely_12 : decode cX3_wantForUnlikely 12 = .ok (.aload_n 0, 1) := by decide +kernel
theorem dX3_wantForUnlikely_13 : decode cX3_wantForUnlikely 13 = .ok (.getfield 12, 3) := by decide +kernel
theorem dX3_wantForUnlikely_16 : decode cX3_wantForUnlikely 16 = .ok (.iload_n 1, 1) := by decide +kernel
theorem dX3_wantForUnlikely_17 : decode cX3_wantForUnlikely 17 = .ok (.invokevirtual 128, 3) := by decide +kernel
theorem dX3_wantForUnlikely_20 : decode cX3_wantForUnlikely 20 = .ok (.ifCond .ne 20, 3) := by decide +kernel
theorem dX3_wantForUnlikely_23 : decode cX3_wantForUnlikely 23 = .ok (.aload_n 0, 1) := by decide +kernel
theorem dX3_wantForUnlikely_24 : decode cX3_wantForUnlikely 24 = .ok (.aload_n 0, 1) := by decide +kernel
theorem dX3_wantForUnlikely_25 : decode cX3_wantForUnlikely 25 = .ok (.getfield 12, 3) := by decide +kernel
theorem dX3_wantForUnlikely_28 : decode cX3_wantForUnlikely 28 = .ok (.getfield 131, 3) := by decide +kernel
theorem dX3_wantForUnlikely_31 : decode cX3_wantForUnlikely 31 = .ok (.iload_n 1, 1) := by decide +kernel
theorem dX3_wantForUnlikely_32 : decode cX3_wantForUnlikely 32 = .ok (.iaload, 1) := by decide +kernel
theorem dX3_wantForUnlikely_33 : decode cX3_wantForUnlikely 33 = .ok (.aload_n 2, 1) := by decide +kernel
theorem dX3_wantForUnlikely_34 : decode cX3_wantForUnlikely 34 = .ok (.invokevirtual 134, 3) := by decide +kernel
theorem dX3_wantForUnlikely_37 : decode cX3_wantForUnlikely 37 = .ok (.goto 77, 3) := by decide +kernel
theorem dX3_wantForUnlikely_40 : decode cX3_wantForUnlikely 40 = .ok (.aload_n 0, 1) := by decide +kernel
theorem dX3_wantForUnlikely_41 : decode cX3_wantForUnlikely 41 = .ok (.getfield 12, 3) := by decide +kernel
theorem dX3_wantForUnlikely_44 : decode cX3_wantForUnlikely 44 = .ok (.getfield 56, 3) := by decide +kernel
theorem dX3_wantForUnlikely_47 : decode cX3_wantForUnlikely 47 = .ok (.iconst 0, 1) := by decide +kernel
theorem dX3_wantForUnlikely_48 : decode cX3_wantForUnlikely 48 = .ok (.iaload, 1) := by decide +kernel
theorem dX3_wantForUnlikely_49 : decode cX3_wantForUnlikely 49 = .ok (.iload_n 1, 1) := by decide +kernel
theorem dX3_wantForUnlikely_50 : decode cX3_wantForUnlikely 50 = .ok (.invokestatic 107, 3) := by decide +kernel
theorem dX3_wantForUnlikely_53 : decode cX3_wantForUnlikely 53 = .ok (.invokestatic 82, 3) := by decide +kernel
theorem dX3_wantForUnlikely_56 : decode cX3_wantForUnlikely 56 = .ok (.ifCond .eq 21, 3) := by decide +kernel
theorem dX3_wantForUnlikely_59 : decode cX3_wantForUnlikely 59 = .ok (.aload_n 0, 1) := by decide +kernel
theorem dX3_wantForUnlikely_60 : decode cX3_wantForUnlikely 60 = .ok (.getfield 18, 3) := by decide +kernel
theorem dX3_wantForUnlikely_63 : decode cX3_wantForUnlikely 63 = .ok (.iconst 0, 1) := by decide +kernel
theorem dX3_wantForUnlikely_64 : decode cX3_wantForUnlikely 64 = .ok (.dup2, 1) := by decide +kernel
theorem dX3_wantForUnlikely_65 : decode cX3_wantForUnlikely 65 = .ok (.iaload, 1) := by decide +kernel
theorem dX3_wantForUnlikely_66 : decode cX3_wantForUnlikely 66 = .ok (.iconst 1, 1) := by decide +kernel
theorem dX3_wantForUnlikely_67 : decode cX3_wantForUnlikely 67 = .ok (.iload_n 1, 1) := by decide +kernel
theorem dX3_wantForUnlikely_68 : decode cX3_wantForUnlikely 68 = .ok (.invokestatic 107, 3) := by decide +kernel
theorem dX3_wantForUnlikely_71 : decode cX3_wantForUnlikely 71 = .ok (.ishl, 1) := by decide +kernel
theorem dX3_wantForUnlikely_72 : decode cX3_wantForUnlikely 72 = .ok (.ior, 1) := by decide +kernel
theorem dX3_wantForUnlikely_73 : decode cX3_wantForUnlikely 73 = .ok (.iastore, 1) := by decide +kernel
theorem dX3_wantForUnlikely_74 : decode cX3_wantForUnlikely 74 = .ok (.goto 40, 3) := by decide +kernel
theorem dX3_wantForUnlikely_77 : decode cX3_wantForUnlikely 77 = .ok (.aload_n 0, 1) := by decide +kernel
theorem dX3_wantForUnlikely_78 : decode cX3_wantForUnlikely 78 = .ok (.getfield 12, 3) := by decide +kernel
theorem dX3_wantForUnlikely_81 : decode cX3_wantForUnlikely 81 = .ok (.iload_n 1, 1) := by decide +kernel
theorem dX3_wantForUnlikely_82 : decode cX3_wantForUnlikely 82 = .ok (.invokevirtual 137, 3) := by decide +kernel
theorem dX3_wantForUnlikely_85 : decode cX3_wantForUnlikely 85 = .ok (.invokestatic 92, 3) := by decide +kernel
theorem dX3_wantForUnlikely_88 : decode cX3_wantForUnlikely 88 = .ok (.istore_n 3, 1) := by decide +kernel
theorem dX3_wantForUnlikely_89 : decode cX3_wantForUnlikely 89 = .ok (.aload_n 0, 1) := by decide +kernel
theorem dX3_wantForUnlikely_90 : decode cX3_wantForUnlikely 90 = .ok (.iload_n 3, 1) := by decide +kernel
theorem dX3_wantForUnlikely_91 : decode cX3_wantForUnlikely 91 = .ok (.aload_n 2, 1) := by decide +kernel
theorem dX3_wantForUnlikely_92 : decode cX3_wantForUnlikely 92 = .ok (.invokevirtual 113, 3) := by decide +kernel
theorem dX3_wantForUnlikely_95 : decode cX3_wantForUnlikely 95 = .ok (.aload_n 0, 1) := by decide +kernel
theorem dX3_wantForUnlikely_96 : decode cX3_wantForUnlikely 96 = .ok (.aload_n 0, 1) := by decide +kernel
theorem dX3_wantForUnlikely_97 : decode cX3_wantForUnlikely 97 = .ok (.aload_n 0, 1) := by decide +kernel
theorem dX3_wantForUnlikely_98 : decode cX3_wantForUnlikely 98 = .ok (.getfield 12, 3) := by decide +kernel
theorem dX3_wantForUnlikely_101 : decode cX3_wantForUnlikely 101 = .ok (.getfield 131, 3) := by decide +kernel
theorem dX3_wantForUnlikely_104 : decode cX3_wantForUnlikely 104 = .ok (.iload_n 1, 1) := by decide +kernel
theorem dX3_wantForUnlikely_105 : decode cX3_wantForUnlikely 105 = .ok (.iaload, 1) := by decide +kernel
theorem dX3_wantForUnlikely_106 : decode cX3_wantForUnlikely 106 = .ok (.iload_n 3, 1) := by decide +kernel
theorem dX3_wantForUnlikely_107 : decode cX3_wantForUnlikely 107 = .ok (.invokevirtual 125, 3) := by decide +kernel
theorem dX3_wantForUnlikely_110 : decode cX3_wantForUnlikely 110 = .ok (.aload_n 2, 1) := by decide +kernel
theorem dX3_wantForUnlikely_111 : decode cX3_wantForUnlikely 111 = .ok (.invokevirtual 134, 3) := by decide +kernel
theorem dX3_wantForUnlikely_114 : decode cX3_wantForUnlikely 114 = .ok (.return_, 1) := by decide +kernel
set_option maxRecDepth 20000 in
theorem ggX3_allAbove_X8_has : GoodIn wsX3_allAbove wsX8_has := goodIn_r _ [5] (by decide +kernel) (by decide +kernel)
set_option maxRecDepth 20000 in
theorem gX3_allAbove_X8_has_n82 : GoodIn wsX3_allAbove (wsX8_has) := ggX3_allAbove_X8_has
theorem dX3_allAbove_0 : decode cX3_allAbove 0 = .ok (.iconst 0, 1) := by decide +kernel
theorem dX3_allAbove_1 : decode cX3_allAbove 1 = .ok (.istore_n 3, 1) := by decide +kernel
theorem dX3_allAbove_2 : decode cX3_allAbove 2 = .ok (.iconst 0, 1) := by decide +kernel
theorem dX3_allAbove_3 : decode cX3_allAbove 3 = .ok (.istore 4, 2) := by decide +kernel
theorem dX3_allAbove_5 : decode cX3_allAbove 5 = .ok (.iload 4, 2) := by decide +kernel
theorem dX3_allAbove_7 : decode cX3_allAbove 7 = .ok (.bipush 16, 2) := by decide +kernel
theorem dX3_allAbove_9 : decode cX3_allAbove 9 = .ok (.if_icmp .ge 42, 3) := by decide +kernel
theorem dX3_allAbove_12 : decode cX3_allAbove 12 = .ok (.iload_n 1, 1) := by decide +kernel
theorem dX3_allAbove_13 : decode cX3_allAbove 13 = .ok (.iload 4, 2) := by decide +kernel
theorem dX3_allAbove_15 : decode cX3_allAbove 15 = .ok (.invokestatic 82, 3) := by decide +kernel
theorem dX3_allAbove_18 : decode cX3_allAbove 18 = .ok (.ifCond .eq 27, 3) := by decide +kernel
theorem dX3_allAbove_21 : decode cX3_allAbove 21 = .ok (.aload_n 0, 1) := by decide +kernel
theorem dX3_allAbove_22 : decode cX3_allAbove 22 = .ok (.getfield 12, 3) := by decide +kernel
theorem dX3_allAbove_25 : decode cX3_allAbove 25 = .ok (.getfield 140, 3) := by decide +kernel
theorem dX3_allAbove_28 : decode cX3_allAbove 28 = .ok (.iload 4, 2) := by decide +kernel
theorem dX3_allAbove_30 : decode cX3_allAbove 30 = .ok (.iaload, 1) := by decide +kernel
theorem dX3_allAbove_31 : decode cX3_allAbove 31 = .ok (.iload_n 2, 1) := by decide +kernel
theorem dX3_allAbove_32 : decode cX3_allAbove 32 = .ok (.invokestatic 82, 3) := by decide +kernel
theorem dX3_allAbove_35 : decode cX3_allAbove 35 = .ok (.ifCond .eq 10, 3) := by decide +kernel
theorem dX3_allAbove_38 : decode cX3_allAbove 38 = .ok (.iload_n 3, 1) := by decide +kernel
theorem dX3_allAbove_39 : decode cX3_allAbove 39 = .ok (.iconst 1, 1) := by decide +kernel
theorem dX3_allAbove_40 : decode cX3_allAbove 40 = .ok (.iload 4, 2) := by decide +kernel
theorem dX3_allAbove_42 : decode cX3_allAbove 42 = .ok (.ishl, 1) := by decide +kernel
theorem dX3_allAbove_43 : decode cX3_allAbove 43 = .ok (.ior, 1) := by decide +kernel
theorem dX3_allAbove_44 : decode cX3_allAbove 44 = .ok (.istore_n 3, 1) := by decide +kernel
theorem dX3_allAbove_45 : decode cX3_allAbove 45 = .ok (.iinc 4 1, 3) := by decide +kernel
theorem dX3_allAbove_48 : decode cX3_allAbove 48 = .ok (.goto (-43), 3) := by decide +kernel
theorem dX3_allAbove_51 : decode cX3_allAbove 51 = .ok (.iload_n 3, 1) := by decide +kernel
theorem dX3_allAbove_52 : decode cX3_allAbove 52 = .ok (.ireturn, 1) := by decide +kernel
theorem dX3_wantForce_0 : decode cX3_wantForce 0 = .ok (.iload_n 1, 1) := by decide +kernel
theorem dX3_wantForce_1 : decode cX3_wantForce 1 = .ok (.bipush 16, 2) := by decide +kernel
theorem dX3_wantForce_3 : decode cX3_wantForce 3 = .ok (.if_icmp .ge 33, 3) := by decide +kernel
theorem dX3_wantForce_6 : decode cX3_wantForce 6 = .ok (.aload_n 0, 1) := by decide +kernel
theorem dX3_wantForce_7 : decode cX3_wantForce 7 = .ok (.getfield 18, 3) := by decide +kernel
theorem dX3_wantForce_10 : decode cX3_wantForce 10 = .ok (.iconst 2, 1) := by decide +kernel
theorem dX3_wantForce_11 : decode cX3_wantForce 11 = .ok (.dup2, 1) := by decide +kernel
theorem dX3_wantForce_12 : decode cX3_wantForce 12 = .ok (.iaload, 1) := by decide +kernel
theorem dX3_wantForce_13 : decode cX3_wantForce 13 = .ok (.aload_n 2, 1) := by decide +kernel
theorem dX3_wantForce_14 : decode cX3_wantForce 14 = .ok (.getfield 99, 3) := by decide +kernel
theorem dX3_wantForce_17 : decode cX3_wantForce 17 = .ok (.iload_n 1, 1) := by decide +kernel
theorem dX3_wantForce_18 : decode cX3_wantForce 18 = .ok (.iaload, 1) := by decide +kernel
theorem dX3_wantForce_19 : decode cX3_wantForce 19 = .ok (.ior, 1) := by decide +kernel
theorem dX3_wantForce_20 : decode cX3_wantForce 20 = .ok (.iastore, 1) := by decide +kernel
theorem dX3_wantForce_21 : decode cX3_wantForce 21 = .ok (.aload_n 0, 1) := by decide +kernel
theorem dX3_wantForce_22 : decode cX3_wantForce 22 = .ok (.getfield 18, 3) := by decide +kernel
theorem dX3_wantForce_25 : decode cX3_wantForce 25 = .ok (.iconst 3, 1) := by decide +kernel
theorem dX3_wantForce_26 : decode cX3_wantForce 26 = .ok (.dup2, 1) := by decide +kernel
theorem dX3_wantForce_27 : decode cX3_wantForce 27 = .ok (.iaload, 1) := by decide +kernel
theorem dX3_wantForce_28 : decode cX3_wantForce 28 = .ok (.aload_n 2, 1) := by decide +kernel
theorem dX3_wantForce_29 : decode cX3_wantForce 29 = .ok (.getfield 143, 3) := by decide +kernel
theorem dX3_wantForce_32 : decode cX3_wantForce 32 = .ok (.iload_n 1, 1) := by decide +kernel
theorem dX3_wantForce_33 : decode cX3_wantForce 33 = .ok (.iaload, 1) := by decide +kernel
theorem dX3_wantForce_34 : decode cX3_wantForce 34 = .ok (.ior, 1) := by decide +kernel
theorem dX3_wantForce_35 : decode cX3_wantForce 35 = .ok (.iastore, 1) := by decide +kernel
theorem dX3_wantForce_36 : decode cX3_wantForce 36 = .ok (.return_, 1) := by decide +kernel
set_option maxRecDepth 20000 in
theorem ggX3_wantFalls_X8_has : GoodIn wsX3_wantFalls wsX8_has := goodIn_r _ [3] (by decide +kernel) (by decide +kernel)
set_option maxRecDepth 20000 in
theorem gX3_wantFalls_X8_has_n82 : GoodIn wsX3_wantFalls (wsX8_has) := ggX3_wantFalls_X8_has
set_option maxRecDepth 20000 in
theorem ggX3_wantFalls_X3_wantFall : GoodIn wsX3_wantFalls wsX3_wantFall := goodIn_r _ [8, 9, 10, 11, 12, 13, 14, 2, 15, 16, 17, 18, 19, 20, 21, 22, 23, 24, 25, 26, 27, 28, 29, 30, 31, 32, 33, 34, 35, 36, 37, 38, 39, 40] (by decide +kernel) (by decide +kernel)
set_option maxRecDepth 20000 in
theorem gX3_wantFalls_X3_wantFall : GoodIn wsX3_wantFalls (wsV RX3 122 RX3 yX3_wantFall wsX3_wantFall) := goodIn_app (goodIn_of _ (by decide +kernel)) ggX3_wantFalls_X3_wantFall
theorem dX3_wantFalls_0 : decode cX3_wantFalls 0 = .ok (.iconst 0, 1) := by decide +kernel
theorem dX3_wantFalls_1 : decode cX3_wantFalls 1 = .ok (.istore_n 3, 1) := by decide +kernel
theorem dX3_wantFalls_2 : decode cX3_wantFalls 2 = .ok (.iload_n 3, 1) := by decide +kernel
theorem dX3_wantFalls_3 : decode cX3_wantFalls 3 = .ok (.bipush 16, 2) := by decide +kernel
theorem dX3_wantFalls_5 : decode cX3_wantFalls 5 = .ok (.if_icmp .ge 23, 3) := by decide +kernel
theorem dX3_wantFalls_8 : decode cX3_wantFalls 8 = .ok (.iload_n 1, 1) := by decide +kernel
theorem dX3_wantFalls_9 : decode cX3_wantFalls 9 = .ok (.iload_n 3, 1) := by decide +kernel
theorem dX3_wantFalls_10 : decode cX3_wantFalls 10 = .ok (.invokestatic 82, 3) := by decide +kernel
theorem dX3_wantFalls_13 : decode cX3_wantFalls 13 = .ok (.ifCond .eq 9, 3) := by decide +kernel
theorem dX3_wantFalls_16 : decode cX3_wantFalls 16 = .ok (.aload_n 0, 1) := by decide +kernel
theorem dX3_wantFalls_17 : decode cX3_wantFalls 17 = .ok (.iload_n 3, 1) := by decide +kernel
theorem dX3_wantFalls_18 : decode cX3_wantFalls 18 = .ok (.aload_n 2, 1) := by decide +kernel
theorem dX3_wantFalls_19 : decode cX3_wantFalls 19 = .ok (.invokevirtual 122, 3) := by decide +kernel
theorem dX3_wantFalls_22 : decode cX3_wantFalls 22 = .ok (.iinc 3 1, 3) := by decide +kernel
theorem dX3_wantFalls_25 : decode cX3_wantFalls 25 = .ok (.goto (-23), 3) := by decide +kernel
theorem dX3_wantFalls_28 : decode cX3_wantFalls 28 = .ok (.return_, 1) := by decide +kernel
set_option maxRecDepth 20000 in
theorem ggX3_wantFall_X8_lowestBit : GoodIn wsX3_wantFall wsX8_lowestBit := goodIn_r _ [8] (by decide +kernel) (by decide +kernel)
set_option maxRecDepth 20000 in
theorem gX3_wantFall_X8_lowestBit_n104 : GoodIn wsX3_wantFall (wsX8_lowestBit) := ggX3_wantFall_X8_lowestBit
theorem dX3_wantFall_0 : decode cX3_wantFall 0 = .ok (.aload_n 2, 1) := by decide +kernel
theorem dX3_wantFall_1 : decode cX3_wantFall 1 = .ok (.getfield 99, 3) := by decide +kernel
theorem dX3_wantFall_4 : decode cX3_wantFall 4 = .ok (.iload_n 1, 1) := by decide +kernel
theorem dX3_wantFall_5 : decode cX3_wantFall 5 = .ok (.iaload, 1) := by decide +kernel
theorem dX3_wantFall_6 : decode cX3_wantFall 6 = .ok (.aload_n 0, 1) := by decide +kernel
theorem dX3_wantFall_7 : decode cX3_wantFall 7 = .ok (.getfield 12, 3) := by decide +kernel
theorem dX3_wantFall_10 : decode cX3_wantFall 10 = .ok (.getfield 56, 3) := by decide +kernel
theorem dX3_wantFall_13 : decode cX3_wantFall 13 = .ok (.iconst 3, 1) := by decide +kernel
theorem dX3_wantFall_14 : decode cX3_wantFall 14 = .ok (.iaload, 1) := by decide +kernel
theorem dX3_wantFall_15 : decode cX3_wantFall 15 = .ok (.iand, 1) := by decide +kernel
theorem dX3_wantFall_16 : decode cX3_wantFall 16 = .ok (.istore_n 3, 1) := by decide +kernel
theorem dX3_wantFall_17 : decode cX3_wantFall 17 = .ok (.iload_n 3, 1) := by decide +kernel
theorem dX3_wantFall_18 : decode cX3_wantFall 18 = .ok (.ifCond .eq 19, 3) := by decide +kernel
theorem dX3_wantFall_21 : decode cX3_wantFall 21 = .ok (.aload_n 0, 1) := by decide +kernel
theorem dX3_wantFall_22 : decode cX3_wantFall 22 = .ok (.getfield 18, 3) := by decide +kernel
theorem dX3_wantFall_25 : decode cX3_wantFall 25 = .ok (.iconst 3, 1) := by decide +kernel
theorem dX3_wantFall_26 : decode cX3_wantFall 26 = .ok (.dup2, 1) := by decide +kernel
theorem dX3_wantFall_27 : decode cX3_wantFall 27 = .ok (.iaload, 1) := by decide +kernel
theorem dX3_wantFall_28 : decode cX3_wantFall 28 = .ok (.iload_n 3, 1) := by decide +kernel
theorem dX3_wantFall_29 : decode cX3_wantFall 29 = .ok (.invokestatic 104, 3) := by decide +kernel
theorem dX3_wantFall_32 : decode cX3_wantFall 32 = .ok (.ior, 1) := by decide +kernel
theorem dX3_wantFall_33 : decode cX3_wantFall 33 = .ok (.iastore, 1) := by decide +kernel
theorem dX3_wantFall_34 : decode cX3_wantFall 34 = .ok (.goto 31, 3) := by decide +kernel
theorem dX3_wantFall_37 : decode cX3_wantFall 37 = .ok (.aload_n 0, 1) := by decide +kernel
theorem dX3_wantFall_38 : decode cX3_wantFall 38 = .ok (.getfield 18, 3) := by decide +kernel
theorem dX3_wantFall_41 : decode cX3_wantFall 41 = .ok (.iconst 2, 1) := by decide +kernel
theorem dX3_wantFall_42 : decode cX3_wantFall 42 = .ok (.dup2, 1) := by decide +kernel
theorem dX3_wantFall_43 : decode cX3_wantFall 43 = .ok (.iaload, 1) := by decide +kernel
theorem dX3_wantFall_44 : decode cX3_wantFall 44 = .ok (.aload_n 2, 1) := by decide +kernel
theorem dX3_wantFall_45 : decode cX3_wantFall 45 = .ok (.getfield 143, 3) := by decide +kernel
theorem dX3_wantFall_48 : decode cX3_wantFall 48 = .ok (.iload_n 1, 1) := by decide +kernel
theorem dX3_wantFall_49 : decode cX3_wantFall 49 = .ok (.iaload, 1) := by decide +kernel
theorem dX3_wantFall_50 : decode cX3_wantFall 50 = .ok (.aload_n 0, 1) := by decide +kernel
theorem dX3_wantFall_51 : decode cX3_wantFall 51 = .ok (.getfield 12, 3) := by decide +kernel
theorem dX3_wantFall_54 : decode cX3_wantFall 54 = .ok (.getfield 56, 3) := by decide +kernel
theorem dX3_wantFall_57 : decode cX3_wantFall 57 = .ok (.iconst 2, 1) := by decide +kernel
theorem dX3_wantFall_58 : decode cX3_wantFall 58 = .ok (.iaload, 1) := by decide +kernel
theorem dX3_wantFall_59 : decode cX3_wantFall 59 = .ok (.iand, 1) := by decide +kernel
theorem dX3_wantFall_60 : decode cX3_wantFall 60 = .ok (.invokestatic 104, 3) := by decide +kernel
theorem dX3_wantFall_63 : decode cX3_wantFall 63 = .ok (.ior, 1) := by decide +kernel
theorem dX3_wantFall_64 : decode cX3_wantFall 64 = .ok (.iastore, 1) := by decide +kernel
theorem dX3_wantFall_65 : decode cX3_wantFall 65 = .ok (.return_, 1) := by decide +kernel
set_option maxRecDepth 20000 in
theorem ggX3_listRound_X3_isWanted : GoodIn wsX3_listRound wsX3_isWanted := goodIn_r _ [7, 8, 9, 10, 11, 12, 13, 14, 15, 16, 17, 18, 19, 20, 21, 22, 23, 24] (by decide +kernel) (by decide +kernel)
set_option maxRecDepth 20000 in
theorem gX3_listRound_X3_isWanted : GoodIn wsX3_listRound (wsV RX3 65 RX3 yX3_isWanted wsX3_isWanted) := goodIn_app (goodIn_of _ (by decide +kernel)) ggX3_listRound_X3_isWanted
theorem dX3_listRound_0 : decode cX3_listRound 0 = .ok (.iconst 0, 1) := by decide +kernel
theorem dX3_listRound_1 : decode cX3_listRound 1 = .ok (.istore_n 3, 1) := by decide +kernel
theorem dX3_listRound_2 : decode cX3_listRound 2 = .ok (.iload_n 3, 1) := by decide +kernel
theorem dX3_listRound_3 : decode cX3_listRound 3 = .ok (.iconst 4, 1) := by decide +kernel
theorem dX3_listRound_4 : decode cX3_listRound 4 = .ok (.if_icmp .ge 72, 3) := by decide +kernel
theorem dX3_listRound_7 : decode cX3_listRound 7 = .ok (.iconst 0, 1) := by decide +kernel
theorem dX3_listRound_8 : decode cX3_listRound 8 = .ok (.istore 4, 2) := by decide +kernel
theorem dX3_listRound_10 : decode cX3_listRound 10 = .ok (.iload 4, 2) := by decide +kernel
theorem dX3_listRound_12 : decode cX3_listRound 12 = .ok (.bipush 20, 2) := by decide +kernel
theorem dX3_listRound_14 : decode cX3_listRound 14 = .ok (.if_icmp .ge 56, 3) := by decide +kernel
theorem dX3_listRound_17 : decode cX3_listRound 17 = .ok (.aload_n 0, 1) := by decide +kernel
theorem dX3_listRound_18 : decode cX3_listRound 18 = .ok (.iload_n 3, 1) := by decide +kernel
theorem dX3_listRound_19 : decode cX3_listRound 19 = .ok (.iload 4, 2) := by decide +kernel
theorem dX3_listRound_21 : decode cX3_listRound 21 = .ok (.iload_n 1, 1) := by decide +kernel
theorem dX3_listRound_22 : decode cX3_listRound 22 = .ok (.aload_n 2, 1) := by decide +kernel
theorem dX3_listRound_23 : decode cX3_listRound 23 = .ok (.invokevirtual 65, 3) := by decide +kernel
theorem dX3_listRound_26 : decode cX3_listRound 26 = .ok (.ifCond .eq 38, 3) := by decide +kernel
theorem dX3_listRound_29 : decode cX3_listRound 29 = .ok (.aload_n 0, 1) := by decide +kernel
theorem dX3_listRound_30 : decode cX3_listRound 30 = .ok (.getfield 25, 3) := by decide +kernel
theorem dX3_listRound_33 : decode cX3_listRound 33 = .ok (.bipush 80, 2) := by decide +kernel
theorem dX3_listRound_35 : decode cX3_listRound 35 = .ok (.if_icmp .ge 29, 3) := by decide +kernel
theorem dX3_listRound_38 : decode cX3_listRound 38 = .ok (.aload_n 0, 1) := by decide +kernel
theorem dX3_listRound_39 : decode cX3_listRound 39 = .ok (.getfield 22, 3) := by decide +kernel
theorem dX3_listRound_42 : decode cX3_listRound 42 = .ok (.aload_n 0, 1) := by decide +kernel
theorem dX3_listRound_43 : decode cX3_listRound 43 = .ok (.getfield 25, 3) := by decide +kernel
theorem dX3_listRound_46 : decode cX3_listRound 46 = .ok (.iload_n 3, 1) := by decide +kernel
theorem dX3_listRound_47 : decode cX3_listRound 47 = .ok (.bipush 20, 2) := by decide +kernel
theorem dX3_listRound_49 : decode cX3_listRound 49 = .ok (.imul, 1) := by decide +kernel
theorem dX3_listRound_50 : decode cX3_listRound 50 = .ok (.iload 4, 2) := by decide +kernel
theorem dX3_listRound_52 : decode cX3_listRound 52 = .ok (.iadd, 1) := by decide +kernel
theorem dX3_listRound_53 : decode cX3_listRound 53 = .ok (.iastore, 1) := by decide +kernel
theorem dX3_listRound_54 : decode cX3_listRound 54 = .ok (.aload_n 0, 1) := by decide +kernel
theorem dX3_listRound_55 : decode cX3_listRound 55 = .ok (.dup, 1) := by decide +kernel
theorem dX3_listRound_56 : decode cX3_listRound 56 = .ok (.getfield 25, 3) := by decide +kernel
theorem dX3_listRound_59 : decode cX3_listRound 59 = .ok (.iconst 1, 1) := by decide +kernel
theorem dX3_listRound_60 : decode cX3_listRound 60 = .ok (.iadd, 1) := by decide +kernel
theorem dX3_listRound_61 : decode cX3_listRound 61 = .ok (.putfield 25, 3) := by decide +kernel
theorem dX3_listRound_64 : decode cX3_listRound 64 = .ok (.iinc 4 1, 3) := by decide +kernel
theorem dX3_listRound_67 : decode cX3_listRound 67 = .ok (.goto (-57), 3) := by decide +kernel
theorem dX3_listRound_70 : decode cX3_listRound 70 = .ok (.iinc 3 1, 3) := by decide +kernel
theorem dX3_listRound_73 : decode cX3_listRound 73 = .ok (.goto (-71), 3) := by decide +kernel
theorem dX3_listRound_76 : decode cX3_listRound 76 = .ok (.return_, 1) := by decide +kernel
theorem dX3_tagAt_0 : decode cX3_tagAt 0 = .ok (.aload_n 0, 1) := by decide +kernel
theorem dX3_tagAt_1 : decode cX3_tagAt 1 = .ok (.getfield 22, 3) := by decide +kernel
theorem dX3_tagAt_4 : decode cX3_tagAt 4 = .ok (.iload_n 1, 1) := by decide +kernel
theorem dX3_tagAt_5 : decode cX3_tagAt 5 = .ok (.iaload, 1) := by decide +kernel
theorem dX3_tagAt_6 : decode cX3_tagAt 6 = .ok (.bipush 20, 2) := by decide +kernel
theorem dX3_tagAt_8 : decode cX3_tagAt 8 = .ok (.idiv, 1) := by decide +kernel
theorem dX3_tagAt_9 : decode cX3_tagAt 9 = .ok (.ireturn, 1) := by decide +kernel
theorem dX3_literalAt_0 : decode cX3_literalAt 0 = .ok (.aload_n 0, 1) := by decide +kernel
theorem dX3_literalAt_1 : decode cX3_literalAt 1 = .ok (.getfield 22, 3) := by decide +kernel
theorem dX3_literalAt_4 : decode cX3_literalAt 4 = .ok (.iload_n 1, 1) := by decide +kernel
theorem dX3_literalAt_5 : decode cX3_literalAt 5 = .ok (.iaload, 1) := by decide +kernel
theorem dX3_literalAt_6 : decode cX3_literalAt 6 = .ok (.bipush 20, 2) := by decide +kernel
theorem dX3_literalAt_8 : decode cX3_literalAt 8 = .ok (.irem, 1) := by decide +kernel
theorem dX3_literalAt_9 : decode cX3_literalAt 9 = .ok (.ireturn, 1) := by decide +kernel
set_option maxRecDepth 20000 in
theorem ggX4_init_X6_init : GoodIn wsX4_init wsX6_init := goodIn_r _ [12, 13, 2, 3, 8, 14, 15, 16, 17, 18, 19, 20, 21, 22, 23, 24, 25, 26, 27, 28, 29, 30, 31, 32, 33, 34, 35, 36, 37] (by decide +kernel) (by decide +kernel)
set_option maxRecDepth 20000 in
theorem gX4_init_X6_init_n11 : GoodIn wsX4_init (wsX6_init) := ggX4_init_X6_init
theorem dX4_init_0 : decode cX4_init 0 = .ok (.aload_n 0, 1) := by decide +kernel
theorem dX4_init_1 : decode cX4_init 1 = .ok (.invokespecial 3, 3) := by decide +kernel
theorem dX4_init_4 : decode cX4_init 4 = .ok (.aload_n 0, 1) := by decide +kernel
theorem dX4_init_5 : decode cX4_init 5 = .ok (.new 9, 3) := by decide +kernel
theorem dX4_init_8 : decode cX4_init 8 = .ok (.dup, 1) := by decide +kernel
theorem dX4_init_9 : decode cX4_init 9 = .ok (.invokespecial 11, 3) := by decide +kernel
theorem dX4_init_12 : decode cX4_init 12 = .ok (.putfield 12, 3) := by decide +kernel
theorem dX4_init_15 : decode cX4_init 15 = .ok (.aload_n 0, 1) := by decide +kernel
theorem dX4_init_16 : decode cX4_init 16 = .ok (.bipush 80, 2) := by decide +kernel
theorem dX4_init_18 : decode cX4_init 18 = .ok (.newarray .int, 2) := by decide +kernel
theorem dX4_init_20 : decode cX4_init 20 = .ok (.putfield 18, 3) := by decide +kernel
theorem dX4_init_23 : decode cX4_init 23 = .ok (.aload_n 0, 1) := by decide +kernel
theorem dX4_init_24 : decode cX4_init 24 = .ok (.iconst 0, 1) := by decide +kernel
theorem dX4_init_25 : decode cX4_init 25 = .ok (.putfield 22, 3) := by decide +kernel
theorem dX4_init_28 : decode cX4_init 28 = .ok (.return_, 1) := by decide +kernel
set_option maxRecDepth 20000 in
theorem ggX4_come_J7_fill_53178 : GoodIn wsX4_come wsJ7_fill_53178 := goodIn_r _ [7] (by decide +kernel) (by decide +kernel)
set_option maxRecDepth 20000 in
theorem gX4_come_J7_fill_53178 : GoodIn wsX4_come (va_wsS RX4 26 yJ7_fill_53178 wsJ7_fill_53178) := goodIn_app (goodIn_of _ (by decide +kernel)) ggX4_come_J7_fill_53178
set_option maxRecDepth 20000 in
theorem ggX4_come_X6_enter : GoodIn wsX4_come wsX6_enter := goodIn_r _ [12, 13, 14, 15, 16, 17, 18, 19, 20, 21, 22, 23, 24, 5, 6, 7, 25, 26, 27, 28, 29, 30, 31, 32, 33, 34, 35, 36, 37, 38, 39, 40, 41, 42, 11, 43, 111, 112, 113, 114, 115, 116, 117, 118, 119, 120, 121, 122, 123, 124, 125, 126, 127, 128, 129, 130, 131] (by decide +kernel) (by decide +kernel)
set_option maxRecDepth 20000 in
theorem gX4_come_X6_enter : GoodIn wsX4_come (wsV RX4 32 RX6 yX6_enter wsX6_enter) := goodIn_app (goodIn_of _ (by decide +kernel)) ggX4_come_X6_enter
set_option maxRecDepth 20000 in
theorem ggX4_come_X6_weigh : GoodIn wsX4_come wsX6_weigh := goodIn_r _ [47, 48, 49, 50, 51, 20, 52, 53, 54, 55, 56, 11, 57, 13, 111, 112, 113, 114, 115, 116, 117, 118, 119, 120, 121, 122, 123, 124, 125, 126, 127, 128, 129, 130, 131] (by decide +kernel) (by decide +kernel)
set_option maxRecDepth 20000 in
theorem gX4_come_X6_weigh : GoodIn wsX4_come (wsV RX4 36 RX6 yX6_weigh wsX6_weigh) := goodIn_app (goodIn_of _ (by decide +kernel)) ggX4_come_X6_weigh
set_option maxRecDepth 20000 in
theorem ggX4_come_X6_brings : GoodIn wsX4_come wsX6_brings := goodIn_r _ [61, 62, 13, 63, 64, 65, 11, 66, 19, 14, 50, 67, 68, 69, 70, 51, 37, 38, 39, 71, 72, 73, 74, 75, 76, 77, 78, 15, 48, 79, 80, 81, 82, 83, 84, 16, 49, 85, 86, 87, 88, 17, 89, 90, 91, 92, 93, 94, 95, 96, 97, 98, 99, 100, 111, 112, 113, 114, 115, 116, 117, 118, 119, 120, 121, 122] (by decide +kernel) (by decide +kernel)
set_option maxRecDepth 20000 in
theorem gX4_come_X6_brings : GoodIn wsX4_come (wsV RX4 39 RX6 yX6_brings wsX6_brings) := goodIn_app (goodIn_of _ (by decide +kernel)) ggX4_come_X6_brings
set_option maxRecDepth 20000 in
theorem ggX4_come_X4_note : GoodIn wsX4_come wsX4_note := goodIn_r _ [105, 3, 106, 107, 1, 2, 37, 38, 39, 108, 109, 110, 111, 112, 113, 114, 115, 116, 117, 118, 119, 120, 121, 122] (by decide +kernel) (by decide +kernel)
set_option maxRecDepth 20000 in
theorem gX4_come_X4_note : GoodIn wsX4_come (wsV RX4 43 RX4 yX4_note wsX4_note) := goodIn_app (goodIn_of _ (by decide +kernel)) ggX4_come_X4_note
theorem dX4_come_0 : decode cX4_come 0 = .ok (.aload_n 0, 1) := by decide +kernel
theorem dX4_come_1 : decode cX4_come 1 = .ok (.getfield 18, 3) := by decide +kernel
theorem dX4_come_4 : decode cX4_come 4 = .ok (.iconst 0, 1) := by decide +kernel
theorem dX4_come_5 : decode cX4_come 5 = .ok (.invokestatic 26, 3) := by decide +kernel
theorem dX4_come_8 : decode cX4_come 8 = .ok (.aload_n 0, 1) := by decide +kernel
theorem dX4_come_9 : decode cX4_come 9 = .ok (.iconst 0, 1) := by decide +kernel
theorem dX4_come_10 : decode cX4_come 10 = .ok (.putfield 22, 3) := by decide +kernel
theorem dX4_come_13 : decode cX4_come 13 = .ok (.aload_n 0, 1) := by decide +kernel
theorem dX4_come_14 : decode cX4_come 14 = .ok (.getfield 12, 3) := by decide +kernel
theorem dX4_come_17 : decode cX4_come 17 = .ok (.aload_n 1, 1) := by decide +kernel
theorem dX4_come_18 : decode cX4_come 18 = .ok (.invokevirtual 32, 3) := by decide +kernel
theorem dX4_come_21 : decode cX4_come 21 = .ok (.aload_n 0, 1) := by decide +kernel
theorem dX4_come_22 : decode cX4_come 22 = .ok (.getfield 12, 3) := by decide +kernel
theorem dX4_come_25 : decode cX4_come 25 = .ok (.aload_n 1, 1) := by decide +kernel
theorem dX4_come_26 : decode cX4_come 26 = .ok (.invokevirtual 36, 3) := by decide +kernel
theorem dX4_come_29 : decode cX4_come 29 = .ok (.iconst 1, 1) := by decide +kernel
theorem dX4_come_30 : decode cX4_come 30 = .ok (.istore_n 2, 1) := by decide +kernel
theorem dX4_come_31 : decode cX4_come 31 = .ok (.iload_n 2, 1) := by decide +kernel
theorem dX4_come_32 : decode cX4_come 32 = .ok (.bipush 80, 2) := by decide +kernel
theorem dX4_come_34 : decode cX4_come 34 = .ok (.if_icmp .gt 36, 3) := by decide +kernel
theorem dX4_come_37 : decode cX4_come 37 = .ok (.aload_n 0, 1) := by decide +kernel
theorem dX4_come_38 : decode cX4_come 38 = .ok (.getfield 12, 3) := by decide +kernel
theorem dX4_come_41 : decode cX4_come 41 = .ok (.invokevirtual 39, 3) := by decide +kernel
theorem dX4_come_44 : decode cX4_come 44 = .ok (.ifCond .eq 26, 3) := by decide +kernel
theorem dX4_come_47 : decode cX4_come 47 = .ok (.aload_n 0, 1) := by decide +kernel
theorem dX4_come_48 : decode cX4_come 48 = .ok (.iload_n 2, 1) := by decide +kernel
theorem dX4_come_49 : decode cX4_come 49 = .ok (.putfield 22, 3) := by decide +kernel
theorem dX4_come_52 : decode cX4_come 52 = .ok (.aload_n 0, 1) := by decide +kernel
theorem dX4_come_53 : decode cX4_come 53 = .ok (.invokevirtual 43, 3) := by decide +kernel
theorem dX4_come_56 : decode cX4_come 56 = .ok (.aload_n 0, 1) := by decide +kernel
theorem dX4_come_57 : decode cX4_come 57 = .ok (.getfield 12, 3) := by decide +kernel
theorem dX4_come_60 : decode cX4_come 60 = .ok (.aload_n 1, 1) := by decide +kernel
theorem dX4_come_61 : decode cX4_come 61 = .ok (.invokevirtual 36, 3) := by decide +kernel
theorem dX4_come_64 : decode cX4_come 64 = .ok (.iinc 2 1, 3) := by decide +kernel
theorem dX4_come_67 : decode cX4_come 67 = .ok (.goto (-36), 3) := by decide +kernel
theorem dX4_come_70 : decode cX4_come 70 = .ok (.return_, 1) := by decide +kernel
set_option maxRecDepth 20000 in
theorem ggX4_note_X8_has : GoodIn wsX4_note wsX8_has := goodIn_r _ [8] (by decide +kernel) (by decide +kernel)
set_option maxRecDepth 20000 in
theorem gX4_note_X8_has_n52 : GoodIn wsX4_note (wsX8_has) := ggX4_note_X8_has
theorem dX4_note_0 : decode cX4_note 0 = .ok (.iconst 0, 1) := by decide +kernel
theorem dX4_note_1 : decode cX4_note 1 = .ok (.istore_n 1, 1) := by decide +kernel
theorem dX4_note_2 : decode cX4_note 2 = .ok (.iload_n 1, 1) := by decide +kernel
theorem dX4_note_3 : decode cX4_note 3 = .ok (.iconst 4, 1) := by decide +kernel
theorem dX4_note_4 : decode cX4_note 4 = .ok (.if_icmp .ge 69, 3) := by decide +kernel
theorem dX4_note_7 : decode cX4_note 7 = .ok (.aload_n 0, 1) := by decide +kernel
theorem dX4_note_8 : decode cX4_note 8 = .ok (.getfield 12, 3) := by decide +kernel
theorem dX4_note_11 : decode cX4_note 11 = .ok (.getfield 46, 3) := by decide +kernel
theorem dX4_note_14 : decode cX4_note 14 = .ok (.iload_n 1, 1) := by decide +kernel
theorem dX4_note_15 : decode cX4_note 15 = .ok (.iaload, 1) := by decide +kernel
theorem dX4_note_16 : decode cX4_note 16 = .ok (.istore_n 2, 1) := by decide +kernel
theorem dX4_note_17 : decode cX4_note 17 = .ok (.aload_n 0, 1) := by decide +kernel
theorem dX4_note_18 : decode cX4_note 18 = .ok (.getfield 12, 3) := by decide +kernel
theorem dX4_note_21 : decode cX4_note 21 = .ok (.getfield 49, 3) := by decide +kernel
theorem dX4_note_24 : decode cX4_note 24 = .ok (.iload_n 1, 1) := by decide +kernel
theorem dX4_note_25 : decode cX4_note 25 = .ok (.dup2, 1) := by decide +kernel
theorem dX4_note_26 : decode cX4_note 26 = .ok (.iaload, 1) := by decide +kernel
theorem dX4_note_27 : decode cX4_note 27 = .ok (.iload_n 2, 1) := by decide +kernel
theorem dX4_note_28 : decode cX4_note 28 = .ok (.ior, 1) := by decide +kernel
theorem dX4_note_29 : decode cX4_note 29 = .ok (.iastore, 1) := by decide +kernel
theorem dX4_note_30 : decode cX4_note 30 = .ok (.iconst 0, 1) := by decide +kernel
theorem dX4_note_31 : decode cX4_note 31 = .ok (.istore_n 3, 1) := by decide +kernel
theorem dX4_note_32 : decode cX4_note 32 = .ok (.iload_n 3, 1) := by decide +kernel
theorem dX4_note_33 : decode cX4_note 33 = .ok (.bipush 20, 2) := by decide +kernel
theorem dX4_note_35 : decode cX4_note 35 = .ok (.if_icmp .ge 32, 3) := by decide +kernel
theorem dX4_note_38 : decode cX4_note 38 = .ok (.iload_n 2, 1) := by decide +kernel
theorem dX4_note_39 : decode cX4_note 39 = .ok (.iload_n 3, 1) := by decide +kernel
theorem dX4_note_40 : decode cX4_note 40 = .ok (.invokestatic 52, 3) := by decide +kernel
theorem dX4_note_43 : decode cX4_note 43 = .ok (.ifCond .eq 18, 3) := by decide +kernel
theorem dX4_note_46 : decode cX4_note 46 = .ok (.aload_n 0, 1) := by decide +kernel
theorem dX4_note_47 : decode cX4_note 47 = .ok (.getfield 18, 3) := by decide +kernel
theorem dX4_note_50 : decode cX4_note 50 = .ok (.iload_n 1, 1) := by decide +kernel
theorem dX4_note_51 : decode cX4_note 51 = .ok (.bipush 20, 2) := by decide +kernel
theorem dX4_note_53 : decode cX4_note 53 = .ok (.imul, 1) := by decide +kernel
theorem dX4_note_54 : decode cX4_note 54 = .ok (.iload_n 3, 1) := by decide +kernel
theorem dX4_note_55 : decode cX4_note 55 = .ok (.iadd, 1) := by decide +kernel
theorem dX4_note_56 : decode cX4_note 56 = .ok (.aload_n 0, 1) := by decide +kernel
theorem dX4_note_57 : decode cX4_note 57 = .ok (.getfield 22, 3) := by decide +kernel
theorem dX4_note_60 : decode cX4_note 60 = .ok (.iastore, 1) := by decide +kernel
theorem dX4_note_61 : decode cX4_note 61 = .ok (.iinc 3 1, 3) := by decide +kernel
theorem dX4_note_64 : decode cX4_note 64 = .ok (.goto (-32), 3) := by decide +kernel
theorem dX4_note_67 : decode cX4_note 67 = .ok (.iinc 1 1, 3) := by decide +kernel
theorem dX4_note_70 : decode cX4_note 70 = .ok (.goto (-68), 3) := by decide +kernel
theorem dX4_note_73 : decode cX4_note 73 = .ok (.return_, 1) := by decide +kernel
theorem dX4_roundOf_0 : decode cX4_roundOf 0 = .ok (.aload_n 0, 1) := by decide +kernel
theorem dX4_roundOf_1 : decode cX4_roundOf 1 = .ok (.getfield 18, 3) := by decide +kernel
theorem dX4_roundOf_4 : decode cX4_roundOf 4 = .ok (.iload_n 1, 1) := by decide +kernel
theorem dX4_roundOf_5 : decode cX4_roundOf 5 = .ok (.bipush 20, 2) := by decide +kernel
theorem dX4_roundOf_7 : decode cX4_roundOf 7 = .ok (.imul, 1) := by decide +kernel
theorem dX4_roundOf_8 : decode cX4_roundOf 8 = .ok (.iload_n 2, 1) := by decide +kernel
theorem dX4_roundOf_9 : decode cX4_roundOf 9 = .ok (.iadd, 1) := by decide +kernel
theorem dX4_roundOf_10 : decode cX4_roundOf 10 = .ok (.iaload, 1) := by decide +kernel
theorem dX4_roundOf_11 : decode cX4_roundOf 11 = .ok (.ireturn, 1) := by decide +kernel
set_option maxRecDepth 20000 in
theorem ggX4_broughtBy_X4_roundOf : GoodIn wsX4_broughtBy wsX4_roundOf := goodIn_r _ [5, 6, 7, 8, 9] (by decide +kernel) (by decide +kernel)
set_option maxRecDepth 20000 in
theorem gX4_broughtBy_X4_roundOf : GoodIn wsX4_broughtBy (wsV RX4 56 RX4 yX4_roundOf wsX4_roundOf) := goodIn_app (goodIn_of _ (by decide +kernel)) ggX4_broughtBy_X4_roundOf
theorem dX4_broughtBy_0 : decode cX4_broughtBy 0 = .ok (.iconst 0, 1) := by decide +kernel
theorem dX4_broughtBy_1 : decode cX4_broughtBy 1 = .ok (.istore_n 3, 1) := by decide +kernel
theorem dX4_broughtBy_2 : decode cX4_broughtBy 2 = .ok (.iconst 0, 1) := by decide +kernel
theorem dX4_broughtBy_3 : decode cX4_broughtBy 3 = .ok (.istore 4, 2) := by decide +kernel
theorem dX4_broughtBy_5 : decode cX4_broughtBy 5 = .ok (.iload 4, 2) := by decide +kernel
theorem dX4_broughtBy_7 : decode cX4_broughtBy 7 = .ok (.bipush 20, 2) := by decide +kernel
theorem dX4_broughtBy_9 : decode cX4_broughtBy 9 = .ok (.if_icmp .ge 27, 3) := by decide +kernel
theorem dX4_broughtBy_12 : decode cX4_broughtBy 12 = .ok (.aload_n 0, 1) := by decide +kernel
theorem dX4_broughtBy_13 : decode cX4_broughtBy 13 = .ok (.iload_n 1, 1) := by decide +kernel
theorem dX4_broughtBy_14 : decode cX4_broughtBy 14 = .ok (.iload 4, 2) := by decide +kernel
theorem dX4_broughtBy_16 : decode cX4_broughtBy 16 = .ok (.invokevirtual 56, 3) := by decide +kernel
theorem dX4_broughtBy_19 : decode cX4_broughtBy 19 = .ok (.iload_n 2, 1) := by decide +kernel
theorem dX4_broughtBy_20 : decode cX4_broughtBy 20 = .ok (.if_icmp .ne 10, 3) := by decide +kernel
theorem dX4_broughtBy_23 : decode cX4_broughtBy 23 = .ok (.iload_n 3, 1) := by decide +kernel
theorem dX4_broughtBy_24 : decode cX4_broughtBy 24 = .ok (.iconst 1, 1) := by decide +kernel
theorem dX4_broughtBy_25 : decode cX4_broughtBy 25 = .ok (.iload 4, 2) := by decide +kernel
theorem dX4_broughtBy_27 : decode cX4_broughtBy 27 = .ok (.ishl, 1) := by decide +kernel
theorem dX4_broughtBy_28 : decode cX4_broughtBy 28 = .ok (.ior, 1) := by decide +kernel
theorem dX4_broughtBy_29 : decode cX4_broughtBy 29 = .ok (.istore_n 3, 1) := by decide +kernel
theorem dX4_broughtBy_30 : decode cX4_broughtBy 30 = .ok (.iinc 4 1, 3) := by decide +kernel
theorem dX4_broughtBy_33 : decode cX4_broughtBy 33 = .ok (.goto (-28), 3) := by decide +kernel
theorem dX4_broughtBy_36 : decode cX4_broughtBy 36 = .ok (.iload_n 3, 1) := by decide +kernel
theorem dX4_broughtBy_37 : decode cX4_broughtBy 37 = .ok (.ireturn, 1) := by decide +kernel
set_option maxRecDepth 20000 in
theorem ggX4_broughtAheadOf_X4_roundOf : GoodIn wsX4_broughtAheadOf wsX4_roundOf := goodIn_r _ [5, 6, 7, 8, 9] (by decide +kernel) (by decide +kernel)
set_option maxRecDepth 20000 in
theorem gX4_broughtAheadOf_X4_roundOf : GoodIn wsX4_broughtAheadOf (wsV RX4 56 RX4 yX4_roundOf wsX4_roundOf) := goodIn_app (goodIn_of _ (by decide +kernel)) ggX4_broughtAheadOf_X4_roundOf
theorem dX4_broughtAheadOf_0 : decode cX4_broughtAheadOf 0 = .ok (.iconst 0, 1) := by decide +kernel
theorem dX4_broughtAheadOf_1 : decode cX4_broughtAheadOf 1 = .ok (.istore_n 3, 1) := by decide +kernel
theorem dX4_broughtAheadOf_2 : decode cX4_broughtAheadOf 2 = .ok (.iconst 0, 1) := by decide +kernel
theorem dX4_broughtAheadOf_3 : decode cX4_broughtAheadOf 3 = .ok (.istore 4, 2) := by decide +kernel
theorem dX4_broughtAheadOf_5 : decode cX4_broughtAheadOf 5 = .ok (.iload 4, 2) := by decide +kernel
theorem dX4_broughtAheadOf_7 : decode cX4_broughtAheadOf 7 = .ok (.bipush 20, 2) := by decide +kernel
theorem dX4_broughtAheadOf_9 : decode cX4_broughtAheadOf 9 = .ok (.if_icmp .ge 36, 3) := by decide +kernel
theorem dX4_broughtAheadOf_12 : decode cX4_broughtAheadOf 12 = .ok (.aload_n 0, 1) := by decide +kernel
theorem dX4_broughtAheadOf_13 : decode cX4_broughtAheadOf 13 = .ok (.iload_n 1, 1) := by decide +kernel
theorem dX4_broughtAheadOf_14 : decode cX4_broughtAheadOf 14 = .ok (.iload 4, 2) := by decide +kernel
theorem dX4_broughtAheadOf_16 : decode cX4_broughtAheadOf 16 = .ok (.invokevirtual 56, 3) := by decide +kernel
theorem dX4_broughtAheadOf_19 : decode cX4_broughtAheadOf 19 = .ok (.istore 5, 2) := by decide +kernel
theorem dX4_broughtAheadOf_21 : decode cX4_broughtAheadOf 21 = .ok (.iload 5, 2) := by decide +kernel
theorem dX4_broughtAheadOf_23 : decode cX4_broughtAheadOf 23 = .ok (.ifCond .le 16, 3) := by decide +kernel
theorem dX4_broughtAheadOf_26 : decode cX4_broughtAheadOf 26 = .ok (.iload 5, 2) := by decide +kernel
theorem dX4_broughtAheadOf_28 : decode cX4_broughtAheadOf 28 = .ok (.iload_n 2, 1) := by decide +kernel
theorem dX4_broughtAheadOf_29 : decode cX4_broughtAheadOf 29 = .ok (.if_icmp .ge 10, 3) := by decide +kernel
theorem dX4_broughtAheadOf_32 : decode cX4_broughtAheadOf 32 = .ok (.iload_n 3, 1) := by decide +kernel
theorem dX4_broughtAheadOf_33 : decode cX4_broughtAheadOf 33 = .ok (.iconst 1, 1) := by decide +kernel
theorem dX4_broughtAheadOf_34 : decode cX4_broughtAheadOf 34 = .ok (.iload 4, 2) := by decide +kernel
theorem dX4_broughtAheadOf_36 : decode cX4_broughtAheadOf 36 = .ok (.ishl, 1) := by decide +kernel
theorem dX4_broughtAheadOf_37 : decode cX4_broughtAheadOf 37 = .ok (.ior, 1) := by decide +kernel
theorem dX4_broughtAheadOf_38 : decode cX4_broughtAheadOf 38 = .ok (.istore_n 3, 1) := by decide +kernel
theorem dX4_broughtAheadOf_39 : decode cX4_broughtAheadOf 39 = .ok (.iinc 4 1, 3) := by decide +kernel
theorem dX4_broughtAheadOf_42 : decode cX4_broughtAheadOf 42 = .ok (.goto (-37), 3) := by decide +kernel
theorem dX4_broughtAheadOf_45 : decode cX4_broughtAheadOf 45 = .ok (.iload_n 3, 1) := by decide +kernel
theorem dX4_broughtAheadOf_46 : decode cX4_broughtAheadOf 46 = .ok (.ireturn, 1) := by decide +kernel
set_option maxRecDepth 20000 in
theorem ggX4_tagsOf_X4_roundOf : GoodIn wsX4_tagsOf wsX4_roundOf := goodIn_r _ [5, 6, 7, 8, 9] (by decide +kernel) (by decide +kernel)
set_option maxRecDepth 20000 in
theorem gX4_tagsOf_X4_roundOf : GoodIn wsX4_tagsOf (wsV RX4 56 RX4 yX4_roundOf wsX4_roundOf) := goodIn_app (goodIn_of _ (by decide +kernel)) ggX4_tagsOf_X4_roundOf
theorem dX4_tagsOf_0 : decode cX4_tagsOf 0 = .ok (.iconst 0, 1) := by decide +kernel
theorem dX4_tagsOf_1 : decode cX4_tagsOf 1 = .ok (.istore_n 2, 1) := by decide +kernel
theorem dX4_tagsOf_2 : decode cX4_tagsOf 2 = .ok (.iconst 0, 1) := by decide +kernel
theorem dX4_tagsOf_3 : decode cX4_tagsOf 3 = .ok (.istore_n 3, 1) := by decide +kernel
theorem dX4_tagsOf_4 : decode cX4_tagsOf 4 = .ok (.iload_n 3, 1) := by decide +kernel
theorem dX4_tagsOf_5 : decode cX4_tagsOf 5 = .ok (.iconst 4, 1) := by decide +kernel
theorem dX4_tagsOf_6 : decode cX4_tagsOf 6 = .ok (.if_icmp .ge 24, 3) := by decide +kernel
theorem dX4_tagsOf_9 : decode cX4_tagsOf 9 = .ok (.aload_n 0, 1) := by decide +kernel
theorem dX4_tagsOf_10 : decode cX4_tagsOf 10 = .ok (.iload_n 3, 1) := by decide +kernel
theorem dX4_tagsOf_11 : decode cX4_tagsOf 11 = .ok (.iload_n 1, 1) := by decide +kernel
theorem dX4_tagsOf_12 : decode cX4_tagsOf 12 = .ok (.invokevirtual 56, 3) := by decide +kernel
theorem dX4_tagsOf_15 : decode cX4_tagsOf 15 = .ok (.ifCond .eq 9, 3) := by decide +kernel
theorem dX4_tagsOf_18 : decode cX4_tagsOf 18 = .ok (.iload_n 2, 1) := by decide +kernel
theorem dX4_tagsOf_19 : decode cX4_tagsOf 19 = .ok (.iconst 1, 1) := by decide +kernel
theorem dX4_tagsOf_20 : decode cX4_tagsOf 20 = .ok (.iload_n 3, 1) := by decide +kernel
theorem dX4_tagsOf_21 : decode cX4_tagsOf 21 = .ok (.ishl, 1) := by decide +kernel
theorem dX4_tagsOf_22 : decode cX4_tagsOf 22 = .ok (.ior, 1) := by decide +kernel
theorem dX4_tagsOf_23 : decode cX4_tagsOf 23 = .ok (.istore_n 2, 1) := by decide +kernel
theorem dX4_tagsOf_24 : decode cX4_tagsOf 24 = .ok (.iinc 3 1, 3) := by decide +kernel
theorem dX4_tagsOf_27 : decode cX4_tagsOf 27 = .ok (.goto (-23), 3) := by decide +kernel
theorem dX4_tagsOf_30 : decode cX4_tagsOf 30 = .ok (.iload_n 2, 1) := by decide +kernel
theorem dX4_tagsOf_31 : decode cX4_tagsOf 31 = .ok (.ireturn, 1) := by decide +kernel
set_option maxRecDepth 20000 in
theorem ggX4_howMany_J6_bitCount_0f7a4 : GoodIn wsX4_howMany wsJ6_bitCount_0f7a4 := goodIn_r _ [6, 7, 8, 9] (by decide +kernel) (by decide +kernel)
set_option maxRecDepth 20000 in
theorem gX4_howMany_J6_bitCount_0f7a4 : GoodIn wsX4_howMany (va_wsS RX4 60 yJ6_bitCount_0f7a4 wsJ6_bitCount_0f7a4) := goodIn_app (goodIn_of _ (by decide +kernel)) ggX4_howMany_J6_bitCount_0f7a4
theorem dX4_howMany_0 : decode cX4_howMany 0 = .ok (.iconst 0, 1) := by decide +kernel
theorem dX4_howMany_1 : decode cX4_howMany 1 = .ok (.istore_n 1, 1) := by decide +kernel
theorem dX4_howMany_2 : decode cX4_howMany 2 = .ok (.iconst 0, 1) := by decide +kernel
theorem dX4_howMany_3 : decode cX4_howMany 3 = .ok (.istore_n 2, 1) := by decide +kernel
theorem dX4_howMany_4 : decode cX4_howMany 4 = .ok (.iload_n 2, 1) := by decide +kernel
theorem dX4_howMany_5 : decode cX4_howMany 5 = .ok (.iconst 4, 1) := by decide +kernel
theorem dX4_howMany_6 : decode cX4_howMany 6 = .ok (.if_icmp .ge 24, 3) := by decide +kernel
theorem dX4_howMany_9 : decode cX4_howMany 9 = .ok (.iload_n 1, 1) := by decide +kernel
theorem dX4_howMany_10 : decode cX4_howMany 10 = .ok (.aload_n 0, 1) := by decide +kernel
theorem dX4_howMany_11 : decode cX4_howMany 11 = .ok (.getfield 12, 3) := by decide +kernel
theorem dX4_howMany_14 : decode cX4_howMany 14 = .ok (.getfield 49, 3) := by decide +kernel
theorem dX4_howMany_17 : decode cX4_howMany 17 = .ok (.iload_n 2, 1) := by decide +kernel
theorem dX4_howMany_18 : decode cX4_howMany 18 = .ok (.iaload, 1) := by decide +kernel
theorem dX4_howMany_19 : decode cX4_howMany 19 = .ok (.invokestatic 60, 3) := by decide +kernel
theorem dX4_howMany_22 : decode cX4_howMany 22 = .ok (.iadd, 1) := by decide +kernel
theorem dX4_howMany_23 : decode cX4_howMany 23 = .ok (.istore_n 1, 1) := by decide +kernel
theorem dX4_howMany_24 : decode cX4_howMany 24 = .ok (.iinc 2 1, 3) := by decide +kernel
theorem dX4_howMany_27 : decode cX4_howMany 27 = .ok (.goto (-23), 3) := by decide +kernel
theorem dX4_howMany_30 : decode cX4_howMany 30 = .ok (.iload_n 1, 1) := by decide +kernel
theorem dX4_howMany_31 : decode cX4_howMany 31 = .ok (.ireturn, 1) := by decide +kernel
theorem dX5_init_0 : decode cX5_init 0 = .ok (.aload_n 0, 1) := by decide +kernel
theorem dX5_init_1 : decode cX5_init 1 = .ok (.invokespecial 3, 3) := by decide +kernel
theorem dX5_init_4 : decode cX5_init 4 = .ok (.aload_n 0, 1) := by decide +kernel
theorem dX5_init_5 : decode cX5_init 5 = .ok (.iconst 4, 1) := by decide +kernel
theorem dX5_init_6 : decode cX5_init 6 = .ok (.bipush 24, 2) := by decide +kernel
theorem dX5_init_8 : decode cX5_init 8 = .ok (.multianewarray 9 2, 4) := by decide +kernel
theorem dX5_init_12 : decode cX5_init 12 = .ok (.putfield 11, 3) := by decide +kernel
theorem dX5_init_15 : decode cX5_init 15 = .ok (.aload_n 0, 1) := by decide +kernel
theorem dX5_init_16 : decode cX5_init 16 = .ok (.iconst 4, 1) := by decide +kernel
theorem dX5_init_17 : decode cX5_init 17 = .ok (.newarray .int, 2) := by decide +kernel
theorem dX5_init_19 : decode cX5_init 19 = .ok (.dup, 1) := by decide +kernel
theorem dX5_init_20 : decode cX5_init 20 = .ok (.iconst 0, 1) := by decide +kernel
theorem dX5_init_21 : decode cX5_init 21 = .ok (.iconst (-1), 1) := by decide +kernel
theorem dX5_init_22 : decode cX5_init 22 = .ok (.iastore, 1) := by decide +kernel
theorem dX5_init_23 : decode cX5_init 23 = .ok (.dup, 1) := by decide +kernel
theorem dX5_init_24 : decode cX5_init 24 = .ok (.iconst 1, 1) := by decide +kernel
theorem dX5_init_25 : decode cX5_init 25 = .ok (.iconst (-1), 1) := by decide +kernel
theorem dX5_init_26 : decode cX5_init 26 = .ok (.iastore, 1) := by decide +kernel
theorem dX5_init_27 : decode cX5_init 27 = .ok (.dup, 1) := by decide +kernel
theorem dX5_init_28 : decode cX5_init 28 = .ok (.iconst 2, 1) := by decide +kernel
theorem dX5_init_29 : decode cX5_init 29 = .ok (.iconst (-1), 1) := by decide +kernel
theorem dX5_init_30 : decode cX5_init 30 = .ok (.iastore, 1) := by decide +kernel
theorem dX5_init_31 : decode cX5_init 31 = .ok (.dup, 1) := by decide +kernel
theorem dX5_init_32 : decode cX5_init 32 = .ok (.iconst 3, 1) := by decide +kernel
theorem dX5_init_33 : decode cX5_init 33 = .ok (.iconst (-1), 1) := by decide +kernel
theorem dX5_init_34 : decode cX5_init 34 = .ok (.iastore, 1) := by decide +kernel
theorem dX5_init_35 : decode cX5_init 35 = .ok (.putfield 16, 3) := by decide +kernel
theorem dX5_init_38 : decode cX5_init 38 = .ok (.return_, 1) := by decide +kernel
theorem dX5_holds_0 : decode cX5_holds 0 = .ok (.aload_n 0, 1) := by decide +kernel
theorem dX5_holds_1 : decode cX5_holds 1 = .ok (.getfield 16, 3) := by decide +kernel
theorem dX5_holds_4 : decode cX5_holds 4 = .ok (.iload_n 1, 1) := by decide +kernel
theorem dX5_holds_5 : decode cX5_holds 5 = .ok (.iaload, 1) := by decide +kernel
theorem dX5_holds_6 : decode cX5_holds 6 = .ok (.iconst (-1), 1) := by decide +kernel
theorem dX5_holds_7 : decode cX5_holds 7 = .ok (.if_icmp .eq 7, 3) := by decide +kernel
theorem dX5_holds_10 : decode cX5_holds 10 = .ok (.iconst 1, 1) := by decide +kernel
theorem dX5_holds_11 : decode cX5_holds 11 = .ok (.goto 4, 3) := by decide +kernel
theorem dX5_holds_14 : decode cX5_holds 14 = .ok (.iconst 0, 1) := by decide +kernel
theorem dX5_holds_15 : decode cX5_holds 15 = .ok (.ireturn, 1) := by decide +kernel
theorem dX5_hasPlace_0 : decode cX5_hasPlace 0 = .ok (.iload_n 2, 1) := by decide +kernel
theorem dX5_hasPlace_1 : decode cX5_hasPlace 1 = .ok (.ifCond .lt 17, 3) := by decide +kernel
theorem dX5_hasPlace_4 : decode cX5_hasPlace 4 = .ok (.iload_n 2, 1) := by decide +kernel
theorem dX5_hasPlace_5 : decode cX5_hasPlace 5 = .ok (.aload_n 0, 1) := by decide +kernel
theorem dX5_hasPlace_6 : decode cX5_hasPlace 6 = .ok (.getfield 16, 3) := by decide +kernel
theorem dX5_hasPlace_9 : decode cX5_hasPlace 9 = .ok (.iload_n 1, 1) := by decide +kernel
theorem dX5_hasPlace_10 : decode cX5_hasPlace 10 = .ok (.iaload, 1) := by decide +kernel
theorem dX5_hasPlace_11 : decode cX5_hasPlace 11 = .ok (.if_icmp .ge 7, 3) := by decide +kernel
theorem dX5_hasPlace_14 : decode cX5_hasPlace 14 = .ok (.iconst 1, 1) := by decide +kernel
theorem dX5_hasPlace_15 : decode cX5_hasPlace 15 = .ok (.goto 4, 3) := by decide +kernel
theorem dX5_hasPlace_18 : decode cX5_hasPlace 18 = .ok (.iconst 0, 1) := by decide +kernel
theorem dX5_hasPlace_19 : decode cX5_hasPlace 19 = .ok (.ireturn, 1) := by decide +kernel
set_option maxRecDepth 20000 in
theorem ggX5_make_J7_fill_53178 : GoodIn wsX5_make wsJ7_fill_53178 := goodIn_r _ [6] (by decide +kernel) (by decide +kernel)
set_option maxRecDepth 20000 in
theorem gX5_make_J7_fill_53178 : GoodIn wsX5_make (va_wsS RX5 20 yJ7_fill_53178 wsJ7_fill_53178) := goodIn_app (goodIn_of _ (by decide +kernel)) ggX5_make_J7_fill_53178
theorem dX5_make_0 : decode cX5_make 0 = .ok (.aload_n 0, 1) := by decide +kernel
theorem dX5_make_1 : decode cX5_make 1 = .ok (.getfield 11, 3) := by decide +kernel
theorem dX5_make_4 : decode cX5_make 4 = .ok (.iload_n 1, 1) := by decide +kernel
theorem dX5_make_5 : decode cX5_make 5 = .ok (.aaload, 1) := by decide +kernel
theorem dX5_make_6 : decode cX5_make 6 = .ok (.iconst 0, 1) := by decide +kernel
theorem dX5_make_7 : decode cX5_make 7 = .ok (.invokestatic 20, 3) := by decide +kernel
theorem dX5_make_10 : decode cX5_make 10 = .ok (.aload_n 0, 1) := by decide +kernel
theorem dX5_make_11 : decode cX5_make 11 = .ok (.getfield 16, 3) := by decide +kernel
theorem dX5_make_14 : decode cX5_make 14 = .ok (.iload_n 1, 1) := by decide +kernel
theorem dX5_make_15 : decode cX5_make 15 = .ok (.iload_n 2, 1) := by decide +kernel
theorem dX5_make_16 : decode cX5_make 16 = .ok (.iastore, 1) := by decide +kernel
theorem dX5_make_17 : decode cX5_make 17 = .ok (.return_, 1) := by decide +kernel
theorem dX5_put_0 : decode cX5_put 0 = .ok (.aload_n 0, 1) := by decide +kernel
theorem dX5_put_1 : decode cX5_put 1 = .ok (.getfield 11, 3) := by decide +kernel
theorem dX5_put_4 : decode cX5_put 4 = .ok (.iload_n 1, 1) := by decide +kernel
theorem dX5_put_5 : decode cX5_put 5 = .ok (.aaload, 1) := by decide +kernel
theorem dX5_put_6 : decode cX5_put 6 = .ok (.iload_n 2, 1) := by decide +kernel
theorem dX5_put_7 : decode cX5_put 7 = .ok (.iload_n 3, 1) := by decide +kernel
theorem dX5_put_8 : decode cX5_put 8 = .ok (.iastore, 1) := by decide +kernel
theorem dX5_put_9 : decode cX5_put 9 = .ok (.return_, 1) := by decide +kernel
theorem dX5_at_0 : decode cX5_at 0 = .ok (.aload_n 0, 1) := by decide +kernel
theorem dX5_at_1 : decode cX5_at 1 = .ok (.getfield 11, 3) := by decide +kernel
theorem dX5_at_4 : decode cX5_at 4 = .ok (.iload_n 1, 1) := by decide +kernel
theorem dX5_at_5 : decode cX5_at 5 = .ok (.aaload, 1) := by decide +kernel
theorem dX5_at_6 : decode cX5_at 6 = .ok (.iload_n 2, 1) := by decide +kernel
theorem dX5_at_7 : decode cX5_at 7 = .ok (.iaload, 1) := by decide +kernel
theorem dX5_at_8 : decode cX5_at 8 = .ok (.ireturn, 1) := by decide +kernel
theorem dX6_init_0 : decode cX6_init 0 = .ok (.aload_n 0, 1) := by decide +kernel
theorem dX6_init_1 : decode cX6_init 1 = .ok (.invokespecial 3, 3) := by decide +kernel
theorem dX6_init_4 : decode cX6_init 4 = .ok (.aload_n 0, 1) := by decide +kernel
theorem dX6_init_5 : decode cX6_init 5 = .ok (.iconst 4, 1) := by decide +kernel
theorem dX6_init_6 : decode cX6_init 6 = .ok (.newarray .int, 2) := by decide +kernel
theorem dX6_init_8 : decode cX6_init 8 = .ok (.putfield 9, 3) := by decide +kernel
theorem dX6_init_11 : decode cX6_init 11 = .ok (.aload_n 0, 1) := by decide +kernel
theorem dX6_init_12 : decode cX6_init 12 = .ok (.iconst 4, 1) := by decide +kernel
theorem dX6_init_13 : decode cX6_init 13 = .ok (.newarray .int, 2) := by decide +kernel
theorem dX6_init_15 : decode cX6_init 15 = .ok (.putfield 15, 3) := by decide +kernel
theorem dX6_init_18 : decode cX6_init 18 = .ok (.aload_n 0, 1) := by decide +kernel
theorem dX6_init_19 : decode cX6_init 19 = .ok (.bipush 20, 2) := by decide +kernel
theorem dX6_init_21 : decode cX6_init 21 = .ok (.newarray .int, 2) := by decide +kernel
theorem dX6_init_23 : decode cX6_init 23 = .ok (.putfield 18, 3) := by decide +kernel
theorem dX6_init_26 : decode cX6_init 26 = .ok (.aload_n 0, 1) := by decide +kernel
theorem dX6_init_27 : decode cX6_init 27 = .ok (.bipush 20, 2) := by decide +kernel
theorem dX6_init_29 : decode cX6_init 29 = .ok (.newarray .int, 2) := by decide +kernel
theorem dX6_init_31 : decode cX6_init 31 = .ok (.putfield 21, 3) := by decide +kernel
theorem dX6_init_34 : decode cX6_init 34 = .ok (.aload_n 0, 1) := by decide +kernel
theorem dX6_init_35 : decode cX6_init 35 = .ok (.bipush 20, 2) := by decide +kernel
theorem dX6_init_37 : decode cX6_init 37 = .ok (.newarray .int, 2) := by decide +kernel
theorem dX6_init_39 : decode cX6_init 39 = .ok (.putfield 24, 3) := by decide +kernel
theorem dX6_init_42 : decode cX6_init 42 = .ok (.aload_n 0, 1) := by decide +kernel
theorem dX6_init_43 : decode cX6_init 43 = .ok (.bipush 16, 2) := by decide +kernel
theorem dX6_init_45 : decode cX6_init 45 = .ok (.newarray .int, 2) := by decide +kernel
theorem dX6_init_47 : decode cX6_init 47 = .ok (.putfield 27, 3) := by decide +kernel
theorem dX6_init_50 : decode cX6_init 50 = .ok (.aload_n 0, 1) := by decide +kernel
theorem dX6_init_51 : decode cX6_init 51 = .ok (.bipush 16, 2) := by decide +kernel
theorem dX6_init_53 : decode cX6_init 53 = .ok (.newarray .int, 2) := by decide +kernel
theorem dX6_init_55 : decode cX6_init 55 = .ok (.putfield 30, 3) := by decide +kernel
theorem dX6_init_58 : decode cX6_init 58 = .ok (.aload_n 0, 1) := by decide +kernel
theorem dX6_init_59 : decode cX6_init 59 = .ok (.iconst 0, 1) := by decide +kernel
theorem dX6_init_60 : decode cX6_init 60 = .ok (.putfield 33, 3) := by decide +kernel
theorem dX6_init_63 : decode cX6_init 63 = .ok (.aload_n 0, 1) := by decide +kernel
theorem dX6_init_64 : decode cX6_init 64 = .ok (.iconst 0, 1) := by decide +kernel
theorem dX6_init_65 : decode cX6_init 65 = .ok (.putfield 37, 3) := by decide +kernel
theorem dX6_init_68 : decode cX6_init 68 = .ok (.aload_n 0, 1) := by decide +kernel
theorem dX6_init_69 : decode cX6_init 69 = .ok (.iconst 0, 1) := by decide +kernel
theorem dX6_init_70 : decode cX6_init 70 = .ok (.putfield 40, 3) := by decide +kernel
theorem dX6_init_73 : decode cX6_init 73 = .ok (.aload_n 0, 1) := by decide +kernel
theorem dX6_init_74 : decode cX6_init 74 = .ok (.iconst 0, 1) := by decide +kernel
theorem dX6_init_75 : decode cX6_init 75 = .ok (.putfield 43, 3) := by decide +kernel
theorem dX6_init_78 : decode cX6_init 78 = .ok (.aload_n 0, 1) := by decide +kernel
theorem dX6_init_79 : decode cX6_init 79 = .ok (.iconst 0, 1) := by decide +kernel
theorem dX6_init_80 : decode cX6_init 80 = .ok (.putfield 46, 3) := by decide +kernel
theorem dX6_init_83 : decode cX6_init 83 = .ok (.return_, 1) := by decide +kernel
set_option maxRecDepth 20000 in
theorem ggX6_enter_J7_fill_53178 : GoodIn wsX6_enter wsJ7_fill_53178 := goodIn_r _ [15] (by decide +kernel) (by decide +kernel)
set_option maxRecDepth 20000 in
theorem gX6_enter_J7_fill_53178 : GoodIn wsX6_enter (va_wsS RX6 49 yJ7_fill_53178 wsJ7_fill_53178) := goodIn_app (goodIn_of _ (by decide +kernel)) ggX6_enter_J7_fill_53178
set_option maxRecDepth 20000 in
theorem ggX6_enter_X0_rulesBelow : GoodIn wsX6_enter wsX0_rulesBelow := goodIn_r _ [20, 21, 22, 23, 24, 25, 26, 19, 27, 28, 29, 30, 48, 49, 50, 51, 52, 53, 54, 55, 56] (by decide +kernel) (by decide +kernel)
set_option maxRecDepth 20000 in
theorem gX6_enter_X0_rulesBelow : GoodIn wsX6_enter (wsV RX6 61 RX0 yX0_rulesBelow wsX0_rulesBelow) := goodIn_app (goodIn_of _ (by decide +kernel)) ggX6_enter_X0_rulesBelow
set_option maxRecDepth 20000 in
theorem ggX6_enter_X8_has : GoodIn wsX6_enter wsX8_has := goodIn_r _ [30] (by decide +kernel) (by decide +kernel)
set_option maxRecDepth 20000 in
theorem gX6_enter_X8_has_n68 : GoodIn wsX6_enter (wsX8_has) := ggX6_enter_X8_has
set_option maxRecDepth 20000 in
theorem ggX6_enter_X6_enterRule : GoodIn wsX6_enter wsX6_enterRule := goodIn_r _ [35, 4, 3, 2, 36, 37, 38, 39, 40, 41, 42, 43, 44, 45, 46, 47] (by decide +kernel) (by decide +kernel)
set_option maxRecDepth 20000 in
theorem gX6_enter_X6_enterRule : GoodIn wsX6_enter (wsV RX6 78 RX6 yX6_enterRule wsX6_enterRule) := goodIn_app (goodIn_of _ (by decide +kernel)) ggX6_enter_X6_enterRule
theorem dX6_enter_0 : decode cX6_enter 0 = .ok (.aload_n 0, 1) := by decide +kernel
theorem dX6_enter_1 : decode cX6_enter 1 = .ok (.getfield 9, 3) := by decide +kernel
theorem dX6_enter_4 : decode cX6_enter 4 = .ok (.iconst 0, 1) := by decide +kernel
theorem dX6_enter_5 : decode cX6_enter 5 = .ok (.invokestatic 49, 3) := by decide +kernel
theorem dX6_enter_8 : decode cX6_enter 8 = .ok (.aload_n 0, 1) := by decide +kernel
theorem dX6_enter_9 : decode cX6_enter 9 = .ok (.getfield 18, 3) := by decide +kernel
theorem dX6_enter_12 : decode cX6_enter 12 = .ok (.iconst 0, 1) := by decide +kernel
theorem dX6_enter_13 : decode cX6_enter 13 = .ok (.invokestatic 49, 3) := by decide +kernel
theorem dX6_enter_16 : decode cX6_enter 16 = .ok (.aload_n 0, 1) := by decide +kernel
theorem dX6_enter_17 : decode cX6_enter 17 = .ok (.getfield 21, 3) := by decide +kernel
theorem dX6_enter_20 : decode cX6_enter 20 = .ok (.iconst 0, 1) := by decide +kernel
theorem dX6_enter_21 : decode cX6_enter 21 = .ok (.invokestatic 49, 3) := by decide +kernel
theorem dX6_enter_24 : decode cX6_enter 24 = .ok (.aload_n 0, 1) := by decide +kernel
theorem dX6_enter_25 : decode cX6_enter 25 = .ok (.getfield 24, 3) := by decide +kernel
theorem dX6_enter_28 : decode cX6_enter 28 = .ok (.iconst 0, 1) := by decide +kernel
theorem dX6_enter_29 : decode cX6_enter 29 = .ok (.invokestatic 49, 3) := by decide +kernel
theorem dX6_enter_32 : decode cX6_enter 32 = .ok (.aload_n 0, 1) := by decide +kernel
theorem dX6_enter_33 : decode cX6_enter 33 = .ok (.getfield 27, 3) := by decide +kernel
theorem dX6_enter_36 : decode cX6_enter 36 = .ok (.iconst 0, 1) := by decide +kernel
theorem dX6_enter_37 : decode cX6_enter 37 = .ok (.invokestatic 49, 3) := by decide +kernel
theorem dX6_enter_40 : decode cX6_enter 40 = .ok (.aload_n 0, 1) := by decide +kernel
theorem dX6_enter_41 : decode cX6_enter 41 = .ok (.aload_n 1, 1) := by decide +kernel
theorem dX6_enter_42 : decode cX6_enter 42 = .ok (.getfield 55, 3) := by decide +kernel
theorem dX6_enter_45 : decode cX6_enter 45 = .ok (.putfield 33, 3) := by decide +kernel
theorem dX6_enter_48 : decode cX6_enter 48 = .ok (.iconst 0, 1) := by decide +kernel
theorem dX6_enter_49 : decode cX6_enter 49 = .ok (.istore_n 2, 1) := by decide +kernel
theorem dX6_enter_50 : decode cX6_enter 50 = .ok (.iload_n 2, 1) := by decide +kernel
theorem dX6_enter_51 : decode cX6_enter 51 = .ok (.aload_n 1, 1) := by decide +kernel
theorem dX6_enter_52 : decode cX6_enter 52 = .ok (.getfield 58, 3) := by decide +kernel
theorem dX6_enter_55 : decode cX6_enter 55 = .ok (.if_icmp .ge 50, 3) := by decide +kernel
theorem dX6_enter_58 : decode cX6_enter 58 = .ok (.aload_n 0, 1) := by decide +kernel
theorem dX6_enter_59 : decode cX6_enter 59 = .ok (.getfield 27, 3) := by decide +kernel
theorem dX6_enter_62 : decode cX6_enter 62 = .ok (.iload_n 2, 1) := by decide +kernel
theorem dX6_enter_63 : decode cX6_enter 63 = .ok (.aload_n 1, 1) := by decide +kernel
theorem dX6_enter_64 : decode cX6_enter 64 = .ok (.iload_n 2, 1) := by decide +kernel
theorem dX6_enter_65 : decode cX6_enter 65 = .ok (.invokevirtual 61, 3) := by decide +kernel
theorem dX6_enter_68 : decode cX6_enter 68 = .ok (.iastore, 1) := by decide +kernel
theorem dX6_enter_69 : decode cX6_enter 69 = .ok (.aload_n 1, 1) := by decide +kernel
theorem dX6_enter_70 : decode cX6_enter 70 = .ok (.getfield 65, 3) := by decide +kernel
theorem dX6_enter_73 : decode cX6_enter 73 = .ok (.iload_n 2, 1) := by decide +kernel
theorem dX6_enter_74 : decode cX6_enter 74 = .ok (.invokestatic 68, 3) := by decide +kernel
theorem dX6_enter_77 : decode cX6_enter 77 = .ok (.ifCond .ne 22, 3) := by decide +kernel
theorem dX6_enter_80 : decode cX6_enter 80 = .ok (.aload_n 0, 1) := by decide +kernel
theorem dX6_enter_81 : decode cX6_enter 81 = .ok (.iconst 1, 1) := by decide +kernel
theorem dX6_enter_82 : decode cX6_enter 82 = .ok (.iload_n 2, 1) := by decide +kernel
theorem dX6_enter_83 : decode cX6_enter 83 = .ok (.ishl, 1) := by decide +kernel
theorem dX6_enter_84 : decode cX6_enter 84 = .ok (.aload_n 1, 1) := by decide +kernel
theorem dX6_enter_85 : decode cX6_enter 85 = .ok (.getfield 72, 3) := by decide +kernel
theorem dX6_enter_88 : decode cX6_enter 88 = .ok (.iload_n 2, 1) := by decide +kernel
theorem dX6_enter_89 : decode cX6_enter 89 = .ok (.iaload, 1) := by decide +kernel
theorem dX6_enter_90 : decode cX6_enter 90 = .ok (.aload_n 1, 1) := by decide +kernel
theorem dX6_enter_91 : decode cX6_enter 91 = .ok (.getfield 75, 3) := by decide +kernel
theorem dX6_enter_94 : decode cX6_enter 94 = .ok (.iload_n 2, 1) := by decide +kernel
theorem dX6_enter_95 : decode cX6_enter 95 = .ok (.iaload, 1) := by decide +kernel
theorem dX6_enter_96 : decode cX6_enter 96 = .ok (.invokevirtual 78, 3) := by decide +kernel
theorem dX6_enter_99 : decode cX6_enter 99 = .ok (.iinc 2 1, 3) := by decide +kernel
theorem dX6_enter_102 : decode cX6_enter 102 = .ok (.goto (-52), 3) := by decide +kernel
theorem dX6_enter_105 : decode cX6_enter 105 = .ok (.return_, 1) := by decide +kernel
theorem dX6_enterRule_0 : decode cX6_enterRule 0 = .ok (.aload_n 0, 1) := by decide +kernel
theorem dX6_enterRule_1 : decode cX6_enterRule 1 = .ok (.getfield 24, 3) := by decide +kernel
theorem dX6_enterRule_4 : decode cX6_enterRule 4 = .ok (.iload_n 3, 1) := by decide +kernel
theorem dX6_enterRule_5 : decode cX6_enterRule 5 = .ok (.dup2, 1) := by decide +kernel
theorem dX6_enterRule_6 : decode cX6_enterRule 6 = .ok (.iaload, 1) := by decide +kernel
theorem dX6_enterRule_7 : decode cX6_enterRule 7 = .ok (.iload_n 1, 1) := by decide +kernel
theorem dX6_enterRule_8 : decode cX6_enterRule 8 = .ok (.ior, 1) := by decide +kernel
theorem dX6_enterRule_9 : decode cX6_enterRule 9 = .ok (.iastore, 1) := by decide +kernel
theorem dX6_enterRule_10 : decode cX6_enterRule 10 = .ok (.iload_n 2, 1) := by decide +kernel
theorem dX6_enterRule_11 : decode cX6_enterRule 11 = .ok (.iconst 2, 1) := by decide +kernel
theorem dX6_enterRule_12 : decode cX6_enterRule 12 = .ok (.if_icmp .eq 13, 3) := by decide +kernel
theorem dX6_enterRule_15 : decode cX6_enterRule 15 = .ok (.aload_n 0, 1) := by decide +kernel
theorem dX6_enterRule_16 : decode cX6_enterRule 16 = .ok (.getfield 21, 3) := by decide +kernel
theorem dX6_enterRule_19 : decode cX6_enterRule 19 = .ok (.iload_n 3, 1) := by decide +kernel
theorem dX6_enterRule_20 : decode cX6_enterRule 20 = .ok (.dup2, 1) := by decide +kernel
theorem dX6_enterRule_21 : decode cX6_enterRule 21 = .ok (.iaload, 1) := by decide +kernel
theorem dX6_enterRule_22 : decode cX6_enterRule 22 = .ok (.iload_n 1, 1) := by decide +kernel
theorem dX6_enterRule_23 : decode cX6_enterRule 23 = .ok (.ior, 1) := by decide +kernel
theorem dX6_enterRule_24 : decode cX6_enterRule 24 = .ok (.iastore, 1) := by decide +kernel
theorem dX6_enterRule_25 : decode cX6_enterRule 25 = .ok (.iload_n 2, 1) := by decide +kernel
theorem dX6_enterRule_26 : decode cX6_enterRule 26 = .ok (.ifCond .ne 13, 3) := by decide +kernel
theorem dX6_enterRule_29 : decode cX6_enterRule 29 = .ok (.aload_n 0, 1) := by decide +kernel
theorem dX6_enterRule_30 : decode cX6_enterRule 30 = .ok (.getfield 18, 3) := by decide +kernel
theorem dX6_enterRule_33 : decode cX6_enterRule 33 = .ok (.iload_n 3, 1) := by decide +kernel
theorem dX6_enterRule_34 : decode cX6_enterRule 34 = .ok (.dup2, 1) := by decide +kernel
theorem dX6_enterRule_35 : decode cX6_enterRule 35 = .ok (.iaload, 1) := by decide +kernel
theorem dX6_enterRule_36 : decode cX6_enterRule 36 = .ok (.iload_n 1, 1) := by decide +kernel
theorem dX6_enterRule_37 : decode cX6_enterRule 37 = .ok (.ior, 1) := by decide +kernel
theorem dX6_enterRule_38 : decode cX6_enterRule 38 = .ok (.iastore, 1) := by decide +kernel
theorem dX6_enterRule_39 : decode cX6_enterRule 39 = .ok (.return_, 1) := by decide +kernel
set_option maxRecDepth 20000 in
theorem ggX6_weigh_X6_weighRule : GoodIn wsX6_weigh wsX6_weighRule := goodIn_r _ [12, 13, 1, 2, 3, 4, 14, 15, 16, 17, 18, 19, 20, 21, 22, 23, 24, 25] (by decide +kernel) (by decide +kernel)
set_option maxRecDepth 20000 in
theorem gX6_weigh_X6_weighRule : GoodIn wsX6_weigh (wsV RX6 88 RX6 yX6_weighRule wsX6_weighRule) := goodIn_app (goodIn_of _ (by decide +kernel)) ggX6_weigh_X6_weighRule
theorem dX6_weigh_0 : decode cX6_weigh 0 = .ok (.aload_n 0, 1) := by decide +kernel
theorem dX6_weigh_1 : decode cX6_weigh 1 = .ok (.iconst 0, 1) := by decide +kernel
theorem dX6_weigh_2 : decode cX6_weigh 2 = .ok (.putfield 37, 3) := by decide +kernel
theorem dX6_weigh_5 : decode cX6_weigh 5 = .ok (.aload_n 0, 1) := by decide +kernel
theorem dX6_weigh_6 : decode cX6_weigh 6 = .ok (.iconst 0, 1) := by decide +kernel
theorem dX6_weigh_7 : decode cX6_weigh 7 = .ok (.putfield 40, 3) := by decide +kernel
theorem dX6_weigh_10 : decode cX6_weigh 10 = .ok (.aload_n 0, 1) := by decide +kernel
theorem dX6_weigh_11 : decode cX6_weigh 11 = .ok (.iconst 0, 1) := by decide +kernel
theorem dX6_weigh_12 : decode cX6_weigh 12 = .ok (.putfield 43, 3) := by decide +kernel
theorem dX6_weigh_15 : decode cX6_weigh 15 = .ok (.aload_n 0, 1) := by decide +kernel
theorem dX6_weigh_16 : decode cX6_weigh 16 = .ok (.iconst 0, 1) := by decide +kernel
theorem dX6_weigh_17 : decode cX6_weigh 17 = .ok (.putfield 46, 3) := by decide +kernel
theorem dX6_weigh_20 : decode cX6_weigh 20 = .ok (.iconst 0, 1) := by decide +kernel
theorem dX6_weigh_21 : decode cX6_weigh 21 = .ok (.istore_n 2, 1) := by decide +kernel
theorem dX6_weigh_22 : decode cX6_weigh 22 = .ok (.iload_n 2, 1) := by decide +kernel
theorem dX6_weigh_23 : decode cX6_weigh 23 = .ok (.aload_n 1, 1) := by decide +kernel
theorem dX6_weigh_24 : decode cX6_weigh 24 = .ok (.getfield 58, 3) := by decide +kernel
theorem dX6_weigh_27 : decode cX6_weigh 27 = .ok (.if_icmp .ge 28, 3) := by decide +kernel
theorem dX6_weigh_30 : decode cX6_weigh 30 = .ok (.aload_n 0, 1) := by decide +kernel
theorem dX6_weigh_31 : decode cX6_weigh 31 = .ok (.iconst 1, 1) := by decide +kernel
theorem dX6_weigh_32 : decode cX6_weigh 32 = .ok (.iload_n 2, 1) := by decide +kernel
theorem dX6_weigh_33 : decode cX6_weigh 33 = .ok (.ishl, 1) := by decide +kernel
theorem dX6_weigh_34 : decode cX6_weigh 34 = .ok (.aload_n 1, 1) := by decide +kernel
theorem dX6_weigh_35 : decode cX6_weigh 35 = .ok (.getfield 82, 3) := by decide +kernel
theorem dX6_weigh_38 : decode cX6_weigh 38 = .ok (.iload_n 2, 1) := by decide +kernel
theorem dX6_weigh_39 : decode cX6_weigh 39 = .ok (.iaload, 1) := by decide +kernel
theorem dX6_weigh_40 : decode cX6_weigh 40 = .ok (.aload_n 1, 1) := by decide +kernel
theorem dX6_weigh_41 : decode cX6_weigh 41 = .ok (.getfield 85, 3) := by decide +kernel
theorem dX6_weigh_44 : decode cX6_weigh 44 = .ok (.iload_n 2, 1) := by decide +kernel
theorem dX6_weigh_45 : decode cX6_weigh 45 = .ok (.iaload, 1) := by decide +kernel
theorem dX6_weigh_46 : decode cX6_weigh 46 = .ok (.invokevirtual 88, 3) := by decide +kernel
theorem dX6_weigh_49 : decode cX6_weigh 49 = .ok (.iinc 2 1, 3) := by decide +kernel
theorem dX6_weigh_52 : decode cX6_weigh 52 = .ok (.goto (-30), 3) := by decide +kernel
theorem dX6_weigh_55 : decode cX6_weigh 55 = .ok (.return_, 1) := by decide +kernel
theorem dX6_weighRule_0 : decode cX6_weighRule 0 = .ok (.iload_n 2, 1) := by decide +kernel
theorem dX6_weighRule_1 : decode cX6_weighRule 1 = .ok (.aload_n 0, 1) := by decide +kernel
theorem dX6_weighRule_2 : decode cX6_weighRule 2 = .ok (.getfield 9, 3) := by decide +kernel
theorem dX6_weighRule_5 : decode cX6_weighRule 5 = .ok (.iconst 2, 1) := by decide +kernel
theorem dX6_weighRule_6 : decode cX6_weighRule 6 = .ok (.iaload, 1) := by decide +kernel
theorem dX6_weighRule_7 : decode cX6_weighRule 7 = .ok (.iconst (-1), 1) := by decide +kernel
theorem dX6_weighRule_8 : decode cX6_weighRule 8 = .ok (.ixor, 1) := by decide +kernel
theorem dX6_weighRule_9 : decode cX6_weighRule 9 = .ok (.iand, 1) := by decide +kernel
theorem dX6_weighRule_10 : decode cX6_weighRule 10 = .ok (.ifCond .ne 26, 3) := by decide +kernel
theorem dX6_weighRule_13 : decode cX6_weighRule 13 = .ok (.iload_n 3, 1) := by decide +kernel
theorem dX6_weighRule_14 : decode cX6_weighRule 14 = .ok (.aload_n 0, 1) := by decide +kernel
theorem dX6_weighRule_15 : decode cX6_weighRule 15 = .ok (.getfield 9, 3) := by decide +kernel
theorem dX6_weighRule_18 : decode cX6_weighRule 18 = .ok (.iconst 3, 1) := by decide +kernel
theorem dX6_weighRule_19 : decode cX6_weighRule 19 = .ok (.iaload, 1) := by decide +kernel
theorem dX6_weighRule_20 : decode cX6_weighRule 20 = .ok (.iconst (-1), 1) := by decide +kernel
theorem dX6_weighRule_21 : decode cX6_weighRule 21 = .ok (.ixor, 1) := by decide +kernel
theorem dX6_weighRule_22 : decode cX6_weighRule 22 = .ok (.iand, 1) := by decide +kernel
theorem dX6_weighRule_23 : decode cX6_weighRule 23 = .ok (.ifCond .ne 13, 3) := by decide +kernel
theorem dX6_weighRule_26 : decode cX6_weighRule 26 = .ok (.aload_n 0, 1) := by decide +kernel
theorem dX6_weighRule_27 : decode cX6_weighRule 27 = .ok (.dup, 1) := by decide +kernel
theorem dX6_weighRule_28 : decode cX6_weighRule 28 = .ok (.getfield 37, 3) := by decide +kernel
theorem dX6_weighRule_31 : decode cX6_weighRule 31 = .ok (.iload_n 1, 1) := by decide +kernel
theorem dX6_weighRule_32 : decode cX6_weighRule 32 = .ok (.ior, 1) := by decide +kernel
theorem dX6_weighRule_33 : decode cX6_weighRule 33 = .ok (.putfield 37, 3) := by decide +kernel
theorem dX6_weighRule_36 : decode cX6_weighRule 36 = .ok (.iload_n 2, 1) := by decide +kernel
theorem dX6_weighRule_37 : decode cX6_weighRule 37 = .ok (.aload_n 0, 1) := by decide +kernel
theorem dX6_weighRule_38 : decode cX6_weighRule 38 = .ok (.getfield 9, 3) := by decide +kernel
theorem dX6_weighRule_41 : decode cX6_weighRule 41 = .ok (.iconst 3, 1) := by decide +kernel
theorem dX6_weighRule_42 : decode cX6_weighRule 42 = .ok (.iaload, 1) := by decide +kernel
theorem dX6_weighRule_43 : decode cX6_weighRule 43 = .ok (.iand, 1) := by decide +kernel
theorem dX6_weighRule_44 : decode cX6_weighRule 44 = .ok (.ifCond .ne 14, 3) := by decide +kernel
theorem dX6_weighRule_47 : decode cX6_weighRule 47 = .ok (.iload_n 3, 1) := by decide +kernel
theorem dX6_weighRule_48 : decode cX6_weighRule 48 = .ok (.aload_n 0, 1) := by decide +kernel
theorem dX6_weighRule_49 : decode cX6_weighRule 49 = .ok (.getfield 9, 3) := by decide +kernel
theorem dX6_weighRule_52 : decode cX6_weighRule 52 = .ok (.iconst 2, 1) := by decide +kernel
theorem dX6_weighRule_53 : decode cX6_weighRule 53 = .ok (.iaload, 1) := by decide +kernel
theorem dX6_weighRule_54 : decode cX6_weighRule 54 = .ok (.iand, 1) := by decide +kernel
theorem dX6_weighRule_55 : decode cX6_weighRule 55 = .ok (.ifCond .eq 13, 3) := by decide +kernel
theorem dX6_weighRule_58 : decode cX6_weighRule 58 = .ok (.aload_n 0, 1) := by decide +kernel
theorem dX6_weighRule_59 : decode cX6_weighRule 59 = .ok (.dup, 1) := by decide +kernel
theorem dX6_weighRule_60 : decode cX6_weighRule 60 = .ok (.getfield 40, 3) := by decide +kernel
theorem dX6_weighRule_63 : decode cX6_weighRule 63 = .ok (.iload_n 1, 1) := by decide +kernel
theorem dX6_weighRule_64 : decode cX6_weighRule 64 = .ok (.ior, 1) := by decide +kernel
theorem dX6_weighRule_65 : decode cX6_weighRule 65 = .ok (.putfield 40, 3) := by decide +kernel
theorem dX6_weighRule_68 : decode cX6_weighRule 68 = .ok (.iload_n 2, 1) := by decide +kernel
theorem dX6_weighRule_69 : decode cX6_weighRule 69 = .ok (.aload_n 0, 1) := by decide +kernel
theorem dX6_weighRule_70 : decode cX6_weighRule 70 = .ok (.getfield 9, 3) := by decide +kernel
theorem dX6_weighRule_73 : decode cX6_weighRule 73 = .ok (.iconst 0, 1) := by decide +kernel
theorem dX6_weighRule_74 : decode cX6_weighRule 74 = .ok (.iaload, 1) := by decide +kernel
theorem dX6_weighRule_75 : decode cX6_weighRule 75 = .ok (.iconst (-1), 1) := by decide +kernel
theorem dX6_weighRule_76 : decode cX6_weighRule 76 = .ok (.ixor, 1) := by decide +kernel
theorem dX6_weighRule_77 : decode cX6_weighRule 77 = .ok (.iand, 1) := by decide +kernel
theorem dX6_weighRule_78 : decode cX6_weighRule 78 = .ok (.ifCond .ne 13, 3) := by decide +kernel
theorem dX6_weighRule_81 : decode cX6_weighRule 81 = .ok (.aload_n 0, 1) := by decide +kernel
theorem dX6_weighRule_82 : decode cX6_weighRule 82 = .ok (.dup, 1) := by decide +kernel
theorem dX6_weighRule_83 : decode cX6_weighRule 83 = .ok (.getfield 43, 3) := by decide +kernel
theorem dX6_weighRule_86 : decode cX6_weighRule 86 = .ok (.iload_n 1, 1) := by decide +kernel
theorem dX6_weighRule_87 : decode cX6_weighRule 87 = .ok (.ior, 1) := by decide +kernel
theorem dX6_weighRule_88 : decode cX6_weighRule 88 = .ok (.putfield 43, 3) := by decide +kernel
theorem dX6_weighRule_91 : decode cX6_weighRule 91 = .ok (.iload_n 2, 1) := by decide +kernel
theorem dX6_weighRule_92 : decode cX6_weighRule 92 = .ok (.aload_n 0, 1) := by decide +kernel
theorem dX6_weighRule_93 : decode cX6_weighRule 93 = .ok (.getfield 9, 3) := by decide +kernel
theorem dX6_weighRule_96 : decode cX6_weighRule 96 = .ok (.iconst 1, 1) := by decide +kernel
theorem dX6_weighRule_97 : decode cX6_weighRule 97 = .ok (.iaload, 1) := by decide +kernel
theorem dX6_weighRule_98 : decode cX6_weighRule 98 = .ok (.iand, 1) := by decide +kernel
theorem dX6_weighRule_99 : decode cX6_weighRule 99 = .ok (.ifCond .eq 13, 3) := by decide +kernel
theorem dX6_weighRule_102 : decode cX6_weighRule 102 = .ok (.aload_n 0, 1) := by decide +kernel
theorem dX6_weighRule_103 : decode cX6_weighRule 103 = .ok (.dup, 1) := by decide +kernel
theorem dX6_weighRule_104 : decode cX6_weighRule 104 = .ok (.getfield 46, 3) := by decide +kernel
theorem dX6_weighRule_107 : decode cX6_weighRule 107 = .ok (.iload_n 1, 1) := by decide +kernel
theorem dX6_weighRule_108 : decode cX6_weighRule 108 = .ok (.ior, 1) := by decide +kernel
theorem dX6_weighRule_109 : decode cX6_weighRule 109 = .ok (.putfield 46, 3) := by decide +kernel
theorem dX6_weighRule_112 : decode cX6_weighRule 112 = .ok (.return_, 1) := by decide +kernel
set_option maxRecDepth 20000 in
theorem ggX6_brings_X6_sureOnes : GoodIn wsX6_brings wsX6_sureOnes := goodIn_r _ [7, 8, 9, 10, 54, 55, 56, 57, 58, 59, 60, 61, 62, 63, 64, 65] (by decide +kernel) (by decide +kernel)
set_option maxRecDepth 20000 in
theorem gX6_brings_X6_sureOnes : GoodIn wsX6_brings (wsV RX6 91 RX6 yX6_sureOnes wsX6_sureOnes) := goodIn_app (goodIn_of _ (by decide +kernel)) ggX6_brings_X6_sureOnes
set_option maxRecDepth 20000 in
theorem ggX6_brings_X6_neverOnes : GoodIn wsX6_brings wsX6_neverOnes := goodIn_r _ [14, 8, 9, 15, 16, 17, 18, 54, 55, 56, 57, 58, 59, 60, 61, 62, 63, 64, 65] (by decide +kernel) (by decide +kernel)
set_option maxRecDepth 20000 in
theorem gX6_brings_X6_neverOnes : GoodIn wsX6_brings (wsV RX6 95 RX6 yX6_neverOnes wsX6_neverOnes) := goodIn_app (goodIn_of _ (by decide +kernel)) ggX6_brings_X6_neverOnes
set_option maxRecDepth 20000 in
theorem ggX6_brings_X6_likelyOnes : GoodIn wsX6_brings wsX6_likelyOnes := goodIn_r _ [22, 2, 23, 24, 25, 6, 26, 27, 28, 29, 17, 30, 16, 18, 31, 32, 33, 34, 35, 36, 37, 38, 39, 40, 41, 54, 55, 56, 57, 58, 59, 60, 61, 62, 63, 64, 65] (by decide +kernel) (by decide +kernel)
set_option maxRecDepth 20000 in
theorem gX6_brings_X6_likelyOnes : GoodIn wsX6_brings (wsV RX6 98 RX6 yX6_likelyOnes wsX6_likelyOnes) := goodIn_app (goodIn_of _ (by decide +kernel)) ggX6_brings_X6_likelyOnes
set_option maxRecDepth 20000 in
theorem ggX6_brings_X6_unlikelyOnes : GoodIn wsX6_brings wsX6_unlikelyOnes := goodIn_r _ [45, 2, 46, 47, 48, 6, 49, 27, 36, 29, 17, 30, 16, 18, 50, 51, 52, 53, 35, 28, 37, 38, 39, 40, 41, 54, 55, 56, 57, 58, 59, 60, 61, 62, 63, 64, 65] (by decide +kernel) (by decide +kernel)
set_option maxRecDepth 20000 in
theorem gX6_brings_X6_unlikelyOnes : GoodIn wsX6_brings (wsV RX6 101 RX6 yX6_unlikelyOnes wsX6_unlikelyOnes) := goodIn_app (goodIn_of _ (by decide +kernel)) ggX6_brings_X6_unlikelyOnes
theorem dX6_brings_0 : decode cX6_brings 0 = .ok (.aload_n 0, 1) := by decide +kernel
theorem dX6_brings_1 : decode cX6_brings 1 = .ok (.getfield 15, 3) := by decide +kernel
theorem dX6_brings_4 : decode cX6_brings 4 = .ok (.iconst 0, 1) := by decide +kernel
theorem dX6_brings_5 : decode cX6_brings 5 = .ok (.aload_n 0, 1) := by decide +kernel
theorem dX6_brings_6 : decode cX6_brings 6 = .ok (.invokevirtual 91, 3) := by decide +kernel
theorem dX6_brings_9 : decode cX6_brings 9 = .ok (.aload_n 0, 1) := by decide +kernel
theorem dX6_brings_10 : decode cX6_brings 10 = .ok (.getfield 9, 3) := by decide +kernel
theorem dX6_brings_13 : decode cX6_brings 13 = .ok (.iconst 0, 1) := by decide +kernel
theorem dX6_brings_14 : decode cX6_brings 14 = .ok (.iaload, 1) := by decide +kernel
theorem dX6_brings_15 : decode cX6_brings 15 = .ok (.iconst (-1), 1) := by decide +kernel
theorem dX6_brings_16 : decode cX6_brings 16 = .ok (.ixor, 1) := by decide +kernel
theorem dX6_brings_17 : decode cX6_brings 17 = .ok (.iand, 1) := by decide +kernel
theorem dX6_brings_18 : decode cX6_brings 18 = .ok (.iastore, 1) := by decide +kernel
theorem dX6_brings_19 : decode cX6_brings 19 = .ok (.aload_n 0, 1) := by decide +kernel
theorem dX6_brings_20 : decode cX6_brings 20 = .ok (.getfield 15, 3) := by decide +kernel
theorem dX6_brings_23 : decode cX6_brings 23 = .ok (.iconst 1, 1) := by decide +kernel
theorem dX6_brings_24 : decode cX6_brings 24 = .ok (.aload_n 0, 1) := by decide +kernel
theorem dX6_brings_25 : decode cX6_brings 25 = .ok (.invokevirtual 95, 3) := by decide +kernel
theorem dX6_brings_28 : decode cX6_brings 28 = .ok (.aload_n 0, 1) := by decide +kernel
theorem dX6_brings_29 : decode cX6_brings 29 = .ok (.getfield 9, 3) := by decide +kernel
theorem dX6_brings_32 : decode cX6_brings 32 = .ok (.iconst 1, 1) := by decide +kernel
theorem dX6_brings_33 : decode cX6_brings 33 = .ok (.iaload, 1) := by decide +kernel
theorem dX6_brings_34 : decode cX6_brings 34 = .ok (.iconst (-1), 1) := by decide +kernel
theorem dX6_brings_35 : decode cX6_brings 35 = .ok (.ixor, 1) := by decide +kernel
theorem dX6_brings_36 : decode cX6_brings 36 = .ok (.iand, 1) := by decide +kernel
theorem dX6_brings_37 : decode cX6_brings 37 = .ok (.iastore, 1) := by decide +kernel
theorem dX6_brings_38 : decode cX6_brings 38 = .ok (.aload_n 0, 1) := by decide +kernel
theorem dX6_brings_39 : decode cX6_brings 39 = .ok (.getfield 15, 3) := by decide +kernel
theorem dX6_brings_42 : decode cX6_brings 42 = .ok (.iconst 2, 1) := by decide +kernel
theorem dX6_brings_43 : decode cX6_brings 43 = .ok (.aload_n 0, 1) := by decide +kernel
theorem dX6_brings_44 : decode cX6_brings 44 = .ok (.invokevirtual 98, 3) := by decide +kernel
theorem dX6_brings_47 : decode cX6_brings 47 = .ok (.aload_n 0, 1) := by decide +kernel
theorem dX6_brings_48 : decode cX6_brings 48 = .ok (.getfield 9, 3) := by decide +kernel
theorem dX6_brings_51 : decode cX6_brings 51 = .ok (.iconst 2, 1) := by decide +kernel
theorem dX6_brings_52 : decode cX6_brings 52 = .ok (.iaload, 1) := by decide +kernel
theorem dX6_brings_53 : decode cX6_brings 53 = .ok (.iconst (-1), 1) := by decide +kernel
theorem dX6_brings_54 : decode cX6_brings 54 = .ok (.ixor, 1) := by decide +kernel
theorem dX6_brings_55 : decode cX6_brings 55 = .ok (.iand, 1) := by decide +kernel
theorem dX6_brings_56 : decode cX6_brings 56 = .ok (.iastore, 1) := by decide +kernel
theorem dX6_brings_57 : decode cX6_brings 57 = .ok (.aload_n 0, 1) := by decide +kernel
theorem dX6_brings_58 : decode cX6_brings 58 = .ok (.getfield 15, 3) := by decide +kernel
theorem dX6_brings_61 : decode cX6_brings 61 = .ok (.iconst 3, 1) := by decide +kernel
theorem dX6_brings_62 : decode cX6_brings 62 = .ok (.aload_n 0, 1) := by decide +kernel
theorem dX6_brings_63 : decode cX6_brings 63 = .ok (.invokevirtual 101, 3) := by decide +kernel
theorem dX6_brings_66 : decode cX6_brings 66 = .ok (.aload_n 0, 1) := by decide +kernel
theorem dX6_brings_67 : decode cX6_brings 67 = .ok (.getfield 9, 3) := by decide +kernel
theorem dX6_brings_70 : decode cX6_brings 70 = .ok (.iconst 3, 1) := by decide +kernel
theorem dX6_brings_71 : decode cX6_brings 71 = .ok (.iaload, 1) := by decide +kernel
theorem dX6_brings_72 : decode cX6_brings 72 = .ok (.iconst (-1), 1) := by decide +kernel
theorem dX6_brings_73 : decode cX6_brings 73 = .ok (.ixor, 1) := by decide +kernel
theorem dX6_brings_74 : decode cX6_brings 74 = .ok (.iand, 1) := by decide +kernel
theorem dX6_brings_75 : decode cX6_brings 75 = .ok (.iastore, 1) := by decide +kernel
theorem dX6_brings_76 : decode cX6_brings 76 = .ok (.aload_n 0, 1) := by decide +kernel
theorem dX6_brings_77 : decode cX6_brings 77 = .ok (.getfield 15, 3) := by decide +kernel
theorem dX6_brings_80 : decode cX6_brings 80 = .ok (.iconst 0, 1) := by decide +kernel
theorem dX6_brings_81 : decode cX6_brings 81 = .ok (.iaload, 1) := by decide +kernel
theorem dX6_brings_82 : decode cX6_brings 82 = .ok (.aload_n 0, 1) := by decide +kernel
theorem dX6_brings_83 : decode cX6_brings 83 = .ok (.getfield 15, 3) := by decide +kernel
theorem dX6_brings_86 : decode cX6_brings 86 = .ok (.iconst 1, 1) := by decide +kernel
theorem dX6_brings_87 : decode cX6_brings 87 = .ok (.iaload, 1) := by decide +kernel
theorem dX6_brings_88 : decode cX6_brings 88 = .ok (.ior, 1) := by decide +kernel
theorem dX6_brings_89 : decode cX6_brings 89 = .ok (.aload_n 0, 1) := by decide +kernel
theorem dX6_brings_90 : decode cX6_brings 90 = .ok (.getfield 15, 3) := by decide +kernel
theorem dX6_brings_93 : decode cX6_brings 93 = .ok (.iconst 2, 1) := by decide +kernel
theorem dX6_brings_94 : decode cX6_brings 94 = .ok (.iaload, 1) := by decide +kernel
theorem dX6_brings_95 : decode cX6_brings 95 = .ok (.ior, 1) := by decide +kernel
theorem dX6_brings_96 : decode cX6_brings 96 = .ok (.aload_n 0, 1) := by decide +kernel
theorem dX6_brings_97 : decode cX6_brings 97 = .ok (.getfield 15, 3) := by decide +kernel
theorem dX6_brings_100 : decode cX6_brings 100 = .ok (.iconst 3, 1) := by decide +kernel
theorem dX6_brings_101 : decode cX6_brings 101 = .ok (.iaload, 1) := by decide +kernel
theorem dX6_brings_102 : decode cX6_brings 102 = .ok (.ior, 1) := by decide +kernel
theorem dX6_brings_103 : decode cX6_brings 103 = .ok (.ifCond .eq 7, 3) := by decide +kernel
theorem dX6_brings_106 : decode cX6_brings 106 = .ok (.iconst 1, 1) := by decide +kernel
theorem dX6_brings_107 : decode cX6_brings 107 = .ok (.goto 4, 3) := by decide +kernel
theorem dX6_brings_110 : decode cX6_brings 110 = .ok (.iconst 0, 1) := by decide +kernel
theorem dX6_brings_111 : decode cX6_brings 111 = .ok (.ireturn, 1) := by decide +kernel
theorem dX6_sureOnes_0 : decode cX6_sureOnes 0 = .ok (.aload_n 0, 1) := by decide +kernel
theorem dX6_sureOnes_1 : decode cX6_sureOnes 1 = .ok (.getfield 33, 3) := by decide +kernel
theorem dX6_sureOnes_4 : decode cX6_sureOnes 4 = .ok (.istore_n 1, 1) := by decide +kernel
theorem dX6_sureOnes_5 : decode cX6_sureOnes 5 = .ok (.iconst 0, 1) := by decide +kernel
theorem dX6_sureOnes_6 : decode cX6_sureOnes 6 = .ok (.istore_n 2, 1) := by decide +kernel
theorem dX6_sureOnes_7 : decode cX6_sureOnes 7 = .ok (.iload_n 2, 1) := by decide +kernel
theorem dX6_sureOnes_8 : decode cX6_sureOnes 8 = .ok (.bipush 20, 2) := by decide +kernel
theorem dX6_sureOnes_10 : decode cX6_sureOnes 10 = .ok (.if_icmp .ge 29, 3) := by decide +kernel
theorem dX6_sureOnes_13 : decode cX6_sureOnes 13 = .ok (.aload_n 0, 1) := by decide +kernel
theorem dX6_sureOnes_14 : decode cX6_sureOnes 14 = .ok (.getfield 18, 3) := by decide +kernel
theorem dX6_sureOnes_17 : decode cX6_sureOnes 17 = .ok (.iload_n 2, 1) := by decide +kernel
theorem dX6_sureOnes_18 : decode cX6_sureOnes 18 = .ok (.iaload, 1) := by decide +kernel
theorem dX6_sureOnes_19 : decode cX6_sureOnes 19 = .ok (.aload_n 0, 1) := by decide +kernel
theorem dX6_sureOnes_20 : decode cX6_sureOnes 20 = .ok (.getfield 43, 3) := by decide +kernel
theorem dX6_sureOnes_23 : decode cX6_sureOnes 23 = .ok (.iand, 1) := by decide +kernel
theorem dX6_sureOnes_24 : decode cX6_sureOnes 24 = .ok (.ifCond .eq 9, 3) := by decide +kernel
theorem dX6_sureOnes_27 : decode cX6_sureOnes 27 = .ok (.iload_n 1, 1) := by decide +kernel
theorem dX6_sureOnes_28 : decode cX6_sureOnes 28 = .ok (.iconst 1, 1) := by decide +kernel
theorem dX6_sureOnes_29 : decode cX6_sureOnes 29 = .ok (.iload_n 2, 1) := by decide +kernel
theorem dX6_sureOnes_30 : decode cX6_sureOnes 30 = .ok (.ishl, 1) := by decide +kernel
theorem dX6_sureOnes_31 : decode cX6_sureOnes 31 = .ok (.ior, 1) := by decide +kernel
theorem dX6_sureOnes_32 : decode cX6_sureOnes 32 = .ok (.istore_n 1, 1) := by decide +kernel
theorem dX6_sureOnes_33 : decode cX6_sureOnes 33 = .ok (.iinc 2 1, 3) := by decide +kernel
theorem dX6_sureOnes_36 : decode cX6_sureOnes 36 = .ok (.goto (-29), 3) := by decide +kernel
theorem dX6_sureOnes_39 : decode cX6_sureOnes 39 = .ok (.iload_n 1, 1) := by decide +kernel
theorem dX6_sureOnes_40 : decode cX6_sureOnes 40 = .ok (.ireturn, 1) := by decide +kernel
set_option maxRecDepth 20000 in
theorem ggX6_neverOnes_X8_has : GoodIn wsX6_neverOnes wsX8_has := goodIn_r _ [6] (by decide +kernel) (by decide +kernel)
set_option maxRecDepth 20000 in
theorem gX6_neverOnes_X8_has_n68 : GoodIn wsX6_neverOnes (wsX8_has) := ggX6_neverOnes_X8_has
theorem dX6_neverOnes_0 : decode cX6_neverOnes 0 = .ok (.iconst 0, 1) := by decide +kernel
theorem dX6_neverOnes_1 : decode cX6_neverOnes 1 = .ok (.istore_n 1, 1) := by decide +kernel
theorem dX6_neverOnes_2 : decode cX6_neverOnes 2 = .ok (.iconst 0, 1) := by decide +kernel
theorem dX6_neverOnes_3 : decode cX6_neverOnes 3 = .ok (.istore_n 2, 1) := by decide +kernel
theorem dX6_neverOnes_4 : decode cX6_neverOnes 4 = .ok (.iload_n 2, 1) := by decide +kernel
theorem dX6_neverOnes_5 : decode cX6_neverOnes 5 = .ok (.bipush 20, 2) := by decide +kernel
theorem dX6_neverOnes_7 : decode cX6_neverOnes 7 = .ok (.if_icmp .ge 42, 3) := by decide +kernel
theorem dX6_neverOnes_10 : decode cX6_neverOnes 10 = .ok (.aload_n 0, 1) := by decide +kernel
theorem dX6_neverOnes_11 : decode cX6_neverOnes 11 = .ok (.getfield 33, 3) := by decide +kernel
theorem dX6_neverOnes_14 : decode cX6_neverOnes 14 = .ok (.iload_n 2, 1) := by decide +kernel
theorem dX6_neverOnes_15 : decode cX6_neverOnes 15 = .ok (.invokestatic 68, 3) := by decide +kernel
theorem dX6_neverOnes_18 : decode cX6_neverOnes 18 = .ok (.ifCond .ne 25, 3) := by decide +kernel
theorem dX6_neverOnes_21 : decode cX6_neverOnes 21 = .ok (.aload_n 0, 1) := by decide +kernel
theorem dX6_neverOnes_22 : decode cX6_neverOnes 22 = .ok (.getfield 18, 3) := by decide +kernel
theorem dX6_neverOnes_25 : decode cX6_neverOnes 25 = .ok (.iload_n 2, 1) := by decide +kernel
theorem dX6_neverOnes_26 : decode cX6_neverOnes 26 = .ok (.iaload, 1) := by decide +kernel
theorem dX6_neverOnes_27 : decode cX6_neverOnes 27 = .ok (.aload_n 0, 1) := by decide +kernel
theorem dX6_neverOnes_28 : decode cX6_neverOnes 28 = .ok (.getfield 46, 3) := by decide +kernel
theorem dX6_neverOnes_31 : decode cX6_neverOnes 31 = .ok (.iconst (-1), 1) := by decide +kernel
theorem dX6_neverOnes_32 : decode cX6_neverOnes 32 = .ok (.ixor, 1) := by decide +kernel
theorem dX6_neverOnes_33 : decode cX6_neverOnes 33 = .ok (.iand, 1) := by decide +kernel
theorem dX6_neverOnes_34 : decode cX6_neverOnes 34 = .ok (.ifCond .ne 9, 3) := by decide +kernel
theorem dX6_neverOnes_37 : decode cX6_neverOnes 37 = .ok (.iload_n 1, 1) := by decide +kernel
theorem dX6_neverOnes_38 : decode cX6_neverOnes 38 = .ok (.iconst 1, 1) := by decide +kernel
theorem dX6_neverOnes_39 : decode cX6_neverOnes 39 = .ok (.iload_n 2, 1) := by decide +kernel
theorem dX6_neverOnes_40 : decode cX6_neverOnes 40 = .ok (.ishl, 1) := by decide +kernel
theorem dX6_neverOnes_41 : decode cX6_neverOnes 41 = .ok (.ior, 1) := by decide +kernel
theorem dX6_neverOnes_42 : decode cX6_neverOnes 42 = .ok (.istore_n 1, 1) := by decide +kernel
theorem dX6_neverOnes_43 : decode cX6_neverOnes 43 = .ok (.iinc 2 1, 3) := by decide +kernel
theorem dX6_neverOnes_46 : decode cX6_neverOnes 46 = .ok (.goto (-42), 3) := by decide +kernel
theorem dX6_neverOnes_49 : decode cX6_neverOnes 49 = .ok (.iload_n 1, 1) := by decide +kernel
theorem dX6_neverOnes_50 : decode cX6_neverOnes 50 = .ok (.ireturn, 1) := by decide +kernel
set_option maxRecDepth 20000 in
theorem ggX6_likelyOnes_X6_team : GoodIn wsX6_likelyOnes wsX6_team := goodIn_r _ [6, 7, 8, 25, 26, 27, 28, 29, 30, 31, 32, 33, 34, 35, 36] (by decide +kernel) (by decide +kernel)
set_option maxRecDepth 20000 in
theorem gX6_likelyOnes_X6_team : GoodIn wsX6_likelyOnes (wsV RX6 104 RX6 yX6_team wsX6_team) := goodIn_app (goodIn_of _ (by decide +kernel)) ggX6_likelyOnes_X6_team
set_option maxRecDepth 20000 in
theorem ggX6_likelyOnes_X8_otherOf : GoodIn wsX6_likelyOnes wsX8_otherOf := goodIn_r _ [11] (by decide +kernel) (by decide +kernel)
set_option maxRecDepth 20000 in
theorem gX6_likelyOnes_X8_otherOf_n107 : GoodIn wsX6_likelyOnes (wsX8_otherOf) := ggX6_likelyOnes_X8_otherOf
set_option maxRecDepth 20000 in
theorem ggX6_likelyOnes_X8_has : GoodIn wsX6_likelyOnes wsX8_has := goodIn_r _ [13] (by decide +kernel) (by decide +kernel)
set_option maxRecDepth 20000 in
theorem gX6_likelyOnes_X8_has_n68 : GoodIn wsX6_likelyOnes (wsX8_has) := ggX6_likelyOnes_X8_has
set_option maxRecDepth 20000 in
theorem ggX6_likelyOnes_X6_threats : GoodIn wsX6_likelyOnes wsX6_threats := goodIn_r _ [17, 18, 19, 9, 10, 11, 2, 3, 4, 5, 6, 7, 8, 20, 21, 22, 23, 24, 25, 26, 27, 28, 29, 30, 31, 32, 33, 34, 35, 36] (by decide +kernel) (by decide +kernel)
set_option maxRecDepth 20000 in
theorem gX6_likelyOnes_X6_threats : GoodIn wsX6_likelyOnes (wsV RX6 110 RX6 yX6_threats wsX6_threats) := goodIn_app (goodIn_of _ (by decide +kernel)) ggX6_likelyOnes_X6_threats
theorem dX6_likelyOnes_0 : decode cX6_likelyOnes 0 = .ok (.aload_n 0, 1) := by decide +kernel
theorem dX6_likelyOnes_1 : decode cX6_likelyOnes 1 = .ok (.getfield 9, 3) := by decide +kernel
theorem dX6_likelyOnes_4 : decode cX6_likelyOnes 4 = .ok (.iconst 0, 1) := by decide +kernel
theorem dX6_likelyOnes_5 : decode cX6_likelyOnes 5 = .ok (.iaload, 1) := by decide +kernel
theorem dX6_likelyOnes_6 : decode cX6_likelyOnes 6 = .ok (.istore_n 1, 1) := by decide +kernel
theorem dX6_likelyOnes_7 : decode cX6_likelyOnes 7 = .ok (.iconst 0, 1) := by decide +kernel
theorem dX6_likelyOnes_8 : decode cX6_likelyOnes 8 = .ok (.istore_n 2, 1) := by decide +kernel
theorem dX6_likelyOnes_9 : decode cX6_likelyOnes 9 = .ok (.iload_n 2, 1) := by decide +kernel
theorem dX6_likelyOnes_10 : decode cX6_likelyOnes 10 = .ok (.bipush 20, 2) := by decide +kernel
theorem dX6_likelyOnes_12 : decode cX6_likelyOnes 12 = .ok (.if_icmp .ge 47, 3) := by decide +kernel
theorem dX6_likelyOnes_15 : decode cX6_likelyOnes 15 = .ok (.aload_n 0, 1) := by decide +kernel
theorem dX6_likelyOnes_16 : decode cX6_likelyOnes 16 = .ok (.iload_n 2, 1) := by decide +kernel
theorem dX6_likelyOnes_17 : decode cX6_likelyOnes 17 = .ok (.invokevirtual 104, 3) := by decide +kernel
theorem dX6_likelyOnes_20 : decode cX6_likelyOnes 20 = .ok (.ifCond .eq 33, 3) := by decide +kernel
theorem dX6_likelyOnes_23 : decode cX6_likelyOnes 23 = .ok (.aload_n 0, 1) := by decide +kernel
theorem dX6_likelyOnes_24 : decode cX6_likelyOnes 24 = .ok (.getfield 9, 3) := by decide +kernel
theorem dX6_likelyOnes_27 : decode cX6_likelyOnes 27 = .ok (.iconst 1, 1) := by decide +kernel
theorem dX6_likelyOnes_28 : decode cX6_likelyOnes 28 = .ok (.iaload, 1) := by decide +kernel
theorem dX6_likelyOnes_29 : decode cX6_likelyOnes 29 = .ok (.iload_n 2, 1) := by decide +kernel
theorem dX6_likelyOnes_30 : decode cX6_likelyOnes 30 = .ok (.invokestatic 107, 3) := by decide +kernel
theorem dX6_likelyOnes_33 : decode cX6_likelyOnes 33 = .ok (.invokestatic 68, 3) := by decide +kernel
theorem dX6_likelyOnes_36 : decode cX6_likelyOnes 36 = .ok (.ifCond .eq 17, 3) := by decide +kernel
theorem dX6_likelyOnes_39 : decode cX6_likelyOnes 39 = .ok (.aload_n 0, 1) := by decide +kernel
theorem dX6_likelyOnes_40 : decode cX6_likelyOnes 40 = .ok (.iload_n 2, 1) := by decide +kernel
theorem dX6_likelyOnes_41 : decode cX6_likelyOnes 41 = .ok (.invokevirtual 110, 3) := by decide +kernel
theorem dX6_likelyOnes_44 : decode cX6_likelyOnes 44 = .ok (.ifCond .ne 9, 3) := by decide +kernel
theorem dX6_likelyOnes_47 : decode cX6_likelyOnes 47 = .ok (.iload_n 1, 1) := by decide +kernel
theorem dX6_likelyOnes_48 : decode cX6_likelyOnes 48 = .ok (.iconst 1, 1) := by decide +kernel
theorem dX6_likelyOnes_49 : decode cX6_likelyOnes 49 = .ok (.iload_n 2, 1) := by decide +kernel
theorem dX6_likelyOnes_50 : decode cX6_likelyOnes 50 = .ok (.ishl, 1) := by decide +kernel
theorem dX6_likelyOnes_51 : decode cX6_likelyOnes 51 = .ok (.ior, 1) := by decide +kernel
theorem dX6_likelyOnes_52 : decode cX6_likelyOnes 52 = .ok (.istore_n 1, 1) := by decide +kernel
theorem dX6_likelyOnes_53 : decode cX6_likelyOnes 53 = .ok (.iinc 2 1, 3) := by decide +kernel
theorem dX6_likelyOnes_56 : decode cX6_likelyOnes 56 = .ok (.goto (-47), 3) := by decide +kernel
theorem dX6_likelyOnes_59 : decode cX6_likelyOnes 59 = .ok (.iload_n 1, 1) := by decide +kernel
theorem dX6_likelyOnes_60 : decode cX6_likelyOnes 60 = .ok (.ireturn, 1) := by decide +kernel
set_option maxRecDepth 20000 in
theorem ggX6_unlikelyOnes_X6_unfallen : GoodIn wsX6_unlikelyOnes wsX6_unfallen := goodIn_r _ [6, 7, 8, 25, 26, 27, 28, 29, 30, 31, 32, 33, 34, 35, 36] (by decide +kernel) (by decide +kernel)
set_option maxRecDepth 20000 in
theorem gX6_unlikelyOnes_X6_unfallen : GoodIn wsX6_unlikelyOnes (wsV RX6 113 RX6 yX6_unfallen wsX6_unfallen) := goodIn_app (goodIn_of _ (by decide +kernel)) ggX6_unlikelyOnes_X6_unfallen
set_option maxRecDepth 20000 in
theorem ggX6_unlikelyOnes_X8_otherOf : GoodIn wsX6_unlikelyOnes wsX8_otherOf := goodIn_r _ [11] (by decide +kernel) (by decide +kernel)
set_option maxRecDepth 20000 in
theorem gX6_unlikelyOnes_X8_otherOf_n107 : GoodIn wsX6_unlikelyOnes (wsX8_otherOf) := ggX6_unlikelyOnes_X8_otherOf
set_option maxRecDepth 20000 in
theorem ggX6_unlikelyOnes_X8_has : GoodIn wsX6_unlikelyOnes wsX8_has := goodIn_r _ [13] (by decide +kernel) (by decide +kernel)
set_option maxRecDepth 20000 in
theorem gX6_unlikelyOnes_X8_has_n68 : GoodIn wsX6_unlikelyOnes (wsX8_has) := ggX6_unlikelyOnes_X8_has
set_option maxRecDepth 20000 in
theorem ggX6_unlikelyOnes_X6_victors : GoodIn wsX6_unlikelyOnes wsX6_victors := goodIn_r _ [17, 18, 19, 9, 10, 11, 2, 3, 4, 5, 6, 7, 8, 20, 21, 22, 23, 24, 25, 26, 27, 28, 29, 30, 31, 32, 33, 34, 35, 36] (by decide +kernel) (by decide +kernel)
set_option maxRecDepth 20000 in
theorem gX6_unlikelyOnes_X6_victors : GoodIn wsX6_unlikelyOnes (wsV RX6 116 RX6 yX6_victors wsX6_victors) := goodIn_app (goodIn_of _ (by decide +kernel)) ggX6_unlikelyOnes_X6_victors
theorem dX6_unlikelyOnes_0 : decode cX6_unlikelyOnes 0 = .ok (.iconst 0, 1) := by decide +kernel
theorem dX6_unlikelyOnes_1 : decode cX6_unlikelyOnes 1 = .ok (.istore_n 1, 1) := by decide +kernel
theorem dX6_unlikelyOnes_2 : decode cX6_unlikelyOnes 2 = .ok (.iconst 0, 1) := by decide +kernel
theorem dX6_unlikelyOnes_3 : decode cX6_unlikelyOnes 3 = .ok (.istore_n 2, 1) := by decide +kernel
theorem dX6_unlikelyOnes_4 : decode cX6_unlikelyOnes 4 = .ok (.iload_n 2, 1) := by decide +kernel
theorem dX6_unlikelyOnes_5 : decode cX6_unlikelyOnes 5 = .ok (.bipush 20, 2) := by decide +kernel
theorem dX6_unlikelyOnes_7 : decode cX6_unlikelyOnes 7 = .ok (.if_icmp .ge 47, 3) := by decide +kernel
theorem dX6_unlikelyOnes_10 : decode cX6_unlikelyOnes 10 = .ok (.aload_n 0, 1) := by decide +kernel
theorem dX6_unlikelyOnes_11 : decode cX6_unlikelyOnes 11 = .ok (.iload_n 2, 1) := by decide +kernel
theorem dX6_unlikelyOnes_12 : decode cX6_unlikelyOnes 12 = .ok (.invokevirtual 113, 3) := by decide +kernel
theorem dX6_unlikelyOnes_15 : decode cX6_unlikelyOnes 15 = .ok (.ifCond .eq 27, 3) := by decide +kernel
theorem dX6_unlikelyOnes_18 : decode cX6_unlikelyOnes 18 = .ok (.aload_n 0, 1) := by decide +kernel
theorem dX6_unlikelyOnes_19 : decode cX6_unlikelyOnes 19 = .ok (.getfield 9, 3) := by decide +kernel
theorem dX6_unlikelyOnes_22 : decode cX6_unlikelyOnes 22 = .ok (.iconst 0, 1) := by decide +kernel
theorem dX6_unlikelyOnes_23 : decode cX6_unlikelyOnes 23 = .ok (.iaload, 1) := by decide +kernel
theorem dX6_unlikelyOnes_24 : decode cX6_unlikelyOnes 24 = .ok (.iload_n 2, 1) := by decide +kernel
theorem dX6_unlikelyOnes_25 : decode cX6_unlikelyOnes 25 = .ok (.invokestatic 107, 3) := by decide +kernel
theorem dX6_unlikelyOnes_28 : decode cX6_unlikelyOnes 28 = .ok (.invokestatic 68, 3) := by decide +kernel
theorem dX6_unlikelyOnes_31 : decode cX6_unlikelyOnes 31 = .ok (.ifCond .ne 11, 3) := by decide +kernel
theorem dX6_unlikelyOnes_34 : decode cX6_unlikelyOnes 34 = .ok (.aload_n 0, 1) := by decide +kernel
theorem dX6_unlikelyOnes_35 : decode cX6_unlikelyOnes 35 = .ok (.iload_n 2, 1) := by decide +kernel
theorem dX6_unlikelyOnes_36 : decode cX6_unlikelyOnes 36 = .ok (.invokevirtual 116, 3) := by decide +kernel
theorem dX6_unlikelyOnes_39 : decode cX6_unlikelyOnes 39 = .ok (.ifCond .eq 9, 3) := by decide +kernel
theorem dX6_unlikelyOnes_42 : decode cX6_unlikelyOnes 42 = .ok (.iload_n 1, 1) := by decide +kernel
theorem dX6_unlikelyOnes_43 : decode cX6_unlikelyOnes 43 = .ok (.iconst 1, 1) := by decide +kernel
theorem dX6_unlikelyOnes_44 : decode cX6_unlikelyOnes 44 = .ok (.iload_n 2, 1) := by decide +kernel
theorem dX6_unlikelyOnes_45 : decode cX6_unlikelyOnes 45 = .ok (.ishl, 1) := by decide +kernel
theorem dX6_unlikelyOnes_46 : decode cX6_unlikelyOnes 46 = .ok (.ior, 1) := by decide +kernel
theorem dX6_unlikelyOnes_47 : decode cX6_unlikelyOnes 47 = .ok (.istore_n 1, 1) := by decide +kernel
theorem dX6_unlikelyOnes_48 : decode cX6_unlikelyOnes 48 = .ok (.iinc 2 1, 3) := by decide +kernel
theorem dX6_unlikelyOnes_51 : decode cX6_unlikelyOnes 51 = .ok (.goto (-47), 3) := by decide +kernel
theorem dX6_unlikelyOnes_54 : decode cX6_unlikelyOnes 54 = .ok (.iload_n 1, 1) := by decide +kernel
theorem dX6_unlikelyOnes_55 : decode cX6_unlikelyOnes 55 = .ok (.aload_n 0, 1) := by decide +kernel
theorem dX6_unlikelyOnes_56 : decode cX6_unlikelyOnes 56 = .ok (.getfield 9, 3) := by decide +kernel
theorem dX6_unlikelyOnes_59 : decode cX6_unlikelyOnes 59 = .ok (.iconst 1, 1) := by decide +kernel
theorem dX6_unlikelyOnes_60 : decode cX6_unlikelyOnes 60 = .ok (.iaload, 1) := by decide +kernel
theorem dX6_unlikelyOnes_61 : decode cX6_unlikelyOnes 61 = .ok (.iand, 1) := by decide +kernel
theorem dX6_unlikelyOnes_62 : decode cX6_unlikelyOnes 62 = .ok (.ireturn, 1) := by decide +kernel
theorem dX6_team_0 : decode cX6_team 0 = .ok (.aload_n 0, 1) := by decide +kernel
theorem dX6_team_1 : decode cX6_team 1 = .ok (.getfield 21, 3) := by decide +kernel
theorem dX6_team_4 : decode cX6_team 4 = .ok (.iload_n 1, 1) := by decide +kernel
theorem dX6_team_5 : decode cX6_team 5 = .ok (.iaload, 1) := by decide +kernel
theorem dX6_team_6 : decode cX6_team 6 = .ok (.aload_n 0, 1) := by decide +kernel
theorem dX6_team_7 : decode cX6_team 7 = .ok (.getfield 37, 3) := by decide +kernel
theorem dX6_team_10 : decode cX6_team 10 = .ok (.iand, 1) := by decide +kernel
theorem dX6_team_11 : decode cX6_team 11 = .ok (.ireturn, 1) := by decide +kernel
set_option maxRecDepth 20000 in
theorem ggX6_threats_X8_otherOf : GoodIn wsX6_threats wsX8_otherOf := goodIn_r _ [5] (by decide +kernel) (by decide +kernel)
set_option maxRecDepth 20000 in
theorem gX6_threats_X8_otherOf_n107 : GoodIn wsX6_threats (wsX8_otherOf) := ggX6_threats_X8_otherOf
set_option maxRecDepth 20000 in
theorem ggX6_threats_X6_team : GoodIn wsX6_threats wsX6_team := goodIn_r _ [10, 11, 12, 18, 19, 20, 21, 22, 23, 24, 25, 26, 27, 28, 29] (by decide +kernel) (by decide +kernel)
set_option maxRecDepth 20000 in
theorem gX6_threats_X6_team : GoodIn wsX6_threats (wsV RX6 104 RX6 yX6_team wsX6_team) := goodIn_app (goodIn_of _ (by decide +kernel)) ggX6_threats_X6_team
set_option maxRecDepth 20000 in
theorem ggX6_threats_X6_belowAny : GoodIn wsX6_threats wsX6_belowAny := goodIn_r _ [16, 17, 18, 19, 20, 21, 22, 23, 24, 25, 26, 27, 28, 29] (by decide +kernel) (by decide +kernel)
set_option maxRecDepth 20000 in
theorem gX6_threats_X6_belowAny : GoodIn wsX6_threats (wsV RX6 119 RX6 yX6_belowAny wsX6_belowAny) := goodIn_app (goodIn_of _ (by decide +kernel)) ggX6_threats_X6_belowAny
theorem dX6_threats_0 : decode cX6_threats 0 = .ok (.aload_n 0, 1) := by decide +kernel
theorem dX6_threats_1 : decode cX6_threats 1 = .ok (.getfield 24, 3) := by decide +kernel
theorem dX6_threats_4 : decode cX6_threats 4 = .ok (.iload_n 1, 1) := by decide +kernel
theorem dX6_threats_5 : decode cX6_threats 5 = .ok (.invokestatic 107, 3) := by decide +kernel
theorem dX6_threats_8 : decode cX6_threats 8 = .ok (.iaload, 1) := by decide +kernel
theorem dX6_threats_9 : decode cX6_threats 9 = .ok (.aload_n 0, 1) := by decide +kernel
theorem dX6_threats_10 : decode cX6_threats 10 = .ok (.getfield 40, 3) := by decide +kernel
theorem dX6_threats_13 : decode cX6_threats 13 = .ok (.iconst (-1), 1) := by decide +kernel
theorem dX6_threats_14 : decode cX6_threats 14 = .ok (.ixor, 1) := by decide +kernel
theorem dX6_threats_15 : decode cX6_threats 15 = .ok (.iand, 1) := by decide +kernel
theorem dX6_threats_16 : decode cX6_threats 16 = .ok (.aload_n 0, 1) := by decide +kernel
theorem dX6_threats_17 : decode cX6_threats 17 = .ok (.aload_n 0, 1) := by decide +kernel
theorem dX6_threats_18 : decode cX6_threats 18 = .ok (.iload_n 1, 1) := by decide +kernel
theorem dX6_threats_19 : decode cX6_threats 19 = .ok (.invokevirtual 104, 3) := by decide +kernel
theorem dX6_threats_22 : decode cX6_threats 22 = .ok (.invokevirtual 119, 3) := by decide +kernel
theorem dX6_threats_25 : decode cX6_threats 25 = .ok (.iconst (-1), 1) := by decide +kernel
theorem dX6_threats_26 : decode cX6_threats 26 = .ok (.ixor, 1) := by decide +kernel
theorem dX6_threats_27 : decode cX6_threats 27 = .ok (.iand, 1) := by decide +kernel
theorem dX6_threats_28 : decode cX6_threats 28 = .ok (.ireturn, 1) := by decide +kernel
theorem dX6_unfallen_0 : decode cX6_unfallen 0 = .ok (.aload_n 0, 1) := by decide +kernel
theorem dX6_unfallen_1 : decode cX6_unfallen 1 = .ok (.getfield 21, 3) := by decide +kernel
theorem dX6_unfallen_4 : decode cX6_unfallen 4 = .ok (.iload_n 1, 1) := by decide +kernel
theorem dX6_unfallen_5 : decode cX6_unfallen 5 = .ok (.iaload, 1) := by decide +kernel
theorem dX6_unfallen_6 : decode cX6_unfallen 6 = .ok (.aload_n 0, 1) := by decide +kernel
theorem dX6_unfallen_7 : decode cX6_unfallen 7 = .ok (.getfield 40, 3) := by decide +kernel
theorem dX6_unfallen_10 : decode cX6_unfallen 10 = .ok (.iconst (-1), 1) := by decide +kernel
theorem dX6_unfallen_11 : decode cX6_unfallen 11 = .ok (.ixor, 1) := by decide +kernel
theorem dX6_unfallen_12 : decode cX6_unfallen 12 = .ok (.iand, 1) := by decide +kernel
theorem dX6_unfallen_13 : decode cX6_unfallen 13 = .ok (.ireturn, 1) := by decide +kernel
set_option maxRecDepth 20000 in
theorem ggX6_victors_X8_otherOf : GoodIn wsX6_victors wsX8_otherOf := goodIn_r _ [5] (by decide +kernel) (by decide +kernel)
set_option maxRecDepth 20000 in
theorem gX6_victors_X8_otherOf_n107 : GoodIn wsX6_victors (wsX8_otherOf) := ggX6_victors_X8_otherOf
set_option maxRecDepth 20000 in
theorem ggX6_victors_X6_unfallen : GoodIn wsX6_victors wsX6_unfallen := goodIn_r _ [10, 11, 12, 18, 19, 20, 21, 22, 23, 24, 25, 26, 27, 28, 29] (by decide +kernel) (by decide +kernel)
set_option maxRecDepth 20000 in
theorem gX6_victors_X6_unfallen : GoodIn wsX6_victors (wsV RX6 113 RX6 yX6_unfallen wsX6_unfallen) := goodIn_app (goodIn_of _ (by decide +kernel)) ggX6_victors_X6_unfallen
set_option maxRecDepth 20000 in
theorem ggX6_victors_X6_belowAny : GoodIn wsX6_victors wsX6_belowAny := goodIn_r _ [16, 17, 18, 19, 20, 21, 22, 23, 24, 25, 26, 27, 28, 29] (by decide +kernel) (by decide +kernel)
set_option maxRecDepth 20000 in
theorem gX6_victors_X6_belowAny : GoodIn wsX6_victors (wsV RX6 119 RX6 yX6_belowAny wsX6_belowAny) := goodIn_app (goodIn_of _ (by decide +kernel)) ggX6_victors_X6_belowAny
theorem dX6_victors_0 : decode cX6_victors 0 = .ok (.aload_n 0, 1) := by decide +kernel
theorem dX6_victors_1 : decode cX6_victors 1 = .ok (.getfield 24, 3) := by decide +kernel
theorem dX6_victors_4 : decode cX6_victors 4 = .ok (.iload_n 1, 1) := by decide +kernel
theorem dX6_victors_5 : decode cX6_victors 5 = .ok (.invokestatic 107, 3) := by decide +kernel
theorem dX6_victors_8 : decode cX6_victors 8 = .ok (.iaload, 1) := by decide +kernel
theorem dX6_victors_9 : decode cX6_victors 9 = .ok (.aload_n 0, 1) := by decide +kernel
theorem dX6_victors_10 : decode cX6_victors 10 = .ok (.getfield 37, 3) := by decide +kernel
theorem dX6_victors_13 : decode cX6_victors 13 = .ok (.iand, 1) := by decide +kernel
theorem dX6_victors_14 : decode cX6_victors 14 = .ok (.aload_n 0, 1) := by decide +kernel
theorem dX6_victors_15 : decode cX6_victors 15 = .ok (.aload_n 0, 1) := by decide +kernel
theorem dX6_victors_16 : decode cX6_victors 16 = .ok (.iload_n 1, 1) := by decide +kernel
theorem dX6_victors_17 : decode cX6_victors 17 = .ok (.invokevirtual 113, 3) := by decide +kernel
theorem dX6_victors_20 : decode cX6_victors 20 = .ok (.invokevirtual 119, 3) := by decide +kernel
theorem dX6_victors_23 : decode cX6_victors 23 = .ok (.iconst (-1), 1) := by decide +kernel
theorem dX6_victors_24 : decode cX6_victors 24 = .ok (.ixor, 1) := by decide +kernel
theorem dX6_victors_25 : decode cX6_victors 25 = .ok (.iand, 1) := by decide +kernel
theorem dX6_victors_26 : decode cX6_victors 26 = .ok (.ireturn, 1) := by decide +kernel
theorem dX6_belowAny_0 : decode cX6_belowAny 0 = .ok (.iconst 0, 1) := by decide +kernel
theorem dX6_belowAny_1 : decode cX6_belowAny 1 = .ok (.istore_n 2, 1) := by decide +kernel
theorem dX6_belowAny_2 : decode cX6_belowAny 2 = .ok (.iconst 0, 1) := by decide +kernel
theorem dX6_belowAny_3 : decode cX6_belowAny 3 = .ok (.istore_n 3, 1) := by decide +kernel
theorem dX6_belowAny_4 : decode cX6_belowAny 4 = .ok (.iload_n 3, 1) := by decide +kernel
theorem dX6_belowAny_5 : decode cX6_belowAny 5 = .ok (.bipush 16, 2) := by decide +kernel
theorem dX6_belowAny_7 : decode cX6_belowAny 7 = .ok (.if_icmp .ge 27, 3) := by decide +kernel
theorem dX6_belowAny_10 : decode cX6_belowAny 10 = .ok (.iload_n 1, 1) := by decide +kernel
theorem dX6_belowAny_11 : decode cX6_belowAny 11 = .ok (.iload_n 3, 1) := by decide +kernel
theorem dX6_belowAny_12 : decode cX6_belowAny 12 = .ok (.ishr, 1) := by decide +kernel
theorem dX6_belowAny_13 : decode cX6_belowAny 13 = .ok (.iconst 1, 1) := by decide +kernel
theorem dX6_belowAny_14 : decode cX6_belowAny 14 = .ok (.iand, 1) := by decide +kernel
theorem dX6_belowAny_15 : decode cX6_belowAny 15 = .ok (.iconst 1, 1) := by decide +kernel
theorem dX6_belowAny_16 : decode cX6_belowAny 16 = .ok (.if_icmp .ne 12, 3) := by decide +kernel
theorem dX6_belowAny_19 : decode cX6_belowAny 19 = .ok (.iload_n 2, 1) := by decide +kernel
theorem dX6_belowAny_20 : decode cX6_belowAny 20 = .ok (.aload_n 0, 1) := by decide +kernel
theorem dX6_belowAny_21 : decode cX6_belowAny 21 = .ok (.getfield 27, 3) := by decide +kernel
theorem dX6_belowAny_24 : decode cX6_belowAny 24 = .ok (.iload_n 3, 1) := by decide +kernel
theorem dX6_belowAny_25 : decode cX6_belowAny 25 = .ok (.iaload, 1) := by decide +kernel
theorem dX6_belowAny_26 : decode cX6_belowAny 26 = .ok (.ior, 1) := by decide +kernel
theorem dX6_belowAny_27 : decode cX6_belowAny 27 = .ok (.istore_n 2, 1) := by decide +kernel
theorem dX6_belowAny_28 : decode cX6_belowAny 28 = .ok (.iinc 3 1, 3) := by decide +kernel
theorem dX6_belowAny_31 : decode cX6_belowAny 31 = .ok (.goto (-27), 3) := by decide +kernel
theorem dX6_belowAny_34 : decode cX6_belowAny 34 = .ok (.iload_n 2, 1) := by decide +kernel
theorem dX6_belowAny_35 : decode cX6_belowAny 35 = .ok (.ireturn, 1) := by decide +kernel
theorem dX6_missing_0 : decode cX6_missing 0 = .ok (.ldc 122, 2) := by decide +kernel
theorem dX6_missing_2 : decode cX6_missing 2 = .ok (.aload_n 0, 1) := by decide +kernel
theorem dX6_missing_3 : decode cX6_missing 3 = .ok (.getfield 9, 3) := by decide +kernel
theorem dX6_missing_6 : decode cX6_missing 6 = .ok (.iconst 2, 1) := by decide +kernel
theorem dX6_missing_7 : decode cX6_missing 7 = .ok (.iaload, 1) := by decide +kernel
theorem dX6_missing_8 : decode cX6_missing 8 = .ok (.aload_n 0, 1) := by decide +kernel
theorem dX6_missing_9 : decode cX6_missing 9 = .ok (.getfield 9, 3) := by decide +kernel
theorem dX6_missing_12 : decode cX6_missing 12 = .ok (.iconst 3, 1) := by decide +kernel
theorem dX6_missing_13 : decode cX6_missing 13 = .ok (.iaload, 1) := by decide +kernel
theorem dX6_missing_14 : decode cX6_missing 14 = .ok (.ior, 1) := by decide +kernel
theorem dX6_missing_15 : decode cX6_missing 15 = .ok (.iconst (-1), 1) := by decide +kernel
theorem dX6_missing_16 : decode cX6_missing 16 = .ok (.ixor, 1) := by decide +kernel
theorem dX6_missing_17 : decode cX6_missing 17 = .ok (.iand, 1) := by decide +kernel
theorem dX6_missing_18 : decode cX6_missing 18 = .ok (.ireturn, 1) := by decide +kernel
theorem dX6_likelyBothWays_0 : decode cX6_likelyBothWays 0 = .ok (.aload_n 0, 1) := by decide +kernel
theorem dX6_likelyBothWays_1 : decode cX6_likelyBothWays 1 = .ok (.getfield 9, 3) := by decide +kernel
theorem dX6_likelyBothWays_4 : decode cX6_likelyBothWays 4 = .ok (.iconst 2, 1) := by decide +kernel
theorem dX6_likelyBothWays_5 : decode cX6_likelyBothWays 5 = .ok (.iaload, 1) := by decide +kernel
theorem dX6_likelyBothWays_6 : decode cX6_likelyBothWays 6 = .ok (.istore_n 1, 1) := by decide +kernel
theorem dX6_likelyBothWays_7 : decode cX6_likelyBothWays 7 = .ok (.iload_n 1, 1) := by decide +kernel
theorem dX6_likelyBothWays_8 : decode cX6_likelyBothWays 8 = .ok (.iload_n 1, 1) := by decide +kernel
theorem dX6_likelyBothWays_9 : decode cX6_likelyBothWays 9 = .ok (.bipush 10, 2) := by decide +kernel
theorem dX6_likelyBothWays_11 : decode cX6_likelyBothWays 11 = .ok (.ishl, 1) := by decide +kernel
theorem dX6_likelyBothWays_12 : decode cX6_likelyBothWays 12 = .ok (.iload_n 1, 1) := by decide +kernel
theorem dX6_likelyBothWays_13 : decode cX6_likelyBothWays 13 = .ok (.bipush 10, 2) := by decide +kernel
theorem dX6_likelyBothWays_15 : decode cX6_likelyBothWays 15 = .ok (.ishr, 1) := by decide +kernel
theorem dX6_likelyBothWays_16 : decode cX6_likelyBothWays 16 = .ok (.ior, 1) := by decide +kernel
theorem dX6_likelyBothWays_17 : decode cX6_likelyBothWays 17 = .ok (.iand, 1) := by decide +kernel
theorem dX6_likelyBothWays_18 : decode cX6_likelyBothWays 18 = .ok (.ireturn, 1) := by decide +kernel
set_option maxRecDepth 20000 in
theorem ggX6_circles_X8_has : GoodIn wsX6_circles wsX8_has := goodIn_r _ [9] (by decide +kernel) (by decide +kernel)
set_option maxRecDepth 20000 in
theorem gX6_circles_X8_has_n68 : GoodIn wsX6_circles (wsX8_has) := ggX6_circles_X8_has
theorem dX6_circles_0 : decode cX6_circles 0 = .ok (.aload_n 0, 1) := by decide +kernel
theorem dX6_circles_1 : decode cX6_circles 1 = .ok (.getfield 27, 3) := by decide +kernel
theorem dX6_circles_4 : decode cX6_circles 4 = .ok (.iconst 0, 1) := by decide +kernel
theorem dX6_circles_5 : decode cX6_circles 5 = .ok (.aload_n 0, 1) := by decide +kernel
theorem dX6_circles_6 : decode cX6_circles 6 = .ok (.getfield 30, 3) := by decide +kernel
theorem dX6_circles_9 : decode cX6_circles 9 = .ok (.iconst 0, 1) := by decide +kernel
theorem dX6_circles_10 : decode cX6_circles 10 = .ok (.bipush 16, 2) := by decide +kernel
theorem dX6_circles_12 : decode cX6_circles 12 = .ok (.invokestatic 123, 3) := by decide +kernel
theorem dX6_circles_15 : decode cX6_circles 15 = .ok (.iconst 0, 1) := by decide +kernel
theorem dX6_circles_16 : decode cX6_circles 16 = .ok (.istore_n 1, 1) := by decide +kernel
theorem dX6_circles_17 : decode cX6_circles 17 = .ok (.iload_n 1, 1) := by decide +kernel
theorem dX6_circles_18 : decode cX6_circles 18 = .ok (.bipush 16, 2) := by decide +kernel
theorem dX6_circles_20 : decode cX6_circles 20 = .ok (.if_icmp .ge 51, 3) := by decide +kernel
theorem dX6_circles_23 : decode cX6_circles 23 = .ok (.iconst 0, 1) := by decide +kernel
theorem dX6_circles_24 : decode cX6_circles 24 = .ok (.istore_n 2, 1) := by decide +kernel
theorem dX6_circles_25 : decode cX6_circles 25 = .ok (.iload_n 2, 1) := by decide +kernel
theorem dX6_circles_26 : decode cX6_circles 26 = .ok (.bipush 16, 2) := by decide +kernel
theorem dX6_circles_28 : decode cX6_circles 28 = .ok (.if_icmp .ge 37, 3) := by decide +kernel
theorem dX6_circles_31 : decode cX6_circles 31 = .ok (.aload_n 0, 1) := by decide +kernel
theorem dX6_circles_32 : decode cX6_circles 32 = .ok (.getfield 30, 3) := by decide +kernel
theorem dX6_circles_35 : decode cX6_circles 35 = .ok (.iload_n 2, 1) := by decide +kernel
theorem dX6_circles_36 : decode cX6_circles 36 = .ok (.iaload, 1) := by decide +kernel
theorem dX6_circles_37 : decode cX6_circles 37 = .ok (.iload_n 1, 1) := by decide +kernel
theorem dX6_circles_38 : decode cX6_circles 38 = .ok (.invokestatic 68, 3) := by decide +kernel
theorem dX6_circles_41 : decode cX6_circles 41 = .ok (.ifCond .eq 18, 3) := by decide +kernel
theorem dX6_circles_44 : decode cX6_circles 44 = .ok (.aload_n 0, 1) := by decide +kernel
theorem dX6_circles_45 : decode cX6_circles 45 = .ok (.getfield 30, 3) := by decide +kernel
theorem dX6_circles_48 : decode cX6_circles 48 = .ok (.iload_n 2, 1) := by decide +kernel
theorem dX6_circles_49 : decode cX6_circles 49 = .ok (.dup2, 1) := by decide +kernel
theorem dX6_circles_50 : decode cX6_circles 50 = .ok (.iaload, 1) := by decide +kernel
theorem dX6_circles_51 : decode cX6_circles 51 = .ok (.aload_n 0, 1) := by decide +kernel
theorem dX6_circles_52 : decode cX6_circles 52 = .ok (.getfield 30, 3) := by decide +kernel
theorem dX6_circles_55 : decode cX6_circles 55 = .ok (.iload_n 1, 1) := by decide +kernel
theorem dX6_circles_56 : decode cX6_circles 56 = .ok (.iaload, 1) := by decide +kernel
theorem dX6_circles_57 : decode cX6_circles 57 = .ok (.ior, 1) := by decide +kernel
theorem dX6_circles_58 : decode cX6_circles 58 = .ok (.iastore, 1) := by decide +kernel
theorem dX6_circles_59 : decode cX6_circles 59 = .ok (.iinc 2 1, 3) := by decide +kernel
theorem dX6_circles_62 : decode cX6_circles 62 = .ok (.goto (-37), 3) := by decide +kernel
theorem dX6_circles_65 : decode cX6_circles 65 = .ok (.iinc 1 1, 3) := by decide +kernel
theorem dX6_circles_68 : decode cX6_circles 68 = .ok (.goto (-51), 3) := by decide +kernel
theorem dX6_circles_71 : decode cX6_circles 71 = .ok (.iconst 0, 1) := by decide +kernel
theorem dX6_circles_72 : decode cX6_circles 72 = .ok (.istore_n 1, 1) := by decide +kernel
theorem dX6_circles_73 : decode cX6_circles 73 = .ok (.iconst 0, 1) := by decide +kernel
theorem dX6_circles_74 : decode cX6_circles 74 = .ok (.istore_n 2, 1) := by decide +kernel
theorem dX6_circles_75 : decode cX6_circles 75 = .ok (.iload_n 2, 1) := by decide +kernel
theorem dX6_circles_76 : decode cX6_circles 76 = .ok (.bipush 16, 2) := by decide +kernel
theorem dX6_circles_78 : decode cX6_circles 78 = .ok (.if_icmp .ge 22, 3) := by decide +kernel
theorem dX6_circles_81 : decode cX6_circles 81 = .ok (.iload_n 1, 1) := by decide +kernel
theorem dX6_circles_82 : decode cX6_circles 82 = .ok (.aload_n 0, 1) := by decide +kernel
theorem dX6_circles_83 : decode cX6_circles 83 = .ok (.getfield 30, 3) := by decide +kernel
theorem dX6_circles_86 : decode cX6_circles 86 = .ok (.iload_n 2, 1) := by decide +kernel
theorem dX6_circles_87 : decode cX6_circles 87 = .ok (.iaload, 1) := by decide +kernel
theorem dX6_circles_88 : decode cX6_circles 88 = .ok (.iconst 1, 1) := by decide +kernel
theorem dX6_circles_89 : decode cX6_circles 89 = .ok (.iload_n 2, 1) := by decide +kernel
theorem dX6_circles_90 : decode cX6_circles 90 = .ok (.ishl, 1) := by decide +kernel
theorem dX6_circles_91 : decode cX6_circles 91 = .ok (.iand, 1) := by decide +kernel
theorem dX6_circles_92 : decode cX6_circles 92 = .ok (.ior, 1) := by decide +kernel
theorem dX6_circles_93 : decode cX6_circles 93 = .ok (.istore_n 1, 1) := by decide +kernel
theorem dX6_circles_94 : decode cX6_circles 94 = .ok (.iinc 2 1, 3) := by decide +kernel
theorem dX6_circles_97 : decode cX6_circles 97 = .ok (.goto (-22), 3) := by decide +kernel
theorem dX6_circles_100 : decode cX6_circles 100 = .ok (.iload_n 1, 1) := by decide +kernel
theorem dX6_circles_101 : decode cX6_circles 101 = .ok (.ireturn, 1) := by decide +kernel
theorem dX7_init_0 : decode cX7_init 0 = .ok (.aload_n 0, 1) := by decide +kernel
theorem dX7_init_1 : decode cX7_init 1 = .ok (.invokespecial 3, 3) := by decide +kernel
theorem dX7_init_4 : decode cX7_init 4 = .ok (.aload_n 0, 1) := by decide +kernel
theorem dX7_init_5 : decode cX7_init 5 = .ok (.bipush 120, 2) := by decide +kernel
theorem dX7_init_7 : decode cX7_init 7 = .ok (.newarray .int, 2) := by decide +kernel
theorem dX7_init_9 : decode cX7_init 9 = .ok (.putfield 9, 3) := by decide +kernel
theorem dX7_init_12 : decode cX7_init 12 = .ok (.aload_n 0, 1) := by decide +kernel
theorem dX7_init_13 : decode cX7_init 13 = .ok (.bipush 60, 2) := by decide +kernel
theorem dX7_init_15 : decode cX7_init 15 = .ok (.newarray .int, 2) := by decide +kernel
theorem dX7_init_17 : decode cX7_init 17 = .ok (.putfield 15, 3) := by decide +kernel
theorem dX7_init_20 : decode cX7_init 20 = .ok (.aload_n 0, 1) := by decide +kernel
theorem dX7_init_21 : decode cX7_init 21 = .ok (.bipush 60, 2) := by decide +kernel
theorem dX7_init_23 : decode cX7_init 23 = .ok (.newarray .int, 2) := by decide +kernel
theorem dX7_init_25 : decode cX7_init 25 = .ok (.putfield 18, 3) := by decide +kernel
theorem dX7_init_28 : decode cX7_init 28 = .ok (.aload_n 0, 1) := by decide +kernel
theorem dX7_init_29 : decode cX7_init 29 = .ok (.bipush 60, 2) := by decide +kernel
theorem dX7_init_31 : decode cX7_init 31 = .ok (.newarray .int, 2) := by decide +kernel
theorem dX7_init_33 : decode cX7_init 33 = .ok (.putfield 21, 3) := by decide +kernel
theorem dX7_init_36 : decode cX7_init 36 = .ok (.aload_n 0, 1) := by decide +kernel
theorem dX7_init_37 : decode cX7_init 37 = .ok (.bipush 60, 2) := by decide +kernel
theorem dX7_init_39 : decode cX7_init 39 = .ok (.newarray .int, 2) := by decide +kernel
theorem dX7_init_41 : decode cX7_init 41 = .ok (.putfield 24, 3) := by decide +kernel
theorem dX7_init_44 : decode cX7_init 44 = .ok (.aload_n 0, 1) := by decide +kernel
theorem dX7_init_45 : decode cX7_init 45 = .ok (.bipush 60, 2) := by decide +kernel
theorem dX7_init_47 : decode cX7_init 47 = .ok (.newarray .int, 2) := by decide +kernel
theorem dX7_init_49 : decode cX7_init 49 = .ok (.putfield 27, 3) := by decide +kernel
theorem dX7_init_52 : decode cX7_init 52 = .ok (.aload_n 0, 1) := by decide +kernel
theorem dX7_init_53 : decode cX7_init 53 = .ok (.bipush 60, 2) := by decide +kernel
theorem dX7_init_55 : decode cX7_init 55 = .ok (.newarray .int, 2) := by decide +kernel
theorem dX7_init_57 : decode cX7_init 57 = .ok (.putfield 30, 3) := by decide +kernel
theorem dX7_init_60 : decode cX7_init 60 = .ok (.aload_n 0, 1) := by decide +kernel
theorem dX7_init_61 : decode cX7_init 61 = .ok (.iconst 0, 1) := by decide +kernel
theorem dX7_init_62 : decode cX7_init 62 = .ok (.putfield 33, 3) := by decide +kernel
theorem dX7_init_65 : decode cX7_init 65 = .ok (.aload_n 0, 1) := by decide +kernel
theorem dX7_init_66 : decode cX7_init 66 = .ok (.iconst 0, 1) := by decide +kernel
theorem dX7_init_67 : decode cX7_init 67 = .ok (.putfield 37, 3) := by decide +kernel
theorem dX7_init_70 : decode cX7_init 70 = .ok (.aload_n 0, 1) := by decide +kernel
theorem dX7_init_71 : decode cX7_init 71 = .ok (.iconst 0, 1) := by decide +kernel
theorem dX7_init_72 : decode cX7_init 72 = .ok (.putfield 40, 3) := by decide +kernel
theorem dX7_init_75 : decode cX7_init 75 = .ok (.return_, 1) := by decide +kernel
theorem dX7_add_0 : decode cX7_add 0 = .ok (.aload_n 0, 1) := by decide +kernel
theorem dX7_add_1 : decode cX7_add 1 = .ok (.getfield 33, 3) := by decide +kernel
theorem dX7_add_4 : decode cX7_add 4 = .ok (.bipush 120, 2) := by decide +kernel
theorem dX7_add_6 : decode cX7_add 6 = .ok (.if_icmp .lt 5, 3) := by decide +kernel
theorem dX7_add_9 : decode cX7_add 9 = .ok (.iconst 0, 1) := by decide +kernel
theorem dX7_add_10 : decode cX7_add 10 = .ok (.ireturn, 1) := by decide +kernel
theorem dX7_add_11 : decode cX7_add 11 = .ok (.aload_n 0, 1) := by decide +kernel
theorem dX7_add_12 : decode cX7_add 12 = .ok (.getfield 9, 3) := by decide +kernel
theorem dX7_add_15 : decode cX7_add 15 = .ok (.aload_n 0, 1) := by decide +kernel
theorem dX7_add_16 : decode cX7_add 16 = .ok (.getfield 33, 3) := by decide +kernel
theorem dX7_add_19 : decode cX7_add 19 = .ok (.iload_n 1, 1) := by decide +kernel
theorem dX7_add_20 : decode cX7_add 20 = .ok (.iastore, 1) := by decide +kernel
theorem dX7_add_21 : decode cX7_add 21 = .ok (.aload_n 0, 1) := by decide +kernel
theorem dX7_add_22 : decode cX7_add 22 = .ok (.dup, 1) := by decide +kernel
theorem dX7_add_23 : decode cX7_add 23 = .ok (.getfield 33, 3) := by decide +kernel
theorem dX7_add_26 : decode cX7_add 26 = .ok (.iconst 1, 1) := by decide +kernel
theorem dX7_add_27 : decode cX7_add 27 = .ok (.iadd, 1) := by decide +kernel
theorem dX7_add_28 : decode cX7_add 28 = .ok (.putfield 33, 3) := by decide +kernel
theorem dX7_add_31 : decode cX7_add 31 = .ok (.iconst 1, 1) := by decide +kernel
theorem dX7_add_32 : decode cX7_add 32 = .ok (.ireturn, 1) := by decide +kernel
set_option maxRecDepth 20000 in
theorem ggX7_split_X7_readStatement : GoodIn wsX7_split wsX7_readStatement := goodIn_r _ [9, 10, 11, 12, 8, 13, 1, 4, 14, 15, 16, 17, 18, 19, 2, 20, 21, 22, 23, 24, 25, 26, 27, 28, 29, 30, 31, 32, 33, 34, 35, 36, 37, 38, 39, 40, 41, 42, 43, 44, 45, 46, 47, 48, 49, 50, 51, 52, 53, 54, 55, 56, 57, 58, 59, 60, 61, 62, 63, 64, 65, 66, 67, 68, 69, 70, 71, 72, 73, 74, 75] (by decide +kernel) (by decide +kernel)
set_option maxRecDepth 20000 in
theorem gX7_split_X7_readStatement : GoodIn wsX7_split (wsV RX7 43 RX7 yX7_readStatement wsX7_readStatement) := goodIn_app (goodIn_of _ (by decide +kernel)) ggX7_split_X7_readStatement
set_option maxRecDepth 20000 in
theorem ggX7_split_X7_take : GoodIn wsX7_split wsX7_take := goodIn_r _ [13, 1, 4, 14, 66, 67, 68, 69, 70, 71, 72, 73, 74, 75] (by decide +kernel) (by decide +kernel)
set_option maxRecDepth 20000 in
theorem gX7_split_X7_take : GoodIn wsX7_split (wsV RX7 47 RX7 yX7_take wsX7_take) := goodIn_app (goodIn_of _ (by decide +kernel)) ggX7_split_X7_take
theorem dX7_split_0 : decode cX7_split 0 = .ok (.aload_n 0, 1) := by decide +kernel
theorem dX7_split_1 : decode cX7_split 1 = .ok (.iconst 0, 1) := by decide +kernel
theorem dX7_split_2 : decode cX7_split 2 = .ok (.putfield 37, 3) := by decide +kernel
theorem dX7_split_5 : decode cX7_split 5 = .ok (.aload_n 0, 1) := by decide +kernel
theorem dX7_split_6 : decode cX7_split 6 = .ok (.iconst 0, 1) := by decide +kernel
theorem dX7_split_7 : decode cX7_split 7 = .ok (.putfield 40, 3) := by decide +kernel
theorem dX7_split_10 : decode cX7_split 10 = .ok (.aload_n 0, 1) := by decide +kernel
theorem dX7_split_11 : decode cX7_split 11 = .ok (.getfield 40, 3) := by decide +kernel
theorem dX7_split_14 : decode cX7_split 14 = .ok (.bipush 60, 2) := by decide +kernel
theorem dX7_split_16 : decode cX7_split 16 = .ok (.if_icmp .ge 59, 3) := by decide +kernel
theorem dX7_split_19 : decode cX7_split 19 = .ok (.aload_n 0, 1) := by decide +kernel
theorem dX7_split_20 : decode cX7_split 20 = .ok (.getfield 30, 3) := by decide +kernel
theorem dX7_split_23 : decode cX7_split 23 = .ok (.aload_n 0, 1) := by decide +kernel
theorem dX7_split_24 : decode cX7_split 24 = .ok (.getfield 40, 3) := by decide +kernel
theorem dX7_split_27 : decode cX7_split 27 = .ok (.aload_n 0, 1) := by decide +kernel
theorem dX7_split_28 : decode cX7_split 28 = .ok (.getfield 37, 3) := by decide +kernel
theorem dX7_split_31 : decode cX7_split 31 = .ok (.iastore, 1) := by decide +kernel
theorem dX7_split_32 : decode cX7_split 32 = .ok (.aload_n 0, 1) := by decide +kernel
theorem dX7_split_33 : decode cX7_split 33 = .ok (.invokevirtual 43, 3) := by decide +kernel
theorem dX7_split_36 : decode cX7_split 36 = .ok (.ifCond .ne 5, 3) := by decide +kernel
theorem dX7_split_39 : decode cX7_split 39 = .ok (.iconst 0, 1) := by decide +kernel
theorem dX7_split_40 : decode cX7_split 40 = .ok (.ireturn, 1) := by decide +kernel
theorem dX7_split_41 : decode cX7_split 41 = .ok (.aload_n 0, 1) := by decide +kernel
theorem dX7_split_42 : decode cX7_split 42 = .ok (.dup, 1) := by decide +kernel
theorem dX7_split_43 : decode cX7_split 43 = .ok (.getfield 40, 3) := by decide +kernel
theorem dX7_split_46 : decode cX7_split 46 = .ok (.iconst 1, 1) := by decide +kernel
theorem dX7_split_47 : decode cX7_split 47 = .ok (.iadd, 1) := by decide +kernel
theorem dX7_split_48 : decode cX7_split 48 = .ok (.putfield 40, 3) := by decide +kernel
theorem dX7_split_51 : decode cX7_split 51 = .ok (.aload_n 0, 1) := by decide +kernel
theorem dX7_split_52 : decode cX7_split 52 = .ok (.getfield 37, 3) := by decide +kernel
theorem dX7_split_55 : decode cX7_split 55 = .ok (.aload_n 0, 1) := by decide +kernel
theorem dX7_split_56 : decode cX7_split 56 = .ok (.getfield 33, 3) := by decide +kernel
theorem dX7_split_59 : decode cX7_split 59 = .ok (.if_icmp .lt 5, 3) := by decide +kernel
theorem dX7_split_62 : decode cX7_split 62 = .ok (.iconst 1, 1) := by decide +kernel
theorem dX7_split_63 : decode cX7_split 63 = .ok (.ireturn, 1) := by decide +kernel
theorem dX7_split_64 : decode cX7_split 64 = .ok (.aload_n 0, 1) := by decide +kernel
theorem dX7_split_65 : decode cX7_split 65 = .ok (.bipush 59, 2) := by decide +kernel
theorem dX7_split_67 : decode cX7_split 67 = .ok (.invokevirtual 47, 3) := by decide +kernel
theorem dX7_split_70 : decode cX7_split 70 = .ok (.ifCond .ne (-60), 3) := by decide +kernel
theorem dX7_split_73 : decode cX7_split 73 = .ok (.iconst 0, 1) := by decide +kernel
theorem dX7_split_74 : decode cX7_split 74 = .ok (.ireturn, 1) := by decide +kernel
theorem dX7_split_75 : decode cX7_split 75 = .ok (.iconst 0, 1) := by decide +kernel
theorem dX7_split_76 : decode cX7_split 76 = .ok (.ireturn, 1) := by decide +kernel
set_option maxRecDepth 20000 in
theorem ggX7_readStatement_X7_take : GoodIn wsX7_readStatement wsX7_take := goodIn_r _ [5, 6, 7, 8, 61, 62, 63, 64, 65, 66, 67, 68, 69, 70] (by decide +kernel) (by decide +kernel)
set_option maxRecDepth 20000 in
theorem gX7_readStatement_X7_take : GoodIn wsX7_readStatement (wsV RX7 47 RX7 yX7_take wsX7_take) := goodIn_app (goodIn_of _ (by decide +kernel)) ggX7_readStatement_X7_take
set_option maxRecDepth 20000 in
theorem ggX7_readStatement_X7_readFact : GoodIn wsX7_readStatement wsX7_readFact := goodIn_r _ [12, 13, 14, 15, 16, 17, 18, 4, 19, 6, 1, 2, 3, 5, 7, 8, 20, 21, 22, 23, 24, 25, 26, 61, 62, 63, 64, 65, 66, 67, 68, 69, 70] (by decide +kernel) (by decide +kernel)
set_option maxRecDepth 20000 in
theorem gX7_readStatement_X7_readFact : GoodIn wsX7_readStatement (wsV RX7 51 RX7 yX7_readFact wsX7_readFact) := goodIn_app (goodIn_of _ (by decide +kernel)) ggX7_readStatement_X7_readFact
set_option maxRecDepth 20000 in
theorem ggX7_readStatement_X7_next : GoodIn wsX7_readStatement wsX7_next := goodIn_r _ [23, 6, 7, 8, 61, 62, 63, 64, 65, 66, 67, 68, 69, 70] (by decide +kernel) (by decide +kernel)
set_option maxRecDepth 20000 in
theorem gX7_readStatement_X7_next : GoodIn wsX7_readStatement (wsV RX7 54 RX7 yX7_next wsX7_next) := goodIn_app (goodIn_of _ (by decide +kernel)) ggX7_readStatement_X7_next
set_option maxRecDepth 20000 in
theorem ggX7_readStatement_X7_isFigure : GoodIn wsX7_readStatement wsX7_isFigure := goodIn_r _ [29] (by decide +kernel) (by decide +kernel)
set_option maxRecDepth 20000 in
theorem gX7_readStatement_X7_isFigure : GoodIn wsX7_readStatement (va_wsS RX7 58 yX7_isFigure wsX7_isFigure) := goodIn_app (goodIn_of _ (by decide +kernel)) ggX7_readStatement_X7_isFigure
set_option maxRecDepth 20000 in
theorem ggX7_readStatement_X7_readPair : GoodIn wsX7_readStatement wsX7_readPair := goodIn_r _ [33, 13, 14, 15, 34, 35, 36, 37, 4, 38, 39, 40, 41, 42, 6, 20, 21, 22, 23, 7, 8, 27, 28, 29, 1, 2, 3, 5, 61, 62, 63, 64, 65, 66, 67, 68, 69, 70] (by decide +kernel) (by decide +kernel)
set_option maxRecDepth 20000 in
theorem gX7_readStatement_X7_readPair : GoodIn wsX7_readStatement (wsV RX7 61 RX7 yX7_readPair wsX7_readPair) := goodIn_app (goodIn_of _ (by decide +kernel)) ggX7_readStatement_X7_readPair
set_option maxRecDepth 20000 in
theorem ggX7_readStatement_X7_readRule : GoodIn wsX7_readStatement wsX7_readRule := goodIn_r _ [46, 34, 14, 13, 15, 47, 48, 49, 50, 51, 4, 52, 6, 7, 8, 20, 21, 22, 23, 53, 54, 55, 56, 16, 17, 18, 19, 1, 2, 3, 5, 24, 25, 26, 57, 58, 59, 60, 39, 40, 41, 42, 27, 28, 29, 61, 62, 63, 64, 65, 66, 67, 68, 69, 70] (by decide +kernel) (by decide +kernel)
set_option maxRecDepth 20000 in
theorem gX7_readStatement_X7_readRule : GoodIn wsX7_readStatement (wsV RX7 64 RX7 yX7_readRule wsX7_readRule) := goodIn_app (goodIn_of _ (by decide +kernel)) ggX7_readStatement_X7_readRule
theorem dX7_readStatement_0 : decode cX7_readStatement 0 = .ok (.aload_n 0, 1) := by decide +kernel
theorem dX7_readStatement_1 : decode cX7_readStatement 1 = .ok (.bipush 33, 2) := by decide +kernel
theorem dX7_readStatement_3 : decode cX7_readStatement 3 = .ok (.invokevirtual 47, 3) := by decide +kernel
theorem dX7_readStatement_6 : decode cX7_readStatement 6 = .ok (.ifCond .eq 8, 3) := by decide +kernel
theorem dX7_readStatement_9 : decode cX7_readStatement 9 = .ok (.aload_n 0, 1) := by decide +kernel
theorem dX7_readStatement_10 : decode cX7_readStatement 10 = .ok (.invokevirtual 51, 3) := by decide +kernel
theorem dX7_readStatement_13 : decode cX7_readStatement 13 = .ok (.ireturn, 1) := by decide +kernel
theorem dX7_readStatement_14 : decode cX7_readStatement 14 = .ok (.aload_n 0, 1) := by decide +kernel
theorem dX7_readStatement_15 : decode cX7_readStatement 15 = .ok (.invokevirtual 54, 3) := by decide +kernel
theorem dX7_readStatement_18 : decode cX7_readStatement 18 = .ok (.invokestatic 58, 3) := by decide +kernel
theorem dX7_readStatement_21 : decode cX7_readStatement 21 = .ok (.ifCond .eq 10, 3) := by decide +kernel
theorem dX7_readStatement_24 : decode cX7_readStatement 24 = .ok (.aload_n 0, 1) := by decide +kernel
theorem dX7_readStatement_25 : decode cX7_readStatement 25 = .ok (.invokevirtual 61, 3) := by decide +kernel
theorem dX7_readStatement_28 : decode cX7_readStatement 28 = .ok (.goto 7, 3) := by decide +kernel
theorem dX7_readStatement_31 : decode cX7_readStatement 31 = .ok (.aload_n 0, 1) := by decide +kernel
theorem dX7_readStatement_32 : decode cX7_readStatement 32 = .ok (.invokevirtual 64, 3) := by decide +kernel
theorem dX7_readStatement_35 : decode cX7_readStatement 35 = .ok (.ireturn, 1) := by decide +kernel
set_option maxRecDepth 20000 in
theorem ggX7_readFact_X7_readLiteral : GoodIn wsX7_readFact wsX7_readLiteral := goodIn_r _ [8, 9, 10, 11, 12, 7, 13, 14, 15, 16, 17, 18, 19, 20, 21, 22, 23, 24, 25, 26, 27, 28, 29, 30, 31, 32] (by decide +kernel) (by decide +kernel)
set_option maxRecDepth 20000 in
theorem gX7_readFact_X7_readLiteral : GoodIn wsX7_readFact (wsV RX7 67 RX7 yX7_readLiteral wsX7_readLiteral) := goodIn_app (goodIn_of _ (by decide +kernel)) ggX7_readFact_X7_readLiteral
theorem dX7_readFact_0 : decode cX7_readFact 0 = .ok (.aload_n 0, 1) := by decide +kernel
theorem dX7_readFact_1 : decode cX7_readFact 1 = .ok (.getfield 15, 3) := by decide +kernel
theorem dX7_readFact_4 : decode cX7_readFact 4 = .ok (.aload_n 0, 1) := by decide +kernel
theorem dX7_readFact_5 : decode cX7_readFact 5 = .ok (.getfield 40, 3) := by decide +kernel
theorem dX7_readFact_8 : decode cX7_readFact 8 = .ok (.iconst 3, 1) := by decide +kernel
theorem dX7_readFact_9 : decode cX7_readFact 9 = .ok (.iastore, 1) := by decide +kernel
theorem dX7_readFact_10 : decode cX7_readFact 10 = .ok (.aload_n 0, 1) := by decide +kernel
theorem dX7_readFact_11 : decode cX7_readFact 11 = .ok (.getfield 18, 3) := by decide +kernel
theorem dX7_readFact_14 : decode cX7_readFact 14 = .ok (.aload_n 0, 1) := by decide +kernel
theorem dX7_readFact_15 : decode cX7_readFact 15 = .ok (.getfield 40, 3) := by decide +kernel
theorem dX7_readFact_18 : decode cX7_readFact 18 = .ok (.aload_n 0, 1) := by decide +kernel
theorem dX7_readFact_19 : decode cX7_readFact 19 = .ok (.invokevirtual 67, 3) := by decide +kernel
theorem dX7_readFact_22 : decode cX7_readFact 22 = .ok (.iastore, 1) := by decide +kernel
theorem dX7_readFact_23 : decode cX7_readFact 23 = .ok (.aload_n 0, 1) := by decide +kernel
theorem dX7_readFact_24 : decode cX7_readFact 24 = .ok (.getfield 18, 3) := by decide +kernel
theorem dX7_readFact_27 : decode cX7_readFact 27 = .ok (.aload_n 0, 1) := by decide +kernel
theorem dX7_readFact_28 : decode cX7_readFact 28 = .ok (.getfield 40, 3) := by decide +kernel
theorem dX7_readFact_31 : decode cX7_readFact 31 = .ok (.iaload, 1) := by decide +kernel
theorem dX7_readFact_32 : decode cX7_readFact 32 = .ok (.iconst (-1), 1) := by decide +kernel
theorem dX7_readFact_33 : decode cX7_readFact 33 = .ok (.if_icmp .eq 7, 3) := by decide +kernel
theorem dX7_readFact_36 : decode cX7_readFact 36 = .ok (.iconst 1, 1) := by decide +kernel
theorem dX7_readFact_37 : decode cX7_readFact 37 = .ok (.goto 4, 3) := by decide +kernel
theorem dX7_readFact_40 : decode cX7_readFact 40 = .ok (.iconst 0, 1) := by decide +kernel
theorem dX7_readFact_41 : decode cX7_readFact 41 = .ok (.ireturn, 1) := by decide +kernel
set_option maxRecDepth 20000 in
theorem ggX7_readPair_X7_readNumber : GoodIn wsX7_readPair wsX7_readNumber := goodIn_r _ [9, 10, 11, 12, 8, 13, 14, 15, 16, 17, 18, 19, 20, 21, 22, 23, 28, 29, 30, 31, 32, 33, 34, 35, 36, 37] (by decide +kernel) (by decide +kernel)
set_option maxRecDepth 20000 in
theorem gX7_readPair_X7_readNumber : GoodIn wsX7_readPair (wsV RX7 70 RX7 yX7_readNumber wsX7_readNumber) := goodIn_app (goodIn_of _ (by decide +kernel)) ggX7_readPair_X7_readNumber
set_option maxRecDepth 20000 in
theorem ggX7_readPair_X7_take : GoodIn wsX7_readPair wsX7_take := goodIn_r _ [27, 14, 19, 20, 28, 29, 30, 31, 32, 33, 34, 35, 36, 37] (by decide +kernel) (by decide +kernel)
set_option maxRecDepth 20000 in
theorem gX7_readPair_X7_take : GoodIn wsX7_readPair (wsV RX7 47 RX7 yX7_take wsX7_take) := goodIn_app (goodIn_of _ (by decide +kernel)) ggX7_readPair_X7_take
theorem dX7_readPair_0 : decode cX7_readPair 0 = .ok (.aload_n 0, 1) := by decide +kernel
theorem dX7_readPair_1 : decode cX7_readPair 1 = .ok (.getfield 15, 3) := by decide +kernel
theorem dX7_readPair_4 : decode cX7_readPair 4 = .ok (.aload_n 0, 1) := by decide +kernel
theorem dX7_readPair_5 : decode cX7_readPair 5 = .ok (.getfield 40, 3) := by decide +kernel
theorem dX7_readPair_8 : decode cX7_readPair 8 = .ok (.iconst 4, 1) := by decide +kernel
theorem dX7_readPair_9 : decode cX7_readPair 9 = .ok (.iastore, 1) := by decide +kernel
theorem dX7_readPair_10 : decode cX7_readPair 10 = .ok (.aload_n 0, 1) := by decide +kernel
theorem dX7_readPair_11 : decode cX7_readPair 11 = .ok (.getfield 18, 3) := by decide +kernel
theorem dX7_readPair_14 : decode cX7_readPair 14 = .ok (.aload_n 0, 1) := by decide +kernel
theorem dX7_readPair_15 : decode cX7_readPair 15 = .ok (.getfield 40, 3) := by decide +kernel
theorem dX7_readPair_18 : decode cX7_readPair 18 = .ok (.aload_n 0, 1) := by decide +kernel
theorem dX7_readPair_19 : decode cX7_readPair 19 = .ok (.invokevirtual 70, 3) := by decide +kernel
theorem dX7_readPair_22 : decode cX7_readPair 22 = .ok (.iastore, 1) := by decide +kernel
theorem dX7_readPair_23 : decode cX7_readPair 23 = .ok (.aload_n 0, 1) := by decide +kernel
theorem dX7_readPair_24 : decode cX7_readPair 24 = .ok (.bipush 62, 2) := by decide +kernel
theorem dX7_readPair_26 : decode cX7_readPair 26 = .ok (.invokevirtual 47, 3) := by decide +kernel
theorem dX7_readPair_29 : decode cX7_readPair 29 = .ok (.ifCond .ne 5, 3) := by decide +kernel
theorem dX7_readPair_32 : decode cX7_readPair 32 = .ok (.iconst 0, 1) := by decide +kernel
theorem dX7_readPair_33 : decode cX7_readPair 33 = .ok (.ireturn, 1) := by decide +kernel
theorem dX7_readPair_34 : decode cX7_readPair 34 = .ok (.aload_n 0, 1) := by decide +kernel
theorem dX7_readPair_35 : decode cX7_readPair 35 = .ok (.getfield 21, 3) := by decide +kernel
theorem dX7_readPair_38 : decode cX7_readPair 38 = .ok (.aload_n 0, 1) := by decide +kernel
theorem dX7_readPair_39 : decode cX7_readPair 39 = .ok (.getfield 40, 3) := by decide +kernel
theorem dX7_readPair_42 : decode cX7_readPair 42 = .ok (.aload_n 0, 1) := by decide +kernel
theorem dX7_readPair_43 : decode cX7_readPair 43 = .ok (.invokevirtual 70, 3) := by decide +kernel
theorem dX7_readPair_46 : decode cX7_readPair 46 = .ok (.iastore, 1) := by decide +kernel
theorem dX7_readPair_47 : decode cX7_readPair 47 = .ok (.aload_n 0, 1) := by decide +kernel
theorem dX7_readPair_48 : decode cX7_readPair 48 = .ok (.getfield 21, 3) := by decide +kernel
theorem dX7_readPair_51 : decode cX7_readPair 51 = .ok (.aload_n 0, 1) := by decide +kernel
theorem dX7_readPair_52 : decode cX7_readPair 52 = .ok (.getfield 40, 3) := by decide +kernel
theorem dX7_readPair_55 : decode cX7_readPair 55 = .ok (.iaload, 1) := by decide +kernel
theorem dX7_readPair_56 : decode cX7_readPair 56 = .ok (.iconst (-1), 1) := by decide +kernel
theorem dX7_readPair_57 : decode cX7_readPair 57 = .ok (.if_icmp .eq 7, 3) := by decide +kernel
theorem dX7_readPair_60 : decode cX7_readPair 60 = .ok (.iconst 1, 1) := by decide +kernel
theorem dX7_readPair_61 : decode cX7_readPair 61 = .ok (.goto 4, 3) := by decide +kernel
theorem dX7_readPair_64 : decode cX7_readPair 64 = .ok (.iconst 0, 1) := by decide +kernel
theorem dX7_readPair_65 : decode cX7_readPair 65 = .ok (.ireturn, 1) := by decide +kernel
set_option maxRecDepth 20000 in
theorem ggX7_readRule_X7_startsWithArrow : GoodIn wsX7_readRule wsX7_startsWithArrow := goodIn_r _ [11, 12, 13, 14, 15, 16, 17, 10, 18, 45, 46, 47, 48, 49, 50, 51, 52, 53, 54] (by decide +kernel) (by decide +kernel)
set_option maxRecDepth 20000 in
theorem gX7_readRule_X7_startsWithArrow : GoodIn wsX7_readRule (wsV RX7 73 RX7 yX7_startsWithArrow wsX7_startsWithArrow) := goodIn_app (goodIn_of _ (by decide +kernel)) ggX7_readRule_X7_startsWithArrow
set_option maxRecDepth 20000 in
theorem ggX7_readRule_X7_readLiterals : GoodIn wsX7_readRule wsX7_readLiterals := goodIn_r _ [22, 23, 24, 25, 10, 26, 12, 27, 28, 29, 30, 13, 14, 15, 16, 17, 18, 31, 32, 33, 45, 46, 47, 48, 49, 50, 51, 52, 53, 54] (by decide +kernel) (by decide +kernel)
set_option maxRecDepth 20000 in
theorem gX7_readRule_X7_readLiterals : GoodIn wsX7_readRule (wsV RX7 76 RX7 yX7_readLiterals wsX7_readLiterals) := goodIn_app (goodIn_of _ (by decide +kernel)) ggX7_readRule_X7_readLiterals
set_option maxRecDepth 20000 in
theorem ggX7_readRule_X7_readArrow : GoodIn wsX7_readRule wsX7_readArrow := goodIn_r _ [37, 27, 28, 29, 10, 30, 12, 13, 14, 45, 46, 47, 48, 49, 50, 51, 52, 53, 54] (by decide +kernel) (by decide +kernel)
set_option maxRecDepth 20000 in
theorem gX7_readRule_X7_readArrow : GoodIn wsX7_readRule (wsV RX7 79 RX7 yX7_readArrow wsX7_readArrow) := goodIn_app (goodIn_of _ (by decide +kernel)) ggX7_readRule_X7_readArrow
set_option maxRecDepth 20000 in
theorem ggX7_readRule_X7_readLiteral : GoodIn wsX7_readRule wsX7_readLiteral := goodIn_r _ [26, 12, 27, 28, 29, 10, 30, 13, 14, 15, 16, 17, 18, 31, 32, 33, 45, 46, 47, 48, 49, 50, 51, 52, 53, 54] (by decide +kernel) (by decide +kernel)
set_option maxRecDepth 20000 in
theorem gX7_readRule_X7_readLiteral : GoodIn wsX7_readRule (wsV RX7 67 RX7 yX7_readLiteral wsX7_readLiteral) := goodIn_app (goodIn_of _ (by decide +kernel)) ggX7_readRule_X7_readLiteral
set_option maxRecDepth 20000 in
theorem ggX7_readRule_X7_take : GoodIn wsX7_readRule wsX7_take := goodIn_r _ [30, 12, 13, 14, 45, 46, 47, 48, 49, 50, 51, 52, 53, 54] (by decide +kernel) (by decide +kernel)
set_option maxRecDepth 20000 in
theorem gX7_readRule_X7_take : GoodIn wsX7_readRule (wsV RX7 47 RX7 yX7_take wsX7_take) := goodIn_app (goodIn_of _ (by decide +kernel)) ggX7_readRule_X7_take
set_option maxRecDepth 20000 in
theorem ggX7_readRule_X7_readFigure : GoodIn wsX7_readRule wsX7_readFigure := goodIn_r _ [41, 12, 15, 16, 17, 10, 18, 13, 14, 42, 43, 44, 45, 46, 47, 48, 49, 50, 51, 52, 53, 54] (by decide +kernel) (by decide +kernel)
set_option maxRecDepth 20000 in
theorem gX7_readRule_X7_readFigure : GoodIn wsX7_readRule (wsV RX7 82 RX7 yX7_readFigure wsX7_readFigure) := goodIn_app (goodIn_of _ (by decide +kernel)) ggX7_readRule_X7_readFigure
theorem dX7_readRule_0 : decode cX7_readRule 0 = .ok (.aload_n 0, 1) := by decide +kernel
theorem dX7_readRule_1 : decode cX7_readRule 1 = .ok (.getfield 21, 3) := by decide +kernel
theorem dX7_readRule_4 : decode cX7_readRule 4 = .ok (.aload_n 0, 1) := by decide +kernel
theorem dX7_readRule_5 : decode cX7_readRule 5 = .ok (.getfield 40, 3) := by decide +kernel
theorem dX7_readRule_8 : decode cX7_readRule 8 = .ok (.aload_n 0, 1) := by decide +kernel
theorem dX7_readRule_9 : decode cX7_readRule 9 = .ok (.invokevirtual 73, 3) := by decide +kernel
theorem dX7_readRule_12 : decode cX7_readRule 12 = .ok (.ifCond .eq 7, 3) := by decide +kernel
theorem dX7_readRule_15 : decode cX7_readRule 15 = .ok (.iconst 0, 1) := by decide +kernel
theorem dX7_readRule_16 : decode cX7_readRule 16 = .ok (.goto 7, 3) := by decide +kernel
theorem dX7_readRule_19 : decode cX7_readRule 19 = .ok (.aload_n 0, 1) := by decide +kernel
theorem dX7_readRule_20 : decode cX7_readRule 20 = .ok (.invokevirtual 76, 3) := by decide +kernel
theorem dX7_readRule_23 : decode cX7_readRule 23 = .ok (.iastore, 1) := by decide +kernel
theorem dX7_readRule_24 : decode cX7_readRule 24 = .ok (.aload_n 0, 1) := by decide +kernel
theorem dX7_readRule_25 : decode cX7_readRule 25 = .ok (.getfield 21, 3) := by decide +kernel
theorem dX7_readRule_28 : decode cX7_readRule 28 = .ok (.aload_n 0, 1) := by decide +kernel
theorem dX7_readRule_29 : decode cX7_readRule 29 = .ok (.getfield 40, 3) := by decide +kernel
theorem dX7_readRule_32 : decode cX7_readRule 32 = .ok (.iaload, 1) := by decide +kernel
theorem dX7_readRule_33 : decode cX7_readRule 33 = .ok (.iconst (-1), 1) := by decide +kernel
theorem dX7_readRule_34 : decode cX7_readRule 34 = .ok (.if_icmp .ne 5, 3) := by decide +kernel
theorem dX7_readRule_37 : decode cX7_readRule 37 = .ok (.iconst 0, 1) := by decide +kernel
theorem dX7_readRule_38 : decode cX7_readRule 38 = .ok (.ireturn, 1) := by decide +kernel
theorem dX7_readRule_39 : decode cX7_readRule 39 = .ok (.aload_n 0, 1) := by decide +kernel
theorem dX7_readRule_40 : decode cX7_readRule 40 = .ok (.getfield 15, 3) := by decide +kernel
theorem dX7_readRule_43 : decode cX7_readRule 43 = .ok (.aload_n 0, 1) := by decide +kernel
theorem dX7_readRule_44 : decode cX7_readRule 44 = .ok (.getfield 40, 3) := by decide +kernel
theorem dX7_readRule_47 : decode cX7_readRule 47 = .ok (.aload_n 0, 1) := by decide +kernel
theorem dX7_readRule_48 : decode cX7_readRule 48 = .ok (.invokevirtual 79, 3) := by decide +kernel
theorem dX7_readRule_51 : decode cX7_readRule 51 = .ok (.iastore, 1) := by decide +kernel
theorem dX7_readRule_52 : decode cX7_readRule 52 = .ok (.aload_n 0, 1) := by decide +kernel
theorem dX7_readRule_53 : decode cX7_readRule 53 = .ok (.getfield 15, 3) := by decide +kernel
theorem dX7_readRule_56 : decode cX7_readRule 56 = .ok (.aload_n 0, 1) := by decide +kernel
theorem dX7_readRule_57 : decode cX7_readRule 57 = .ok (.getfield 40, 3) := by decide +kernel
theorem dX7_readRule_60 : decode cX7_readRule 60 = .ok (.iaload, 1) := by decide +kernel
theorem dX7_readRule_61 : decode cX7_readRule 61 = .ok (.iconst (-1), 1) := by decide +kernel
theorem dX7_readRule_62 : decode cX7_readRule 62 = .ok (.if_icmp .ne 5, 3) := by decide +kernel
theorem dX7_readRule_65 : decode cX7_readRule 65 = .ok (.iconst 0, 1) := by decide +kernel
theorem dX7_readRule_66 : decode cX7_readRule 66 = .ok (.ireturn, 1) := by decide +kernel
theorem dX7_readRule_67 : decode cX7_readRule 67 = .ok (.aload_n 0, 1) := by decide +kernel
theorem dX7_readRule_68 : decode cX7_readRule 68 = .ok (.getfield 18, 3) := by decide +kernel
theorem dX7_readRule_71 : decode cX7_readRule 71 = .ok (.aload_n 0, 1) := by decide +kernel
theorem dX7_readRule_72 : decode cX7_readRule 72 = .ok (.getfield 40, 3) := by decide +kernel
theorem dX7_readRule_75 : decode cX7_readRule 75 = .ok (.aload_n 0, 1) := by decide +kernel
theorem dX7_readRule_76 : decode cX7_readRule 76 = .ok (.invokevirtual 67, 3) := by decide +kernel
theorem dX7_readRule_79 : decode cX7_readRule 79 = .ok (.iastore, 1) := by decide +kernel
theorem dX7_readRule_80 : decode cX7_readRule 80 = .ok (.aload_n 0, 1) := by decide +kernel
theorem dX7_readRule_81 : decode cX7_readRule 81 = .ok (.getfield 18, 3) := by decide +kernel
theorem dX7_readRule_84 : decode cX7_readRule 84 = .ok (.aload_n 0, 1) := by decide +kernel
theorem dX7_readRule_85 : decode cX7_readRule 85 = .ok (.getfield 40, 3) := by decide +kernel
theorem dX7_readRule_88 : decode cX7_readRule 88 = .ok (.iaload, 1) := by decide +kernel
theorem dX7_readRule_89 : decode cX7_readRule 89 = .ok (.iconst (-1), 1) := by decide +kernel
theorem dX7_readRule_90 : decode cX7_readRule 90 = .ok (.if_icmp .ne 5, 3) := by decide +kernel
theorem dX7_readRule_93 : decode cX7_readRule 93 = .ok (.iconst 0, 1) := by decide +kernel
theorem dX7_readRule_94 : decode cX7_readRule 94 = .ok (.ireturn, 1) := by decide +kernel
theorem dX7_readRule_95 : decode cX7_readRule 95 = .ok (.aload_n 0, 1) := by decide +kernel
theorem dX7_readRule_96 : decode cX7_readRule 96 = .ok (.getfield 24, 3) := by decide +kernel
theorem dX7_readRule_99 : decode cX7_readRule 99 = .ok (.aload_n 0, 1) := by decide +kernel
theorem dX7_readRule_100 : decode cX7_readRule 100 = .ok (.getfield 40, 3) := by decide +kernel
theorem dX7_readRule_103 : decode cX7_readRule 103 = .ok (.aload_n 0, 1) := by decide +kernel
theorem dX7_readRule_104 : decode cX7_readRule 104 = .ok (.bipush 63, 2) := by decide +kernel
theorem dX7_readRule_106 : decode cX7_readRule 106 = .ok (.invokevirtual 47, 3) := by decide +kernel
theorem dX7_readRule_109 : decode cX7_readRule 109 = .ok (.ifCond .eq 10, 3) := by decide +kernel
theorem dX7_readRule_112 : decode cX7_readRule 112 = .ok (.aload_n 0, 1) := by decide +kernel
theorem dX7_readRule_113 : decode cX7_readRule 113 = .ok (.invokevirtual 76, 3) := by decide +kernel
theorem dX7_readRule_116 : decode cX7_readRule 116 = .ok (.goto 4, 3) := by decide +kernel
theorem dX7_readRule_119 : decode cX7_readRule 119 = .ok (.iconst 0, 1) := by decide +kernel
theorem dX7_readRule_120 : decode cX7_readRule 120 = .ok (.iastore, 1) := by decide +kernel
theorem dX7_readRule_121 : decode cX7_readRule 121 = .ok (.aload_n 0, 1) := by decide +kernel
theorem dX7_readRule_122 : decode cX7_readRule 122 = .ok (.getfield 24, 3) := by decide +kernel
theorem dX7_readRule_125 : decode cX7_readRule 125 = .ok (.aload_n 0, 1) := by decide +kernel
theorem dX7_readRule_126 : decode cX7_readRule 126 = .ok (.getfield 40, 3) := by decide +kernel
theorem dX7_readRule_129 : decode cX7_readRule 129 = .ok (.iaload, 1) := by decide +kernel
theorem dX7_readRule_130 : decode cX7_readRule 130 = .ok (.iconst (-1), 1) := by decide +kernel
theorem dX7_readRule_131 : decode cX7_readRule 131 = .ok (.if_icmp .ne 5, 3) := by decide +kernel
theorem dX7_readRule_134 : decode cX7_readRule 134 = .ok (.iconst 0, 1) := by decide +kernel
theorem dX7_readRule_135 : decode cX7_readRule 135 = .ok (.ireturn, 1) := by decide +kernel
theorem dX7_readRule_136 : decode cX7_readRule 136 = .ok (.aload_n 0, 1) := by decide +kernel
theorem dX7_readRule_137 : decode cX7_readRule 137 = .ok (.getfield 27, 3) := by decide +kernel
theorem dX7_readRule_140 : decode cX7_readRule 140 = .ok (.aload_n 0, 1) := by decide +kernel
theorem dX7_readRule_141 : decode cX7_readRule 141 = .ok (.getfield 40, 3) := by decide +kernel
theorem dX7_readRule_144 : decode cX7_readRule 144 = .ok (.aload_n 0, 1) := by decide +kernel
theorem dX7_readRule_145 : decode cX7_readRule 145 = .ok (.bipush 42, 2) := by decide +kernel
theorem dX7_readRule_147 : decode cX7_readRule 147 = .ok (.invokevirtual 47, 3) := by decide +kernel
theorem dX7_readRule_150 : decode cX7_readRule 150 = .ok (.ifCond .eq 10, 3) := by decide +kernel
theorem dX7_readRule_153 : decode cX7_readRule 153 = .ok (.aload_n 0, 1) := by decide +kernel
theorem dX7_readRule_154 : decode cX7_readRule 154 = .ok (.invokevirtual 82, 3) := by decide +kernel
theorem dX7_readRule_157 : decode cX7_readRule 157 = .ok (.goto 4, 3) := by decide +kernel
theorem dX7_readRule_160 : decode cX7_readRule 160 = .ok (.iconst 0, 1) := by decide +kernel
theorem dX7_readRule_161 : decode cX7_readRule 161 = .ok (.iastore, 1) := by decide +kernel
theorem dX7_readRule_162 : decode cX7_readRule 162 = .ok (.aload_n 0, 1) := by decide +kernel
theorem dX7_readRule_163 : decode cX7_readRule 163 = .ok (.getfield 27, 3) := by decide +kernel
theorem dX7_readRule_166 : decode cX7_readRule 166 = .ok (.aload_n 0, 1) := by decide +kernel
theorem dX7_readRule_167 : decode cX7_readRule 167 = .ok (.getfield 40, 3) := by decide +kernel
theorem dX7_readRule_170 : decode cX7_readRule 170 = .ok (.iaload, 1) := by decide +kernel
theorem dX7_readRule_171 : decode cX7_readRule 171 = .ok (.iconst (-1), 1) := by decide +kernel
theorem dX7_readRule_172 : decode cX7_readRule 172 = .ok (.if_icmp .eq 7, 3) := by decide +kernel
theorem dX7_readRule_175 : decode cX7_readRule 175 = .ok (.iconst 1, 1) := by decide +kernel
theorem dX7_readRule_176 : decode cX7_readRule 176 = .ok (.goto 4, 3) := by decide +kernel
theorem dX7_readRule_179 : decode cX7_readRule 179 = .ok (.iconst 0, 1) := by decide +kernel
theorem dX7_readRule_180 : decode cX7_readRule 180 = .ok (.ireturn, 1) := by decide +kernel
set_option maxRecDepth 20000 in
theorem ggX7_startsWithArrow_X7_next : GoodIn wsX7_startsWithArrow wsX7_next := goodIn_r _ [8, 1, 2, 3, 9, 10, 11, 12, 13, 14, 15, 16, 17, 18] (by decide +kernel) (by decide +kernel)
set_option maxRecDepth 20000 in
theorem gX7_startsWithArrow_X7_next : GoodIn wsX7_startsWithArrow (wsV RX7 54 RX7 yX7_next wsX7_next) := goodIn_app (goodIn_of _ (by decide +kernel)) ggX7_startsWithArrow_X7_next
theorem dX7_startsWithArrow_0 : decode cX7_startsWithArrow 0 = .ok (.aload_n 0, 1) := by decide +kernel
theorem dX7_startsWithArrow_1 : decode cX7_startsWithArrow 1 = .ok (.invokevirtual 54, 3) := by decide +kernel
theorem dX7_startsWithArrow_4 : decode cX7_startsWithArrow 4 = .ok (.istore_n 1, 1) := by decide +kernel
theorem dX7_startsWithArrow_5 : decode cX7_startsWithArrow 5 = .ok (.iload_n 1, 1) := by decide +kernel
theorem dX7_startsWithArrow_6 : decode cX7_startsWithArrow 6 = .ok (.bipush 126, 2) := by decide +kernel
theorem dX7_startsWithArrow_8 : decode cX7_startsWithArrow 8 = .ok (.if_icmp .ne 38, 3) := by decide +kernel
theorem dX7_startsWithArrow_11 : decode cX7_startsWithArrow 11 = .ok (.aload_n 0, 1) := by decide +kernel
theorem dX7_startsWithArrow_12 : decode cX7_startsWithArrow 12 = .ok (.getfield 37, 3) := by decide +kernel
theorem dX7_startsWithArrow_15 : decode cX7_startsWithArrow 15 = .ok (.iconst 1, 1) := by decide +kernel
theorem dX7_startsWithArrow_16 : decode cX7_startsWithArrow 16 = .ok (.iadd, 1) := by decide +kernel
theorem dX7_startsWithArrow_17 : decode cX7_startsWithArrow 17 = .ok (.aload_n 0, 1) := by decide +kernel
theorem dX7_startsWithArrow_18 : decode cX7_startsWithArrow 18 = .ok (.getfield 33, 3) := by decide +kernel
theorem dX7_startsWithArrow_21 : decode cX7_startsWithArrow 21 = .ok (.if_icmp .ge 23, 3) := by decide +kernel
theorem dX7_startsWithArrow_24 : decode cX7_startsWithArrow 24 = .ok (.aload_n 0, 1) := by decide +kernel
theorem dX7_startsWithArrow_25 : decode cX7_startsWithArrow 25 = .ok (.getfield 9, 3) := by decide +kernel
theorem dX7_startsWithArrow_28 : decode cX7_startsWithArrow 28 = .ok (.aload_n 0, 1) := by decide +kernel
theorem dX7_startsWithArrow_29 : decode cX7_startsWithArrow 29 = .ok (.getfield 37, 3) := by decide +kernel
theorem dX7_startsWithArrow_32 : decode cX7_startsWithArrow 32 = .ok (.iconst 1, 1) := by decide +kernel
theorem dX7_startsWithArrow_33 : decode cX7_startsWithArrow 33 = .ok (.iadd, 1) := by decide +kernel
theorem dX7_startsWithArrow_34 : decode cX7_startsWithArrow 34 = .ok (.iaload, 1) := by decide +kernel
theorem dX7_startsWithArrow_35 : decode cX7_startsWithArrow 35 = .ok (.bipush 62, 2) := by decide +kernel
theorem dX7_startsWithArrow_37 : decode cX7_startsWithArrow 37 = .ok (.if_icmp .ne 7, 3) := by decide +kernel
theorem dX7_startsWithArrow_40 : decode cX7_startsWithArrow 40 = .ok (.iconst 1, 1) := by decide +kernel
theorem dX7_startsWithArrow_41 : decode cX7_startsWithArrow 41 = .ok (.goto 4, 3) := by decide +kernel
theorem dX7_startsWithArrow_44 : decode cX7_startsWithArrow 44 = .ok (.iconst 0, 1) := by decide +kernel
theorem dX7_startsWithArrow_45 : decode cX7_startsWithArrow 45 = .ok (.ireturn, 1) := by decide +kernel
theorem dX7_startsWithArrow_46 : decode cX7_startsWithArrow 46 = .ok (.iload_n 1, 1) := by decide +kernel
theorem dX7_startsWithArrow_47 : decode cX7_startsWithArrow 47 = .ok (.bipush 45, 2) := by decide +kernel
theorem dX7_startsWithArrow_49 : decode cX7_startsWithArrow 49 = .ok (.if_icmp .eq 9, 3) := by decide +kernel
theorem dX7_startsWithArrow_52 : decode cX7_startsWithArrow 52 = .ok (.iload_n 1, 1) := by decide +kernel
theorem dX7_startsWithArrow_53 : decode cX7_startsWithArrow 53 = .ok (.bipush 61, 2) := by decide +kernel
theorem dX7_startsWithArrow_55 : decode cX7_startsWithArrow 55 = .ok (.if_icmp .ne 7, 3) := by decide +kernel
theorem dX7_startsWithArrow_58 : decode cX7_startsWithArrow 58 = .ok (.iconst 1, 1) := by decide +kernel
theorem dX7_startsWithArrow_59 : decode cX7_startsWithArrow 59 = .ok (.goto 4, 3) := by decide +kernel
theorem dX7_startsWithArrow_62 : decode cX7_startsWithArrow 62 = .ok (.iconst 0, 1) := by decide +kernel
theorem dX7_startsWithArrow_63 : decode cX7_startsWithArrow 63 = .ok (.ireturn, 1) := by decide +kernel
set_option maxRecDepth 20000 in
theorem ggX7_readArrow_X7_take : GoodIn wsX7_readArrow wsX7_take := goodIn_r _ [5, 6, 7, 8, 9, 10, 11, 12, 13, 14, 15, 16, 17, 18] (by decide +kernel) (by decide +kernel)
set_option maxRecDepth 20000 in
theorem gX7_readArrow_X7_take : GoodIn wsX7_readArrow (wsV RX7 47 RX7 yX7_take wsX7_take) := goodIn_app (goodIn_of _ (by decide +kernel)) ggX7_readArrow_X7_take
theorem dX7_readArrow_0 : decode cX7_readArrow 0 = .ok (.iconst (-1), 1) := by decide +kernel
theorem dX7_readArrow_1 : decode cX7_readArrow 1 = .ok (.istore_n 1, 1) := by decide +kernel
theorem dX7_readArrow_2 : decode cX7_readArrow 2 = .ok (.aload_n 0, 1) := by decide +kernel
theorem dX7_readArrow_3 : decode cX7_readArrow 3 = .ok (.bipush 45, 2) := by decide +kernel
theorem dX7_readArrow_5 : decode cX7_readArrow 5 = .ok (.invokevirtual 47, 3) := by decide +kernel
theorem dX7_readArrow_8 : decode cX7_readArrow 8 = .ok (.ifCond .eq 8, 3) := by decide +kernel
theorem dX7_readArrow_11 : decode cX7_readArrow 11 = .ok (.iconst 0, 1) := by decide +kernel
theorem dX7_readArrow_12 : decode cX7_readArrow 12 = .ok (.istore_n 1, 1) := by decide +kernel
theorem dX7_readArrow_13 : decode cX7_readArrow 13 = .ok (.goto 28, 3) := by decide +kernel
theorem dX7_readArrow_16 : decode cX7_readArrow 16 = .ok (.aload_n 0, 1) := by decide +kernel
theorem dX7_readArrow_17 : decode cX7_readArrow 17 = .ok (.bipush 61, 2) := by decide +kernel
theorem dX7_readArrow_19 : decode cX7_readArrow 19 = .ok (.invokevirtual 47, 3) := by decide +kernel
theorem dX7_readArrow_22 : decode cX7_readArrow 22 = .ok (.ifCond .eq 8, 3) := by decide +kernel
theorem dX7_readArrow_25 : decode cX7_readArrow 25 = .ok (.iconst 1, 1) := by decide +kernel
theorem dX7_readArrow_26 : decode cX7_readArrow 26 = .ok (.istore_n 1, 1) := by decide +kernel
theorem dX7_readArrow_27 : decode cX7_readArrow 27 = .ok (.goto 14, 3) := by decide +kernel
theorem dX7_readArrow_30 : decode cX7_readArrow 30 = .ok (.aload_n 0, 1) := by decide +kernel
theorem dX7_readArrow_31 : decode cX7_readArrow 31 = .ok (.bipush 126, 2) := by decide +kernel
theorem dX7_readArrow_33 : decode cX7_readArrow 33 = .ok (.invokevirtual 47, 3) := by decide +kernel
theorem dX7_readArrow_36 : decode cX7_readArrow 36 = .ok (.ifCond .eq 5, 3) := by decide +kernel
theorem dX7_readArrow_39 : decode cX7_readArrow 39 = .ok (.iconst 2, 1) := by decide +kernel
theorem dX7_readArrow_40 : decode cX7_readArrow 40 = .ok (.istore_n 1, 1) := by decide +kernel
theorem dX7_readArrow_41 : decode cX7_readArrow 41 = .ok (.iload_n 1, 1) := by decide +kernel
theorem dX7_readArrow_42 : decode cX7_readArrow 42 = .ok (.iconst (-1), 1) := by decide +kernel
theorem dX7_readArrow_43 : decode cX7_readArrow 43 = .ok (.if_icmp .eq 16, 3) := by decide +kernel
theorem dX7_readArrow_46 : decode cX7_readArrow 46 = .ok (.aload_n 0, 1) := by decide +kernel
theorem dX7_readArrow_47 : decode cX7_readArrow 47 = .ok (.bipush 62, 2) := by decide +kernel
theorem dX7_readArrow_49 : decode cX7_readArrow 49 = .ok (.invokevirtual 47, 3) := by decide +kernel
theorem dX7_readArrow_52 : decode cX7_readArrow 52 = .ok (.ifCond .eq 7, 3) := by decide +kernel
theorem dX7_readArrow_55 : decode cX7_readArrow 55 = .ok (.iload_n 1, 1) := by decide +kernel
theorem dX7_readArrow_56 : decode cX7_readArrow 56 = .ok (.goto 4, 3) := by decide +kernel
theorem dX7_readArrow_59 : decode cX7_readArrow 59 = .ok (.iconst (-1), 1) := by decide +kernel
theorem dX7_readArrow_60 : decode cX7_readArrow 60 = .ok (.ireturn, 1) := by decide +kernel
set_option maxRecDepth 20000 in
theorem ggX7_readLiterals_X7_readLiteral : GoodIn wsX7_readLiterals wsX7_readLiteral := goodIn_r _ [5, 6, 7, 8, 9, 4, 10, 11, 12, 13, 14, 15, 16, 17, 18, 19, 20, 21, 22, 23, 24, 25, 26, 27, 28, 29] (by decide +kernel) (by decide +kernel)
set_option maxRecDepth 20000 in
theorem gX7_readLiterals_X7_readLiteral : GoodIn wsX7_readLiterals (wsV RX7 67 RX7 yX7_readLiteral wsX7_readLiteral) := goodIn_app (goodIn_of _ (by decide +kernel)) ggX7_readLiterals_X7_readLiteral
set_option maxRecDepth 20000 in
theorem ggX7_readLiterals_X7_take : GoodIn wsX7_readLiterals wsX7_take := goodIn_r _ [10, 6, 11, 12, 20, 21, 22, 23, 24, 25, 26, 27, 28, 29] (by decide +kernel) (by decide +kernel)
set_option maxRecDepth 20000 in
theorem gX7_readLiterals_X7_take : GoodIn wsX7_readLiterals (wsV RX7 47 RX7 yX7_take wsX7_take) := goodIn_app (goodIn_of _ (by decide +kernel)) ggX7_readLiterals_X7_take
theorem dX7_readLiterals_0 : decode cX7_readLiterals 0 = .ok (.iconst 0, 1) := by decide +kernel
theorem dX7_readLiterals_1 : decode cX7_readLiterals 1 = .ok (.istore_n 1, 1) := by decide +kernel
theorem dX7_readLiterals_2 : decode cX7_readLiterals 2 = .ok (.iconst 1, 1) := by decide +kernel
theorem dX7_readLiterals_3 : decode cX7_readLiterals 3 = .ok (.istore_n 2, 1) := by decide +kernel
theorem dX7_readLiterals_4 : decode cX7_readLiterals 4 = .ok (.iconst 0, 1) := by decide +kernel
theorem dX7_readLiterals_5 : decode cX7_readLiterals 5 = .ok (.istore_n 3, 1) := by decide +kernel
theorem dX7_readLiterals_6 : decode cX7_readLiterals 6 = .ok (.iload_n 3, 1) := by decide +kernel
theorem dX7_readLiterals_7 : decode cX7_readLiterals 7 = .ok (.bipush 120, 2) := by decide +kernel
theorem dX7_readLiterals_9 : decode cX7_readLiterals 9 = .ok (.if_icmp .ge 41, 3) := by decide +kernel
theorem dX7_readLiterals_12 : decode cX7_readLiterals 12 = .ok (.iload_n 2, 1) := by decide +kernel
theorem dX7_readLiterals_13 : decode cX7_readLiterals 13 = .ok (.ifCond .eq 37, 3) := by decide +kernel
theorem dX7_readLiterals_16 : decode cX7_readLiterals 16 = .ok (.aload_n 0, 1) := by decide +kernel
theorem dX7_readLiterals_17 : decode cX7_readLiterals 17 = .ok (.invokevirtual 67, 3) := by decide +kernel
theorem dX7_readLiterals_20 : decode cX7_readLiterals 20 = .ok (.istore 4, 2) := by decide +kernel
theorem dX7_readLiterals_22 : decode cX7_readLiterals 22 = .ok (.iload 4, 2) := by decide +kernel
theorem dX7_readLiterals_24 : decode cX7_readLiterals 24 = .ok (.iconst (-1), 1) := by decide +kernel
theorem dX7_readLiterals_25 : decode cX7_readLiterals 25 = .ok (.if_icmp .ne 5, 3) := by decide +kernel
theorem dX7_readLiterals_28 : decode cX7_readLiterals 28 = .ok (.iconst (-1), 1) := by decide +kernel
theorem dX7_readLiterals_29 : decode cX7_readLiterals 29 = .ok (.ireturn, 1) := by decide +kernel
theorem dX7_readLiterals_30 : decode cX7_readLiterals 30 = .ok (.iload_n 1, 1) := by decide +kernel
theorem dX7_readLiterals_31 : decode cX7_readLiterals 31 = .ok (.iconst 1, 1) := by decide +kernel
theorem dX7_readLiterals_32 : decode cX7_readLiterals 32 = .ok (.iload 4, 2) := by decide +kernel
theorem dX7_readLiterals_34 : decode cX7_readLiterals 34 = .ok (.ishl, 1) := by decide +kernel
theorem dX7_readLiterals_35 : decode cX7_readLiterals 35 = .ok (.ior, 1) := by decide +kernel
theorem dX7_readLiterals_36 : decode cX7_readLiterals 36 = .ok (.istore_n 1, 1) := by decide +kernel
theorem dX7_readLiterals_37 : decode cX7_readLiterals 37 = .ok (.aload_n 0, 1) := by decide +kernel
theorem dX7_readLiterals_38 : decode cX7_readLiterals 38 = .ok (.bipush 44, 2) := by decide +kernel
theorem dX7_readLiterals_40 : decode cX7_readLiterals 40 = .ok (.invokevirtual 47, 3) := by decide +kernel
theorem dX7_readLiterals_43 : decode cX7_readLiterals 43 = .ok (.istore_n 2, 1) := by decide +kernel
theorem dX7_readLiterals_44 : decode cX7_readLiterals 44 = .ok (.iinc 3 1, 3) := by decide +kernel
theorem dX7_readLiterals_47 : decode cX7_readLiterals 47 = .ok (.goto (-41), 3) := by decide +kernel
theorem dX7_readLiterals_50 : decode cX7_readLiterals 50 = .ok (.iload_n 1, 1) := by decide +kernel
theorem dX7_readLiterals_51 : decode cX7_readLiterals 51 = .ok (.ireturn, 1) := by decide +kernel
set_option maxRecDepth 20000 in
theorem ggX7_readLiteral_X7_take : GoodIn wsX7_readLiteral wsX7_take := goodIn_r _ [6, 1, 7, 8, 16, 17, 18, 19, 20, 21, 22, 23, 24, 25] (by decide +kernel) (by decide +kernel)
set_option maxRecDepth 20000 in
theorem gX7_readLiteral_X7_take : GoodIn wsX7_readLiteral (wsV RX7 47 RX7 yX7_take wsX7_take) := goodIn_app (goodIn_of _ (by decide +kernel)) ggX7_readLiteral_X7_take
set_option maxRecDepth 20000 in
theorem ggX7_readLiteral_X7_next : GoodIn wsX7_readLiteral wsX7_next := goodIn_r _ [12, 1, 7, 8, 16, 17, 18, 19, 20, 21, 22, 23, 24, 25] (by decide +kernel) (by decide +kernel)
set_option maxRecDepth 20000 in
theorem gX7_readLiteral_X7_next : GoodIn wsX7_readLiteral (wsV RX7 54 RX7 yX7_next wsX7_next) := goodIn_app (goodIn_of _ (by decide +kernel)) ggX7_readLiteral_X7_next
set_option maxRecDepth 20000 in
theorem ggX7_readLiteral_X8_otherOf : GoodIn wsX7_readLiteral wsX8_otherOf := goodIn_r _ [15] (by decide +kernel) (by decide +kernel)
set_option maxRecDepth 20000 in
theorem gX7_readLiteral_X8_otherOf_n85 : GoodIn wsX7_readLiteral (wsX8_otherOf) := ggX7_readLiteral_X8_otherOf
theorem dX7_readLiteral_0 : decode cX7_readLiteral 0 = .ok (.aload_n 0, 1) := by decide +kernel
theorem dX7_readLiteral_1 : decode cX7_readLiteral 1 = .ok (.bipush 126, 2) := by decide +kernel
theorem dX7_readLiteral_3 : decode cX7_readLiteral 3 = .ok (.invokevirtual 47, 3) := by decide +kernel
theorem dX7_readLiteral_6 : decode cX7_readLiteral 6 = .ok (.istore_n 1, 1) := by decide +kernel
theorem dX7_readLiteral_7 : decode cX7_readLiteral 7 = .ok (.aload_n 0, 1) := by decide +kernel
theorem dX7_readLiteral_8 : decode cX7_readLiteral 8 = .ok (.invokevirtual 54, 3) := by decide +kernel
theorem dX7_readLiteral_11 : decode cX7_readLiteral 11 = .ok (.istore_n 2, 1) := by decide +kernel
theorem dX7_readLiteral_12 : decode cX7_readLiteral 12 = .ok (.iload_n 2, 1) := by decide +kernel
theorem dX7_readLiteral_13 : decode cX7_readLiteral 13 = .ok (.bipush 97, 2) := by decide +kernel
theorem dX7_readLiteral_15 : decode cX7_readLiteral 15 = .ok (.if_icmp .lt 9, 3) := by decide +kernel
theorem dX7_readLiteral_18 : decode cX7_readLiteral 18 = .ok (.iload_n 2, 1) := by decide +kernel
theorem dX7_readLiteral_19 : decode cX7_readLiteral 19 = .ok (.bipush 106, 2) := by decide +kernel
theorem dX7_readLiteral_21 : decode cX7_readLiteral 21 = .ok (.if_icmp .le 5, 3) := by decide +kernel
theorem dX7_readLiteral_24 : decode cX7_readLiteral 24 = .ok (.iconst (-1), 1) := by decide +kernel
theorem dX7_readLiteral_25 : decode cX7_readLiteral 25 = .ok (.ireturn, 1) := by decide +kernel
theorem dX7_readLiteral_26 : decode cX7_readLiteral 26 = .ok (.aload_n 0, 1) := by decide +kernel
theorem dX7_readLiteral_27 : decode cX7_readLiteral 27 = .ok (.dup, 1) := by decide +kernel
theorem dX7_readLiteral_28 : decode cX7_readLiteral 28 = .ok (.getfield 37, 3) := by decide +kernel
theorem dX7_readLiteral_31 : decode cX7_readLiteral 31 = .ok (.iconst 1, 1) := by decide +kernel
theorem dX7_readLiteral_32 : decode cX7_readLiteral 32 = .ok (.iadd, 1) := by decide +kernel
theorem dX7_readLiteral_33 : decode cX7_readLiteral 33 = .ok (.putfield 37, 3) := by decide +kernel
theorem dX7_readLiteral_36 : decode cX7_readLiteral 36 = .ok (.iload_n 2, 1) := by decide +kernel
theorem dX7_readLiteral_37 : decode cX7_readLiteral 37 = .ok (.bipush 97, 2) := by decide +kernel
theorem dX7_readLiteral_39 : decode cX7_readLiteral 39 = .ok (.isub, 1) := by decide +kernel
theorem dX7_readLiteral_40 : decode cX7_readLiteral 40 = .ok (.istore_n 3, 1) := by decide +kernel
theorem dX7_readLiteral_41 : decode cX7_readLiteral 41 = .ok (.iload_n 1, 1) := by decide +kernel
theorem dX7_readLiteral_42 : decode cX7_readLiteral 42 = .ok (.ifCond .eq 10, 3) := by decide +kernel
theorem dX7_readLiteral_45 : decode cX7_readLiteral 45 = .ok (.iload_n 3, 1) := by decide +kernel
theorem dX7_readLiteral_46 : decode cX7_readLiteral 46 = .ok (.invokestatic 85, 3) := by decide +kernel
theorem dX7_readLiteral_49 : decode cX7_readLiteral 49 = .ok (.goto 4, 3) := by decide +kernel
theorem dX7_readLiteral_52 : decode cX7_readLiteral 52 = .ok (.iload_n 3, 1) := by decide +kernel
theorem dX7_readLiteral_53 : decode cX7_readLiteral 53 = .ok (.ireturn, 1) := by decide +kernel
set_option maxRecDepth 20000 in
theorem ggX7_readNumber_X7_readFigure : GoodIn wsX7_readNumber wsX7_readFigure := goodIn_r _ [5, 6, 7, 8, 9, 4, 10, 11, 12, 13, 14, 15, 16, 17, 18, 19, 20, 21, 22, 23, 24, 25] (by decide +kernel) (by decide +kernel)
set_option maxRecDepth 20000 in
theorem gX7_readNumber_X7_readFigure : GoodIn wsX7_readNumber (wsV RX7 82 RX7 yX7_readFigure wsX7_readFigure) := goodIn_app (goodIn_of _ (by decide +kernel)) ggX7_readNumber_X7_readFigure
set_option maxRecDepth 20000 in
theorem ggX7_readNumber_X7_next : GoodIn wsX7_readNumber wsX7_next := goodIn_r _ [10, 6, 11, 12, 16, 17, 18, 19, 20, 21, 22, 23, 24, 25] (by decide +kernel) (by decide +kernel)
set_option maxRecDepth 20000 in
theorem gX7_readNumber_X7_next : GoodIn wsX7_readNumber (wsV RX7 54 RX7 yX7_next wsX7_next) := goodIn_app (goodIn_of _ (by decide +kernel)) ggX7_readNumber_X7_next
set_option maxRecDepth 20000 in
theorem ggX7_readNumber_X7_isFigure : GoodIn wsX7_readNumber wsX7_isFigure := goodIn_r _ [15] (by decide +kernel) (by decide +kernel)
set_option maxRecDepth 20000 in
theorem gX7_readNumber_X7_isFigure : GoodIn wsX7_readNumber (va_wsS RX7 58 yX7_isFigure wsX7_isFigure) := goodIn_app (goodIn_of _ (by decide +kernel)) ggX7_readNumber_X7_isFigure
theorem dX7_readNumber_0 : decode cX7_readNumber 0 = .ok (.aload_n 0, 1) := by decide +kernel
theorem dX7_readNumber_1 : decode cX7_readNumber 1 = .ok (.invokevirtual 82, 3) := by decide +kernel
theorem dX7_readNumber_4 : decode cX7_readNumber 4 = .ok (.istore_n 1, 1) := by decide +kernel
theorem dX7_readNumber_5 : decode cX7_readNumber 5 = .ok (.iload_n 1, 1) := by decide +kernel
theorem dX7_readNumber_6 : decode cX7_readNumber 6 = .ok (.iconst (-1), 1) := by decide +kernel
theorem dX7_readNumber_7 : decode cX7_readNumber 7 = .ok (.if_icmp .eq 13, 3) := by decide +kernel
theorem dX7_readNumber_10 : decode cX7_readNumber 10 = .ok (.aload_n 0, 1) := by decide +kernel
theorem dX7_readNumber_11 : decode cX7_readNumber 11 = .ok (.invokevirtual 54, 3) := by decide +kernel
theorem dX7_readNumber_14 : decode cX7_readNumber 14 = .ok (.invokestatic 58, 3) := by decide +kernel
theorem dX7_readNumber_17 : decode cX7_readNumber 17 = .ok (.ifCond .ne 5, 3) := by decide +kernel
theorem dX7_readNumber_20 : decode cX7_readNumber 20 = .ok (.iload_n 1, 1) := by decide +kernel
theorem dX7_readNumber_21 : decode cX7_readNumber 21 = .ok (.ireturn, 1) := by decide +kernel
theorem dX7_readNumber_22 : decode cX7_readNumber 22 = .ok (.bipush 10, 2) := by decide +kernel
theorem dX7_readNumber_24 : decode cX7_readNumber 24 = .ok (.iload_n 1, 1) := by decide +kernel
theorem dX7_readNumber_25 : decode cX7_readNumber 25 = .ok (.imul, 1) := by decide +kernel
theorem dX7_readNumber_26 : decode cX7_readNumber 26 = .ok (.aload_n 0, 1) := by decide +kernel
theorem dX7_readNumber_27 : decode cX7_readNumber 27 = .ok (.invokevirtual 82, 3) := by decide +kernel
theorem dX7_readNumber_30 : decode cX7_readNumber 30 = .ok (.iadd, 1) := by decide +kernel
theorem dX7_readNumber_31 : decode cX7_readNumber 31 = .ok (.ireturn, 1) := by decide +kernel
set_option maxRecDepth 20000 in
theorem ggX7_readFigure_X7_next : GoodIn wsX7_readFigure wsX7_next := goodIn_r _ [6, 1, 7, 8, 12, 13, 14, 15, 16, 17, 18, 19, 20, 21] (by decide +kernel) (by decide +kernel)
set_option maxRecDepth 20000 in
theorem gX7_readFigure_X7_next : GoodIn wsX7_readFigure (wsV RX7 54 RX7 yX7_next wsX7_next) := goodIn_app (goodIn_of _ (by decide +kernel)) ggX7_readFigure_X7_next
set_option maxRecDepth 20000 in
theorem ggX7_readFigure_X7_isFigure : GoodIn wsX7_readFigure wsX7_isFigure := goodIn_r _ [11] (by decide +kernel) (by decide +kernel)
set_option maxRecDepth 20000 in
theorem gX7_readFigure_X7_isFigure : GoodIn wsX7_readFigure (va_wsS RX7 58 yX7_isFigure wsX7_isFigure) := goodIn_app (goodIn_of _ (by decide +kernel)) ggX7_readFigure_X7_isFigure
theorem dX7_readFigure_0 : decode cX7_readFigure 0 = .ok (.aload_n 0, 1) := by decide +kernel
theorem dX7_readFigure_1 : decode cX7_readFigure 1 = .ok (.invokevirtual 54, 3) := by decide +kernel
theorem dX7_readFigure_4 : decode cX7_readFigure 4 = .ok (.istore_n 1, 1) := by decide +kernel
theorem dX7_readFigure_5 : decode cX7_readFigure 5 = .ok (.iload_n 1, 1) := by decide +kernel
theorem dX7_readFigure_6 : decode cX7_readFigure 6 = .ok (.invokestatic 58, 3) := by decide +kernel
theorem dX7_readFigure_9 : decode cX7_readFigure 9 = .ok (.ifCond .ne 5, 3) := by decide +kernel
theorem dX7_readFigure_12 : decode cX7_readFigure 12 = .ok (.iconst (-1), 1) := by decide +kernel
theorem dX7_readFigure_13 : decode cX7_readFigure 13 = .ok (.ireturn, 1) := by decide +kernel
theorem dX7_readFigure_14 : decode cX7_readFigure 14 = .ok (.aload_n 0, 1) := by decide +kernel
theorem dX7_readFigure_15 : decode cX7_readFigure 15 = .ok (.dup, 1) := by decide +kernel
theorem dX7_readFigure_16 : decode cX7_readFigure 16 = .ok (.getfield 37, 3) := by decide +kernel
theorem dX7_readFigure_19 : decode cX7_readFigure 19 = .ok (.iconst 1, 1) := by decide +kernel
theorem dX7_readFigure_20 : decode cX7_readFigure 20 = .ok (.iadd, 1) := by decide +kernel
theorem dX7_readFigure_21 : decode cX7_readFigure 21 = .ok (.putfield 37, 3) := by decide +kernel
theorem dX7_readFigure_24 : decode cX7_readFigure 24 = .ok (.iload_n 1, 1) := by decide +kernel
theorem dX7_readFigure_25 : decode cX7_readFigure 25 = .ok (.bipush 48, 2) := by decide +kernel
theorem dX7_readFigure_27 : decode cX7_readFigure 27 = .ok (.isub, 1) := by decide +kernel
theorem dX7_readFigure_28 : decode cX7_readFigure 28 = .ok (.ireturn, 1) := by decide +kernel
theorem dX7_take_0 : decode cX7_take 0 = .ok (.aload_n 0, 1) := by decide +kernel
theorem dX7_take_1 : decode cX7_take 1 = .ok (.getfield 37, 3) := by decide +kernel
theorem dX7_take_4 : decode cX7_take 4 = .ok (.aload_n 0, 1) := by decide +kernel
theorem dX7_take_5 : decode cX7_take 5 = .ok (.getfield 33, 3) := by decide +kernel
theorem dX7_take_8 : decode cX7_take 8 = .ok (.if_icmp .ge 16, 3) := by decide +kernel
theorem dX7_take_11 : decode cX7_take 11 = .ok (.aload_n 0, 1) := by decide +kernel
theorem dX7_take_12 : decode cX7_take 12 = .ok (.getfield 9, 3) := by decide +kernel
theorem dX7_take_15 : decode cX7_take 15 = .ok (.aload_n 0, 1) := by decide +kernel
theorem dX7_take_16 : decode cX7_take 16 = .ok (.getfield 37, 3) := by decide +kernel
theorem dX7_take_19 : decode cX7_take 19 = .ok (.iaload, 1) := by decide +kernel
theorem dX7_take_20 : decode cX7_take 20 = .ok (.iload_n 1, 1) := by decide +kernel
theorem dX7_take_21 : decode cX7_take 21 = .ok (.if_icmp .eq 5, 3) := by decide +kernel
theorem dX7_take_24 : decode cX7_take 24 = .ok (.iconst 0, 1) := by decide +kernel
theorem dX7_take_25 : decode cX7_take 25 = .ok (.ireturn, 1) := by decide +kernel
theorem dX7_take_26 : decode cX7_take 26 = .ok (.aload_n 0, 1) := by decide +kernel
theorem dX7_take_27 : decode cX7_take 27 = .ok (.dup, 1) := by decide +kernel
theorem dX7_take_28 : decode cX7_take 28 = .ok (.getfield 37, 3) := by decide +kernel
theorem dX7_take_31 : decode cX7_take 31 = .ok (.iconst 1, 1) := by decide +kernel
theorem dX7_take_32 : decode cX7_take 32 = .ok (.iadd, 1) := by decide +kernel
theorem dX7_take_33 : decode cX7_take 33 = .ok (.putfield 37, 3) := by decide +kernel
theorem dX7_take_36 : decode cX7_take 36 = .ok (.iconst 1, 1) := by decide +kernel
theorem dX7_take_37 : decode cX7_take 37 = .ok (.ireturn, 1) := by decide +kernel
theorem dX7_next_0 : decode cX7_next 0 = .ok (.aload_n 0, 1) := by decide +kernel
theorem dX7_next_1 : decode cX7_next 1 = .ok (.getfield 37, 3) := by decide +kernel
theorem dX7_next_4 : decode cX7_next 4 = .ok (.aload_n 0, 1) := by decide +kernel
theorem dX7_next_5 : decode cX7_next 5 = .ok (.getfield 33, 3) := by decide +kernel
theorem dX7_next_8 : decode cX7_next 8 = .ok (.if_icmp .ge 15, 3) := by decide +kernel
theorem dX7_next_11 : decode cX7_next 11 = .ok (.aload_n 0, 1) := by decide +kernel
theorem dX7_next_12 : decode cX7_next 12 = .ok (.getfield 9, 3) := by decide +kernel
theorem dX7_next_15 : decode cX7_next 15 = .ok (.aload_n 0, 1) := by decide +kernel
theorem dX7_next_16 : decode cX7_next 16 = .ok (.getfield 37, 3) := by decide +kernel
theorem dX7_next_19 : decode cX7_next 19 = .ok (.iaload, 1) := by decide +kernel
theorem dX7_next_20 : decode cX7_next 20 = .ok (.goto 4, 3) := by decide +kernel
theorem dX7_next_23 : decode cX7_next 23 = .ok (.iconst 0, 1) := by decide +kernel
theorem dX7_next_24 : decode cX7_next 24 = .ok (.ireturn, 1) := by decide +kernel
theorem dX7_isFigure_0 : decode cX7_isFigure 0 = .ok (.iload_n 0, 1) := by decide +kernel
theorem dX7_isFigure_1 : decode cX7_isFigure 1 = .ok (.bipush 48, 2) := by decide +kernel
theorem dX7_isFigure_3 : decode cX7_isFigure 3 = .ok (.if_icmp .lt 13, 3) := by decide +kernel
theorem dX7_isFigure_6 : decode cX7_isFigure 6 = .ok (.iload_n 0, 1) := by decide +kernel
theorem dX7_isFigure_7 : decode cX7_isFigure 7 = .ok (.bipush 57, 2) := by decide +kernel
theorem dX7_isFigure_9 : decode cX7_isFigure 9 = .ok (.if_icmp .gt 7, 3) := by decide +kernel
theorem dX7_isFigure_12 : decode cX7_isFigure 12 = .ok (.iconst 1, 1) := by decide +kernel
theorem dX7_isFigure_13 : decode cX7_isFigure 13 = .ok (.goto 4, 3) := by decide +kernel
theorem dX7_isFigure_16 : decode cX7_isFigure 16 = .ok (.iconst 0, 1) := by decide +kernel
theorem dX7_isFigure_17 : decode cX7_isFigure 17 = .ok (.ireturn, 1) := by decide +kernel
set_option maxRecDepth 20000 in
theorem ggX7_tell_X7_tellFact : GoodIn wsX7_tell wsX7_tellFact := goodIn_r _ [8, 9, 10, 11, 12, 54, 55, 56, 57, 58, 59, 60, 61, 62] (by decide +kernel) (by decide +kernel)
set_option maxRecDepth 20000 in
theorem gX7_tell_X7_tellFact : GoodIn wsX7_tell (wsV RX7 89 RX7 yX7_tellFact wsX7_tellFact) := goodIn_app (goodIn_of _ (by decide +kernel)) ggX7_tell_X7_tellFact
set_option maxRecDepth 20000 in
theorem ggX7_tell_X7_tellPair : GoodIn wsX7_tell wsX7_tellPair := goodIn_r _ [16, 17, 18, 19, 20, 21, 22, 23, 24, 25, 26, 27, 28, 10, 11, 12, 54, 55, 56, 57, 58, 59, 60, 61, 62] (by decide +kernel) (by decide +kernel)
set_option maxRecDepth 20000 in
theorem gX7_tell_X7_tellPair : GoodIn wsX7_tell (wsV RX7 93 RX7 yX7_tellPair wsX7_tellPair) := goodIn_app (goodIn_of _ (by decide +kernel)) ggX7_tell_X7_tellPair
set_option maxRecDepth 20000 in
theorem ggX7_tell_X7_tellRule : GoodIn wsX7_tell wsX7_tellRule := goodIn_r _ [32, 1, 33, 2, 3, 34, 35, 36, 37, 21, 38, 23, 39, 40, 41, 42, 43, 28, 44, 45, 46, 47, 48, 49, 50, 51, 52, 53, 54, 55, 56, 57, 58, 59, 60, 61, 62] (by decide +kernel) (by decide +kernel)
set_option maxRecDepth 20000 in
theorem gX7_tell_X7_tellRule : GoodIn wsX7_tell (wsV RX7 97 RX7 yX7_tellRule wsX7_tellRule) := goodIn_app (goodIn_of _ (by decide +kernel)) ggX7_tell_X7_tellRule
theorem dX7_tell_0 : decode cX7_tell 0 = .ok (.aload_n 0, 1) := by decide +kernel
theorem dX7_tell_1 : decode cX7_tell 1 = .ok (.getfield 15, 3) := by decide +kernel
theorem dX7_tell_4 : decode cX7_tell 4 = .ok (.iload_n 1, 1) := by decide +kernel
theorem dX7_tell_5 : decode cX7_tell 5 = .ok (.iaload, 1) := by decide +kernel
theorem dX7_tell_6 : decode cX7_tell 6 = .ok (.lookupswitch 56 #[(3, 26), (4, 38)], 26) := by decide +kernel
theorem dX7_tell_32 : decode cX7_tell 32 = .ok (.aload_n 0, 1) := by decide +kernel
theorem dX7_tell_33 : decode cX7_tell 33 = .ok (.aload_n 0, 1) := by decide +kernel
theorem dX7_tell_34 : decode cX7_tell 34 = .ok (.getfield 18, 3) := by decide +kernel
theorem dX7_tell_37 : decode cX7_tell 37 = .ok (.iload_n 1, 1) := by decide +kernel
theorem dX7_tell_38 : decode cX7_tell 38 = .ok (.iaload, 1) := by decide +kernel
theorem dX7_tell_39 : decode cX7_tell 39 = .ok (.aload_n 2, 1) := by decide +kernel
theorem dX7_tell_40 : decode cX7_tell 40 = .ok (.invokevirtual 89, 3) := by decide +kernel
theorem dX7_tell_43 : decode cX7_tell 43 = .ok (.ireturn, 1) := by decide +kernel
theorem dX7_tell_44 : decode cX7_tell 44 = .ok (.aload_n 0, 1) := by decide +kernel
theorem dX7_tell_45 : decode cX7_tell 45 = .ok (.aload_n 0, 1) := by decide +kernel
theorem dX7_tell_46 : decode cX7_tell 46 = .ok (.getfield 18, 3) := by decide +kernel
theorem dX7_tell_49 : decode cX7_tell 49 = .ok (.iload_n 1, 1) := by decide +kernel
theorem dX7_tell_50 : decode cX7_tell 50 = .ok (.iaload, 1) := by decide +kernel
theorem dX7_tell_51 : decode cX7_tell 51 = .ok (.aload_n 0, 1) := by decide +kernel
theorem dX7_tell_52 : decode cX7_tell 52 = .ok (.getfield 21, 3) := by decide +kernel
theorem dX7_tell_55 : decode cX7_tell 55 = .ok (.iload_n 1, 1) := by decide +kernel
theorem dX7_tell_56 : decode cX7_tell 56 = .ok (.iaload, 1) := by decide +kernel
theorem dX7_tell_57 : decode cX7_tell 57 = .ok (.aload_n 2, 1) := by decide +kernel
theorem dX7_tell_58 : decode cX7_tell 58 = .ok (.invokevirtual 93, 3) := by decide +kernel
theorem dX7_tell_61 : decode cX7_tell 61 = .ok (.ireturn, 1) := by decide +kernel
theorem dX7_tell_62 : decode cX7_tell 62 = .ok (.aload_n 0, 1) := by decide +kernel
theorem dX7_tell_63 : decode cX7_tell 63 = .ok (.iload_n 1, 1) := by decide +kernel
theorem dX7_tell_64 : decode cX7_tell 64 = .ok (.aload_n 2, 1) := by decide +kernel
theorem dX7_tell_65 : decode cX7_tell 65 = .ok (.invokevirtual 97, 3) := by decide +kernel
theorem dX7_tell_68 : decode cX7_tell 68 = .ok (.ireturn, 1) := by decide +kernel
set_option maxRecDepth 20000 in
theorem ggX7_tellFact_X8_has : GoodIn wsX7_tellFact wsX8_has := goodIn_r _ [4] (by decide +kernel) (by decide +kernel)
set_option maxRecDepth 20000 in
theorem gX7_tellFact_X8_has_n105 : GoodIn wsX7_tellFact (wsX8_has) := ggX7_tellFact_X8_has
theorem dX7_tellFact_0 : decode cX7_tellFact 0 = .ok (.aload_n 2, 1) := by decide +kernel
theorem dX7_tellFact_1 : decode cX7_tellFact 1 = .ok (.getfield 100, 3) := by decide +kernel
theorem dX7_tellFact_4 : decode cX7_tellFact 4 = .ok (.iload_n 1, 1) := by decide +kernel
theorem dX7_tellFact_5 : decode cX7_tellFact 5 = .ok (.invokestatic 105, 3) := by decide +kernel
theorem dX7_tellFact_8 : decode cX7_tellFact 8 = .ok (.ifCond .eq 5, 3) := by decide +kernel
theorem dX7_tellFact_11 : decode cX7_tellFact 11 = .ok (.iconst 0, 1) := by decide +kernel
theorem dX7_tellFact_12 : decode cX7_tellFact 12 = .ok (.ireturn, 1) := by decide +kernel
theorem dX7_tellFact_13 : decode cX7_tellFact 13 = .ok (.aload_n 2, 1) := by decide +kernel
theorem dX7_tellFact_14 : decode cX7_tellFact 14 = .ok (.dup, 1) := by decide +kernel
theorem dX7_tellFact_15 : decode cX7_tellFact 15 = .ok (.getfield 100, 3) := by decide +kernel
theorem dX7_tellFact_18 : decode cX7_tellFact 18 = .ok (.iconst 1, 1) := by decide +kernel
theorem dX7_tellFact_19 : decode cX7_tellFact 19 = .ok (.iload_n 1, 1) := by decide +kernel
theorem dX7_tellFact_20 : decode cX7_tellFact 20 = .ok (.ishl, 1) := by decide +kernel
theorem dX7_tellFact_21 : decode cX7_tellFact 21 = .ok (.ior, 1) := by decide +kernel
theorem dX7_tellFact_22 : decode cX7_tellFact 22 = .ok (.putfield 100, 3) := by decide +kernel
theorem dX7_tellFact_25 : decode cX7_tellFact 25 = .ok (.iconst 1, 1) := by decide +kernel
theorem dX7_tellFact_26 : decode cX7_tellFact 26 = .ok (.ireturn, 1) := by decide +kernel
set_option maxRecDepth 20000 in
theorem ggX7_tellPair_X0_hasRule : GoodIn wsX7_tellPair wsX0_hasRule := goodIn_r _ [6, 7, 16, 17, 18, 19, 20, 21, 22, 23, 24] (by decide +kernel) (by decide +kernel)
set_option maxRecDepth 20000 in
theorem gX7_tellPair_X0_hasRule : GoodIn wsX7_tellPair (wsV RX7 109 RX0 yX0_hasRule wsX0_hasRule) := goodIn_app (goodIn_of _ (by decide +kernel)) ggX7_tellPair_X0_hasRule
set_option maxRecDepth 20000 in
theorem ggX7_tellPair_X0_isTold : GoodIn wsX7_tellPair wsX0_isTold := goodIn_r _ [11, 12, 13, 14, 15, 16, 17, 18, 19, 20, 21, 22, 23, 24] (by decide +kernel) (by decide +kernel)
set_option maxRecDepth 20000 in
theorem gX7_tellPair_X0_isTold : GoodIn wsX7_tellPair (wsV RX7 112 RX0 yX0_isTold wsX0_isTold) := goodIn_app (goodIn_of _ (by decide +kernel)) ggX7_tellPair_X0_isTold
theorem dX7_tellPair_0 : decode cX7_tellPair 0 = .ok (.aload_n 3, 1) := by decide +kernel
theorem dX7_tellPair_1 : decode cX7_tellPair 1 = .ok (.iload_n 1, 1) := by decide +kernel
theorem dX7_tellPair_2 : decode cX7_tellPair 2 = .ok (.invokevirtual 109, 3) := by decide +kernel
theorem dX7_tellPair_5 : decode cX7_tellPair 5 = .ok (.ifCond .eq 25, 3) := by decide +kernel
theorem dX7_tellPair_8 : decode cX7_tellPair 8 = .ok (.aload_n 3, 1) := by decide +kernel
theorem dX7_tellPair_9 : decode cX7_tellPair 9 = .ok (.iload_n 2, 1) := by decide +kernel
theorem dX7_tellPair_10 : decode cX7_tellPair 10 = .ok (.invokevirtual 109, 3) := by decide +kernel
theorem dX7_tellPair_13 : decode cX7_tellPair 13 = .ok (.ifCond .eq 17, 3) := by decide +kernel
theorem dX7_tellPair_16 : decode cX7_tellPair 16 = .ok (.iload_n 1, 1) := by decide +kernel
theorem dX7_tellPair_17 : decode cX7_tellPair 17 = .ok (.iload_n 2, 1) := by decide +kernel
theorem dX7_tellPair_18 : decode cX7_tellPair 18 = .ok (.if_icmp .eq 12, 3) := by decide +kernel
theorem dX7_tellPair_21 : decode cX7_tellPair 21 = .ok (.aload_n 3, 1) := by decide +kernel
theorem dX7_tellPair_22 : decode cX7_tellPair 22 = .ok (.iload_n 1, 1) := by decide +kernel
theorem dX7_tellPair_23 : decode cX7_tellPair 23 = .ok (.iload_n 2, 1) := by decide +kernel
theorem dX7_tellPair_24 : decode cX7_tellPair 24 = .ok (.invokevirtual 112, 3) := by decide +kernel
theorem dX7_tellPair_27 : decode cX7_tellPair 27 = .ok (.ifCond .eq 5, 3) := by decide +kernel
theorem dX7_tellPair_30 : decode cX7_tellPair 30 = .ok (.iconst 0, 1) := by decide +kernel
theorem dX7_tellPair_31 : decode cX7_tellPair 31 = .ok (.ireturn, 1) := by decide +kernel
theorem dX7_tellPair_32 : decode cX7_tellPair 32 = .ok (.aload_n 3, 1) := by decide +kernel
theorem dX7_tellPair_33 : decode cX7_tellPair 33 = .ok (.getfield 115, 3) := by decide +kernel
theorem dX7_tellPair_36 : decode cX7_tellPair 36 = .ok (.iload_n 1, 1) := by decide +kernel
theorem dX7_tellPair_37 : decode cX7_tellPair 37 = .ok (.dup2, 1) := by decide +kernel
theorem dX7_tellPair_38 : decode cX7_tellPair 38 = .ok (.iaload, 1) := by decide +kernel
theorem dX7_tellPair_39 : decode cX7_tellPair 39 = .ok (.iconst 1, 1) := by decide +kernel
theorem dX7_tellPair_40 : decode cX7_tellPair 40 = .ok (.iload_n 2, 1) := by decide +kernel
theorem dX7_tellPair_41 : decode cX7_tellPair 41 = .ok (.ishl, 1) := by decide +kernel
theorem dX7_tellPair_42 : decode cX7_tellPair 42 = .ok (.ior, 1) := by decide +kernel
theorem dX7_tellPair_43 : decode cX7_tellPair 43 = .ok (.iastore, 1) := by decide +kernel
theorem dX7_tellPair_44 : decode cX7_tellPair 44 = .ok (.iconst 1, 1) := by decide +kernel
theorem dX7_tellPair_45 : decode cX7_tellPair 45 = .ok (.ireturn, 1) := by decide +kernel
set_option maxRecDepth 20000 in
theorem ggX7_tellRule_X0_add : GoodIn wsX7_tellRule wsX0_add := goodIn_r _ [10, 11, 12, 13, 14, 15, 16, 17, 28, 29, 30, 31, 32, 33, 34, 35, 36] (by decide +kernel) (by decide +kernel)
set_option maxRecDepth 20000 in
theorem gX7_tellRule_X0_add : GoodIn wsX7_tellRule (wsV RX7 118 RX0 yX0_add wsX0_add) := goodIn_app (goodIn_of _ (by decide +kernel)) ggX7_tellRule_X0_add
theorem dX7_tellRule_0 : decode cX7_tellRule 0 = .ok (.aload_n 0, 1) := by decide +kernel
theorem dX7_tellRule_1 : decode cX7_tellRule 1 = .ok (.getfield 15, 3) := by decide +kernel
theorem dX7_tellRule_4 : decode cX7_tellRule 4 = .ok (.iload_n 1, 1) := by decide +kernel
theorem dX7_tellRule_5 : decode cX7_tellRule 5 = .ok (.iaload, 1) := by decide +kernel
theorem dX7_tellRule_6 : decode cX7_tellRule 6 = .ok (.ifCond .ne 14, 3) := by decide +kernel
theorem dX7_tellRule_9 : decode cX7_tellRule 9 = .ok (.aload_n 0, 1) := by decide +kernel
theorem dX7_tellRule_10 : decode cX7_tellRule 10 = .ok (.getfield 24, 3) := by decide +kernel
theorem dX7_tellRule_13 : decode cX7_tellRule 13 = .ok (.iload_n 1, 1) := by decide +kernel
theorem dX7_tellRule_14 : decode cX7_tellRule 14 = .ok (.iaload, 1) := by decide +kernel
theorem dX7_tellRule_15 : decode cX7_tellRule 15 = .ok (.ifCond .eq 5, 3) := by decide +kernel
theorem dX7_tellRule_18 : decode cX7_tellRule 18 = .ok (.iconst 0, 1) := by decide +kernel
theorem dX7_tellRule_19 : decode cX7_tellRule 19 = .ok (.ireturn, 1) := by decide +kernel
theorem dX7_tellRule_20 : decode cX7_tellRule 20 = .ok (.aload_n 2, 1) := by decide +kernel
theorem dX7_tellRule_21 : decode cX7_tellRule 21 = .ok (.aload_n 0, 1) := by decide +kernel
theorem dX7_tellRule_22 : decode cX7_tellRule 22 = .ok (.getfield 15, 3) := by decide +kernel
theorem dX7_tellRule_25 : decode cX7_tellRule 25 = .ok (.iload_n 1, 1) := by decide +kernel
theorem dX7_tellRule_26 : decode cX7_tellRule 26 = .ok (.iaload, 1) := by decide +kernel
theorem dX7_tellRule_27 : decode cX7_tellRule 27 = .ok (.aload_n 0, 1) := by decide +kernel
theorem dX7_tellRule_28 : decode cX7_tellRule 28 = .ok (.getfield 18, 3) := by decide +kernel
theorem dX7_tellRule_31 : decode cX7_tellRule 31 = .ok (.iload_n 1, 1) := by decide +kernel
theorem dX7_tellRule_32 : decode cX7_tellRule 32 = .ok (.iaload, 1) := by decide +kernel
theorem dX7_tellRule_33 : decode cX7_tellRule 33 = .ok (.aload_n 0, 1) := by decide +kernel
theorem dX7_tellRule_34 : decode cX7_tellRule 34 = .ok (.getfield 21, 3) := by decide +kernel
theorem dX7_tellRule_37 : decode cX7_tellRule 37 = .ok (.iload_n 1, 1) := by decide +kernel
theorem dX7_tellRule_38 : decode cX7_tellRule 38 = .ok (.iaload, 1) := by decide +kernel
theorem dX7_tellRule_39 : decode cX7_tellRule 39 = .ok (.aload_n 0, 1) := by decide +kernel
theorem dX7_tellRule_40 : decode cX7_tellRule 40 = .ok (.getfield 24, 3) := by decide +kernel
theorem dX7_tellRule_43 : decode cX7_tellRule 43 = .ok (.iload_n 1, 1) := by decide +kernel
theorem dX7_tellRule_44 : decode cX7_tellRule 44 = .ok (.iaload, 1) := by decide +kernel
theorem dX7_tellRule_45 : decode cX7_tellRule 45 = .ok (.aload_n 0, 1) := by decide +kernel
theorem dX7_tellRule_46 : decode cX7_tellRule 46 = .ok (.getfield 27, 3) := by decide +kernel
theorem dX7_tellRule_49 : decode cX7_tellRule 49 = .ok (.iload_n 1, 1) := by decide +kernel
theorem dX7_tellRule_50 : decode cX7_tellRule 50 = .ok (.iaload, 1) := by decide +kernel
theorem dX7_tellRule_51 : decode cX7_tellRule 51 = .ok (.invokevirtual 118, 3) := by decide +kernel
theorem dX7_tellRule_54 : decode cX7_tellRule 54 = .ok (.ireturn, 1) := by decide +kernel
set_option maxRecDepth 20000 in
theorem ggX8_init_X0_init : GoodIn wsX8_init wsX0_init := goodIn_r _ [38, 39, 2, 3, 40, 41, 42, 43, 44, 45, 46, 47, 48, 49, 114, 115, 116, 117, 118, 119, 120, 121, 122] (by decide +kernel) (by decide +kernel)
set_option maxRecDepth 20000 in
theorem gX8_init_X0_init_n13 : GoodIn wsX8_init (wsX0_init) := ggX8_init_X0_init
set_option maxRecDepth 20000 in
theorem ggX8_init_X4_init : GoodIn wsX8_init wsX4_init := goodIn_r _ [51, 52, 2, 3, 53, 54, 55, 56, 40, 57, 58, 59, 60, 61, 62, 63, 64, 65, 66, 67, 68, 69, 70, 71, 72, 73, 159, 160, 161, 162, 163, 164, 165, 166, 167, 168, 169, 170, 135, 136, 137] (by decide +kernel) (by decide +kernel)
set_option maxRecDepth 20000 in
theorem gX8_init_X4_init_n20 : GoodIn wsX8_init (wsX4_init) := ggX8_init_X4_init
set_option maxRecDepth 20000 in
theorem ggX8_init_X3_init : GoodIn wsX8_init wsX3_init := goodIn_r _ [75, 76, 2, 3, 77, 54, 55, 78, 40, 79, 80, 81, 59, 60, 61, 62, 63, 64, 65, 66, 67, 68, 69, 70, 71, 72, 73, 159, 160, 161, 162, 163, 164, 165, 166, 167, 168, 169, 170, 138, 139, 140, 141] (by decide +kernel) (by decide +kernel)
set_option maxRecDepth 20000 in
theorem gX8_init_X3_init_n33 : GoodIn wsX8_init (wsX3_init) := ggX8_init_X3_init
set_option maxRecDepth 20000 in
theorem ggX8_init_X1_init : GoodIn wsX8_init wsX1_init := goodIn_r _ [84, 85, 2, 3, 86, 87, 88, 89, 5, 6, 37, 38, 39, 40, 41, 42, 43, 44, 45, 46, 47, 48, 49, 142, 143, 144, 114, 115, 116, 117, 118, 119, 120, 121, 122] (by decide +kernel) (by decide +kernel)
set_option maxRecDepth 20000 in
theorem gX8_init_X1_init : GoodIn wsX8_init (wsX1_init) := ggX8_init_X1_init
set_option maxRecDepth 20000 in
theorem ggX8_init_X7_init : GoodIn wsX8_init wsX7_init := goodIn_r _ [91, 92, 2, 3, 40, 93, 94, 95, 96, 97, 98, 99, 100, 101, 102, 145, 146, 147, 148, 149, 150, 151, 152, 153, 154] (by decide +kernel) (by decide +kernel)
set_option maxRecDepth 20000 in
theorem gX8_init_X7_init_n50 : GoodIn wsX8_init (wsX7_init) := ggX8_init_X7_init
set_option maxRecDepth 20000 in
theorem ggX8_init_X2_init : GoodIn wsX8_init wsX2_init := goodIn_r _ [104, 105, 2, 3, 40, 106, 107, 155, 156] (by decide +kernel) (by decide +kernel)
set_option maxRecDepth 20000 in
theorem gX8_init_X2_init_n57 : GoodIn wsX8_init (wsX2_init) := ggX8_init_X2_init
set_option maxRecDepth 20000 in
theorem ggX8_init_X5_init : GoodIn wsX8_init wsX5_init := goodIn_r _ [109, 110, 2, 3, 111, 40, 112, 113, 157, 158] (by decide +kernel) (by decide +kernel)
set_option maxRecDepth 20000 in
theorem gX8_init_X5_init_n64 : GoodIn wsX8_init (wsX5_init) := ggX8_init_X5_init
theorem dX8_init_0 : decode cX8_init 0 = .ok (.aload_n 0, 1) := by decide +kernel
theorem dX8_init_1 : decode cX8_init 1 = .ok (.invokespecial 5, 3) := by decide +kernel
theorem dX8_init_4 : decode cX8_init 4 = .ok (.aload_n 0, 1) := by decide +kernel
theorem dX8_init_5 : decode cX8_init 5 = .ok (.new 11, 3) := by decide +kernel
theorem dX8_init_8 : decode cX8_init 8 = .ok (.dup, 1) := by decide +kernel
theorem dX8_init_9 : decode cX8_init 9 = .ok (.invokespecial 13, 3) := by decide +kernel
theorem dX8_init_12 : decode cX8_init 12 = .ok (.putfield 14, 3) := by decide +kernel
theorem dX8_init_15 : decode cX8_init 15 = .ok (.aload_n 0, 1) := by decide +kernel
theorem dX8_init_16 : decode cX8_init 16 = .ok (.new 18, 3) := by decide +kernel
theorem dX8_init_19 : decode cX8_init 19 = .ok (.dup, 1) := by decide +kernel
theorem dX8_init_20 : decode cX8_init 20 = .ok (.invokespecial 20, 3) := by decide +kernel
theorem dX8_init_23 : decode cX8_init 23 = .ok (.putfield 21, 3) := by decide +kernel
theorem dX8_init_26 : decode cX8_init 26 = .ok (.aload_n 0, 1) := by decide +kernel
theorem dX8_init_27 : decode cX8_init 27 = .ok (.new 11, 3) := by decide +kernel
theorem dX8_init_30 : decode cX8_init 30 = .ok (.dup, 1) := by decide +kernel
theorem dX8_init_31 : decode cX8_init 31 = .ok (.invokespecial 13, 3) := by decide +kernel
theorem dX8_init_34 : decode cX8_init 34 = .ok (.putfield 25, 3) := by decide +kernel
theorem dX8_init_37 : decode cX8_init 37 = .ok (.aload_n 0, 1) := by decide +kernel
theorem dX8_init_38 : decode cX8_init 38 = .ok (.new 18, 3) := by decide +kernel
theorem dX8_init_41 : decode cX8_init 41 = .ok (.dup, 1) := by decide +kernel
theorem dX8_init_42 : decode cX8_init 42 = .ok (.invokespecial 20, 3) := by decide +kernel
theorem dX8_init_45 : decode cX8_init 45 = .ok (.putfield 28, 3) := by decide +kernel
theorem dX8_init_48 : decode cX8_init 48 = .ok (.aload_n 0, 1) := by decide +kernel
theorem dX8_init_49 : decode cX8_init 49 = .ok (.new 31, 3) := by decide +kernel
theorem dX8_init_52 : decode cX8_init 52 = .ok (.dup, 1) := by decide +kernel
theorem dX8_init_53 : decode cX8_init 53 = .ok (.invokespecial 33, 3) := by decide +kernel
theorem dX8_init_56 : decode cX8_init 56 = .ok (.putfield 34, 3) := by decide +kernel
theorem dX8_init_59 : decode cX8_init 59 = .ok (.aload_n 0, 1) := by decide +kernel
theorem dX8_init_60 : decode cX8_init 60 = .ok (.new 38, 3) := by decide +kernel
theorem dX8_init_63 : decode cX8_init 63 = .ok (.dup, 1) := by decide +kernel
theorem dX8_init_64 : decode cX8_init 64 = .ok (.invokespecial 40, 3) := by decide +kernel
theorem dX8_init_67 : decode cX8_init 67 = .ok (.putfield 41, 3) := by decide +kernel
theorem dX8_init_70 : decode cX8_init 70 = .ok (.aload_n 0, 1) := by decide +kernel
theorem dX8_init_71 : decode cX8_init 71 = .ok (.new 11, 3) := by decide +kernel
theorem dX8_init_74 : decode cX8_init 74 = .ok (.dup, 1) := by decide +kernel
theorem dX8_init_75 : decode cX8_init 75 = .ok (.invokespecial 13, 3) := by decide +kernel
theorem dX8_init_78 : decode cX8_init 78 = .ok (.putfield 45, 3) := by decide +kernel
theorem dX8_init_81 : decode cX8_init 81 = .ok (.aload_n 0, 1) := by decide +kernel
theorem dX8_init_82 : decode cX8_init 82 = .ok (.new 48, 3) := by decide +kernel
theorem dX8_init_85 : decode cX8_init 85 = .ok (.dup, 1) := by decide +kernel
theorem dX8_init_86 : decode cX8_init 86 = .ok (.invokespecial 50, 3) := by decide +kernel
theorem dX8_init_89 : decode cX8_init 89 = .ok (.putfield 51, 3) := by decide +kernel
theorem dX8_init_92 : decode cX8_init 92 = .ok (.aload_n 0, 1) := by decide +kernel
theorem dX8_init_93 : decode cX8_init 93 = .ok (.new 55, 3) := by decide +kernel
theorem dX8_init_96 : decode cX8_init 96 = .ok (.dup, 1) := by decide +kernel
theorem dX8_init_97 : decode cX8_init 97 = .ok (.invokespecial 57, 3) := by decide +kernel
theorem dX8_init_100 : decode cX8_init 100 = .ok (.putfield 58, 3) := by decide +kernel
theorem dX8_init_103 : decode cX8_init 103 = .ok (.aload_n 0, 1) := by decide +kernel
theorem dX8_init_104 : decode cX8_init 104 = .ok (.new 62, 3) := by decide +kernel
theorem dX8_init_107 : decode cX8_init 107 = .ok (.dup, 1) := by decide +kernel
theorem dX8_init_108 : decode cX8_init 108 = .ok (.invokespecial 64, 3) := by decide +kernel
theorem dX8_init_111 : decode cX8_init 111 = .ok (.putfield 65, 3) := by decide +kernel
theorem dX8_init_114 : decode cX8_init 114 = .ok (.aload_n 0, 1) := by decide +kernel
theorem dX8_init_115 : decode cX8_init 115 = .ok (.iconst 0, 1) := by decide +kernel
theorem dX8_init_116 : decode cX8_init 116 = .ok (.putfield 69, 3) := by decide +kernel
theorem dX8_init_119 : decode cX8_init 119 = .ok (.aload_n 0, 1) := by decide +kernel
theorem dX8_init_120 : decode cX8_init 120 = .ok (.iconst 0, 1) := by decide +kernel
theorem dX8_init_121 : decode cX8_init 121 = .ok (.putfield 73, 3) := by decide +kernel
theorem dX8_init_124 : decode cX8_init 124 = .ok (.return_, 1) := by decide +kernel
set_option maxRecDepth 20000 in
theorem ggX8_begin_X0_clear : GoodIn wsX8_begin wsX0_clear := goodIn_r _ [7, 8, 9, 10, 52, 53, 54, 55, 56, 57, 58, 59, 60] (by decide +kernel) (by decide +kernel)
set_option maxRecDepth 20000 in
theorem gX8_begin_X0_clear : GoodIn wsX8_begin (wsV RX8 80 RX0 yX0_clear wsX0_clear) := goodIn_app (goodIn_of _ (by decide +kernel)) ggX8_begin_X0_clear
set_option maxRecDepth 20000 in
theorem ggX8_begin_X8_restart : GoodIn wsX8_begin wsX8_restart := goodIn_r _ [15, 16, 1, 17, 18, 19, 20, 21, 22, 23, 24, 25, 26, 27, 28, 6, 29, 30, 31, 32, 33, 34, 35, 36, 37, 38, 39, 8, 9, 10, 40, 41, 42, 43, 44, 45, 46, 47, 48, 49, 50, 51, 61, 62, 63, 52, 53, 54, 55, 56, 57, 58, 59, 60] (by decide +kernel) (by decide +kernel)
set_option maxRecDepth 20000 in
theorem gX8_begin_X8_restart : GoodIn wsX8_begin (wsV RX8 83 RX8 yX8_restart wsX8_restart) := goodIn_app (goodIn_of _ (by decide +kernel)) ggX8_begin_X8_restart
theorem dX8_begin_0 : decode cX8_begin 0 = .ok (.aload_n 0, 1) := by decide +kernel
theorem dX8_begin_1 : decode cX8_begin 1 = .ok (.getfield 14, 3) := by decide +kernel
theorem dX8_begin_4 : decode cX8_begin 4 = .ok (.getfield 76, 3) := by decide +kernel
theorem dX8_begin_7 : decode cX8_begin 7 = .ok (.istore_n 1, 1) := by decide +kernel
theorem dX8_begin_8 : decode cX8_begin 8 = .ok (.aload_n 0, 1) := by decide +kernel
theorem dX8_begin_9 : decode cX8_begin 9 = .ok (.getfield 14, 3) := by decide +kernel
theorem dX8_begin_12 : decode cX8_begin 12 = .ok (.invokevirtual 80, 3) := by decide +kernel
theorem dX8_begin_15 : decode cX8_begin 15 = .ok (.aload_n 0, 1) := by decide +kernel
theorem dX8_begin_16 : decode cX8_begin 16 = .ok (.invokevirtual 83, 3) := by decide +kernel
theorem dX8_begin_19 : decode cX8_begin 19 = .ok (.iload_n 1, 1) := by decide +kernel
theorem dX8_begin_20 : decode cX8_begin 20 = .ok (.ireturn, 1) := by decide +kernel
set_option maxRecDepth 20000 in
theorem ggX8_fact_X8_isLiteral : GoodIn wsX8_fact wsX8_isLiteral := goodIn_r _ [6] (by decide +kernel) (by decide +kernel)
set_option maxRecDepth 20000 in
theorem gX8_fact_X8_isLiteral : GoodIn wsX8_fact (va_wsS RX8 86 yX8_isLiteral wsX8_isLiteral) := goodIn_app (goodIn_of _ (by decide +kernel)) ggX8_fact_X8_isLiteral
set_option maxRecDepth 20000 in
theorem ggX8_fact_X8_isYesOrNo : GoodIn wsX8_fact wsX8_isYesOrNo := goodIn_r _ [9] (by decide +kernel) (by decide +kernel)
set_option maxRecDepth 20000 in
theorem gX8_fact_X8_isYesOrNo : GoodIn wsX8_fact (va_wsS RX8 90 yX8_isYesOrNo wsX8_isYesOrNo) := goodIn_app (goodIn_of _ (by decide +kernel)) ggX8_fact_X8_isYesOrNo
set_option maxRecDepth 20000 in
theorem ggX8_fact_X8_bit : GoodIn wsX8_fact wsX8_bit := goodIn_r _ [12] (by decide +kernel) (by decide +kernel)
set_option maxRecDepth 20000 in
theorem gX8_fact_X8_bit : GoodIn wsX8_fact (va_wsS RX8 96 yX8_bit wsX8_bit) := goodIn_app (goodIn_of _ (by decide +kernel)) ggX8_fact_X8_bit
set_option maxRecDepth 20000 in
theorem ggX8_fact_X8_withBit : GoodIn wsX8_fact wsX8_withBit := goodIn_r _ [15] (by decide +kernel) (by decide +kernel)
set_option maxRecDepth 20000 in
theorem gX8_fact_X8_withBit : GoodIn wsX8_fact (va_wsS RX8 100 yX8_withBit wsX8_withBit) := goodIn_app (goodIn_of _ (by decide +kernel)) ggX8_fact_X8_withBit
set_option maxRecDepth 20000 in
theorem ggX8_fact_X8_changed : GoodIn wsX8_fact wsX8_changed := goodIn_r _ [19, 20, 1, 21, 22, 23, 24, 25, 26, 27, 28, 29, 30, 31, 32, 33, 34, 35, 36, 37, 38, 39, 40, 41, 42, 43, 44, 45, 46, 47, 48, 49, 50, 51, 52, 53, 54, 55, 56, 57, 58, 59, 60, 61, 62, 63, 73, 74, 75, 64, 65, 66, 67, 68, 69, 70, 71, 72] (by decide +kernel) (by decide +kernel)
set_option maxRecDepth 20000 in
theorem gX8_fact_X8_changed : GoodIn wsX8_fact (wsV RX8 104 RX8 yX8_changed wsX8_changed) := goodIn_app (goodIn_of _ (by decide +kernel)) ggX8_fact_X8_changed
theorem dX8_fact_0 : decode cX8_fact 0 = .ok (.iload_n 1, 1) := by decide +kernel
theorem dX8_fact_1 : decode cX8_fact 1 = .ok (.invokestatic 86, 3) := by decide +kernel
theorem dX8_fact_4 : decode cX8_fact 4 = .ok (.ifCond .eq 10, 3) := by decide +kernel
theorem dX8_fact_7 : decode cX8_fact 7 = .ok (.iload_n 2, 1) := by decide +kernel
theorem dX8_fact_8 : decode cX8_fact 8 = .ok (.invokestatic 90, 3) := by decide +kernel
theorem dX8_fact_11 : decode cX8_fact 11 = .ok (.ifCond .ne 5, 3) := by decide +kernel
theorem dX8_fact_14 : decode cX8_fact 14 = .ok (.iconst (-1), 1) := by decide +kernel
theorem dX8_fact_15 : decode cX8_fact 15 = .ok (.ireturn, 1) := by decide +kernel
theorem dX8_fact_16 : decode cX8_fact 16 = .ok (.aload_n 0, 1) := by decide +kernel
theorem dX8_fact_17 : decode cX8_fact 17 = .ok (.getfield 14, 3) := by decide +kernel
theorem dX8_fact_20 : decode cX8_fact 20 = .ok (.getfield 93, 3) := by decide +kernel
theorem dX8_fact_23 : decode cX8_fact 23 = .ok (.iload_n 1, 1) := by decide +kernel
theorem dX8_fact_24 : decode cX8_fact 24 = .ok (.invokestatic 96, 3) := by decide +kernel
theorem dX8_fact_27 : decode cX8_fact 27 = .ok (.istore_n 3, 1) := by decide +kernel
theorem dX8_fact_28 : decode cX8_fact 28 = .ok (.aload_n 0, 1) := by decide +kernel
theorem dX8_fact_29 : decode cX8_fact 29 = .ok (.getfield 14, 3) := by decide +kernel
theorem dX8_fact_32 : decode cX8_fact 32 = .ok (.aload_n 0, 1) := by decide +kernel
theorem dX8_fact_33 : decode cX8_fact 33 = .ok (.getfield 14, 3) := by decide +kernel
theorem dX8_fact_36 : decode cX8_fact 36 = .ok (.getfield 93, 3) := by decide +kernel
theorem dX8_fact_39 : decode cX8_fact 39 = .ok (.iload_n 1, 1) := by decide +kernel
theorem dX8_fact_40 : decode cX8_fact 40 = .ok (.iload_n 2, 1) := by decide +kernel
theorem dX8_fact_41 : decode cX8_fact 41 = .ok (.invokestatic 100, 3) := by decide +kernel
theorem dX8_fact_44 : decode cX8_fact 44 = .ok (.putfield 93, 3) := by decide +kernel
theorem dX8_fact_47 : decode cX8_fact 47 = .ok (.aload_n 0, 1) := by decide +kernel
theorem dX8_fact_48 : decode cX8_fact 48 = .ok (.invokevirtual 104, 3) := by decide +kernel
theorem dX8_fact_51 : decode cX8_fact 51 = .ok (.iload_n 3, 1) := by decide +kernel
theorem dX8_fact_52 : decode cX8_fact 52 = .ok (.ireturn, 1) := by decide +kernel
set_option maxRecDepth 20000 in
theorem ggX8_rule_X8_isLiteral : GoodIn wsX8_rule wsX8_isLiteral := goodIn_r _ [6] (by decide +kernel) (by decide +kernel)
set_option maxRecDepth 20000 in
theorem gX8_rule_X8_isLiteral : GoodIn wsX8_rule (va_wsS RX8 86 yX8_isLiteral wsX8_isLiteral) := goodIn_app (goodIn_of _ (by decide +kernel)) ggX8_rule_X8_isLiteral
set_option maxRecDepth 20000 in
theorem ggX8_rule_X8_isStrength : GoodIn wsX8_rule wsX8_isStrength := goodIn_r _ [9] (by decide +kernel) (by decide +kernel)
set_option maxRecDepth 20000 in
theorem gX8_rule_X8_isStrength : GoodIn wsX8_rule (va_wsS RX8 107 yX8_isStrength wsX8_isStrength) := goodIn_app (goodIn_of _ (by decide +kernel)) ggX8_rule_X8_isStrength
set_option maxRecDepth 20000 in
theorem ggX8_rule_X8_areLiterals : GoodIn wsX8_rule wsX8_areLiterals := goodIn_r _ [12, 13] (by decide +kernel) (by decide +kernel)
set_option maxRecDepth 20000 in
theorem gX8_rule_X8_areLiterals : GoodIn wsX8_rule (va_wsS RX8 110 yX8_areLiterals wsX8_areLiterals) := goodIn_app (goodIn_of _ (by decide +kernel)) ggX8_rule_X8_areLiterals
set_option maxRecDepth 20000 in
theorem ggX8_rule_X0_add : GoodIn wsX8_rule wsX0_add := goodIn_r _ [18, 19, 20, 21, 22, 23, 24, 25, 66, 67, 68, 69, 70, 71, 72, 73, 74] (by decide +kernel) (by decide +kernel)
set_option maxRecDepth 20000 in
theorem gX8_rule_X0_add : GoodIn wsX8_rule (wsV RX8 113 RX0 yX0_add wsX0_add) := goodIn_app (goodIn_of _ (by decide +kernel)) ggX8_rule_X0_add
set_option maxRecDepth 20000 in
theorem ggX8_rule_X8_changed : GoodIn wsX8_rule wsX8_changed := goodIn_r _ [29, 30, 1, 31, 32, 33, 34, 35, 36, 37, 38, 39, 40, 41, 42, 43, 44, 45, 46, 17, 47, 20, 48, 49, 50, 51, 21, 22, 23, 24, 25, 52, 19, 53, 54, 55, 56, 57, 58, 59, 60, 61, 62, 63, 64, 65, 75, 76, 77, 66, 67, 68, 69, 70, 71, 72, 73, 74] (by decide +kernel) (by decide +kernel)
set_option maxRecDepth 20000 in
theorem gX8_rule_X8_changed : GoodIn wsX8_rule (wsV RX8 104 RX8 yX8_changed wsX8_changed) := goodIn_app (goodIn_of _ (by decide +kernel)) ggX8_rule_X8_changed
theorem dX8_rule_0 : decode cX8_rule 0 = .ok (.iload_n 1, 1) := by decide +kernel
theorem dX8_rule_1 : decode cX8_rule 1 = .ok (.ifCond .lt 23, 3) := by decide +kernel
theorem dX8_rule_4 : decode cX8_rule 4 = .ok (.iload_n 1, 1) := by decide +kernel
theorem dX8_rule_5 : decode cX8_rule 5 = .ok (.iconst 2, 1) := by decide +kernel
theorem dX8_rule_6 : decode cX8_rule 6 = .ok (.if_icmp .gt 18, 3) := by decide +kernel
theorem dX8_rule_9 : decode cX8_rule 9 = .ok (.iload_n 2, 1) := by decide +kernel
theorem dX8_rule_10 : decode cX8_rule 10 = .ok (.invokestatic 86, 3) := by decide +kernel
theorem dX8_rule_13 : decode cX8_rule 13 = .ok (.ifCond .eq 11, 3) := by decide +kernel
theorem dX8_rule_16 : decode cX8_rule 16 = .ok (.iload 5, 2) := by decide +kernel
theorem dX8_rule_18 : decode cX8_rule 18 = .ok (.invokestatic 107, 3) := by decide +kernel
theorem dX8_rule_21 : decode cX8_rule 21 = .ok (.ifCond .ne 5, 3) := by decide +kernel
theorem dX8_rule_24 : decode cX8_rule 24 = .ok (.iconst (-1), 1) := by decide +kernel
theorem dX8_rule_25 : decode cX8_rule 25 = .ok (.ireturn, 1) := by decide +kernel
theorem dX8_rule_26 : decode cX8_rule 26 = .ok (.iload_n 3, 1) := by decide +kernel
theorem dX8_rule_27 : decode cX8_rule 27 = .ok (.invokestatic 110, 3) := by decide +kernel
theorem dX8_rule_30 : decode cX8_rule 30 = .ok (.ifCond .eq 20, 3) := by decide +kernel
theorem dX8_rule_33 : decode cX8_rule 33 = .ok (.iload 4, 2) := by decide +kernel
theorem dX8_rule_35 : decode cX8_rule 35 = .ok (.invokestatic 110, 3) := by decide +kernel
theorem dX8_rule_38 : decode cX8_rule 38 = .ok (.ifCond .eq 12, 3) := by decide +kernel
theorem dX8_rule_41 : decode cX8_rule 41 = .ok (.iload_n 1, 1) := by decide +kernel
theorem dX8_rule_42 : decode cX8_rule 42 = .ok (.ifCond .ne 10, 3) := by decide +kernel
theorem dX8_rule_45 : decode cX8_rule 45 = .ok (.iload 4, 2) := by decide +kernel
theorem dX8_rule_47 : decode cX8_rule 47 = .ok (.ifCond .eq 5, 3) := by decide +kernel
theorem dX8_rule_50 : decode cX8_rule 50 = .ok (.iconst (-1), 1) := by decide +kernel
theorem dX8_rule_51 : decode cX8_rule 51 = .ok (.ireturn, 1) := by decide +kernel
theorem dX8_rule_52 : decode cX8_rule 52 = .ok (.aload_n 0, 1) := by decide +kernel
theorem dX8_rule_53 : decode cX8_rule 53 = .ok (.getfield 14, 3) := by decide +kernel
theorem dX8_rule_56 : decode cX8_rule 56 = .ok (.iload_n 1, 1) := by decide +kernel
theorem dX8_rule_57 : decode cX8_rule 57 = .ok (.iload_n 2, 1) := by decide +kernel
theorem dX8_rule_58 : decode cX8_rule 58 = .ok (.iload_n 3, 1) := by decide +kernel
theorem dX8_rule_59 : decode cX8_rule 59 = .ok (.iload 4, 2) := by decide +kernel
theorem dX8_rule_61 : decode cX8_rule 61 = .ok (.iload 5, 2) := by decide +kernel
theorem dX8_rule_63 : decode cX8_rule 63 = .ok (.invokevirtual 113, 3) := by decide +kernel
theorem dX8_rule_66 : decode cX8_rule 66 = .ok (.ifCond .ne 6, 3) := by decide +kernel
theorem dX8_rule_69 : decode cX8_rule 69 = .ok (.bipush (-3), 2) := by decide +kernel
theorem dX8_rule_71 : decode cX8_rule 71 = .ok (.ireturn, 1) := by decide +kernel
theorem dX8_rule_72 : decode cX8_rule 72 = .ok (.aload_n 0, 1) := by decide +kernel
theorem dX8_rule_73 : decode cX8_rule 73 = .ok (.invokevirtual 104, 3) := by decide +kernel
theorem dX8_rule_76 : decode cX8_rule 76 = .ok (.aload_n 0, 1) := by decide +kernel
theorem dX8_rule_77 : decode cX8_rule 77 = .ok (.getfield 14, 3) := by decide +kernel
theorem dX8_rule_80 : decode cX8_rule 80 = .ok (.getfield 76, 3) := by decide +kernel
theorem dX8_rule_83 : decode cX8_rule 83 = .ok (.iconst 1, 1) := by decide +kernel
theorem dX8_rule_84 : decode cX8_rule 84 = .ok (.isub, 1) := by decide +kernel
theorem dX8_rule_85 : decode cX8_rule 85 = .ok (.ireturn, 1) := by decide +kernel
set_option maxRecDepth 20000 in
theorem ggX8_off_X0_hasRule : GoodIn wsX8_off wsX0_hasRule := goodIn_r _ [7, 8, 65, 66, 67, 68, 69, 70, 71, 72, 73] (by decide +kernel) (by decide +kernel)
set_option maxRecDepth 20000 in
theorem gX8_off_X0_hasRule : GoodIn wsX8_off (wsV RX8 117 RX0 yX0_hasRule wsX0_hasRule) := goodIn_app (goodIn_of _ (by decide +kernel)) ggX8_off_X0_hasRule
set_option maxRecDepth 20000 in
theorem ggX8_off_X8_isYesOrNo : GoodIn wsX8_off wsX8_isYesOrNo := goodIn_r _ [12] (by decide +kernel) (by decide +kernel)
set_option maxRecDepth 20000 in
theorem gX8_off_X8_isYesOrNo : GoodIn wsX8_off (va_wsS RX8 90 yX8_isYesOrNo wsX8_isYesOrNo) := goodIn_app (goodIn_of _ (by decide +kernel)) ggX8_off_X8_isYesOrNo
set_option maxRecDepth 20000 in
theorem ggX8_off_X8_bit : GoodIn wsX8_off wsX8_bit := goodIn_r _ [15] (by decide +kernel) (by decide +kernel)
set_option maxRecDepth 20000 in
theorem gX8_off_X8_bit : GoodIn wsX8_off (va_wsS RX8 96 yX8_bit wsX8_bit) := goodIn_app (goodIn_of _ (by decide +kernel)) ggX8_off_X8_bit
set_option maxRecDepth 20000 in
theorem ggX8_off_X8_withBit : GoodIn wsX8_off wsX8_withBit := goodIn_r _ [18] (by decide +kernel) (by decide +kernel)
set_option maxRecDepth 20000 in
theorem gX8_off_X8_withBit : GoodIn wsX8_off (va_wsS RX8 100 yX8_withBit wsX8_withBit) := goodIn_app (goodIn_of _ (by decide +kernel)) ggX8_off_X8_withBit
set_option maxRecDepth 20000 in
theorem ggX8_off_X8_changed : GoodIn wsX8_off wsX8_changed := goodIn_r _ [22, 23, 1, 24, 25, 26, 27, 28, 29, 30, 31, 32, 33, 34, 35, 36, 37, 38, 39, 6, 40, 41, 42, 43, 44, 45, 46, 47, 48, 49, 50, 51, 8, 52, 53, 54, 55, 56, 57, 58, 59, 60, 61, 62, 63, 64, 74, 75, 76, 65, 66, 67, 68, 69, 70, 71, 72, 73] (by decide +kernel) (by decide +kernel)
set_option maxRecDepth 20000 in
theorem gX8_off_X8_changed : GoodIn wsX8_off (wsV RX8 104 RX8 yX8_changed wsX8_changed) := goodIn_app (goodIn_of _ (by decide +kernel)) ggX8_off_X8_changed
theorem dX8_off_0 : decode cX8_off 0 = .ok (.aload_n 0, 1) := by decide +kernel
theorem dX8_off_1 : decode cX8_off 1 = .ok (.getfield 14, 3) := by decide +kernel
theorem dX8_off_4 : decode cX8_off 4 = .ok (.iload_n 1, 1) := by decide +kernel
theorem dX8_off_5 : decode cX8_off 5 = .ok (.invokevirtual 117, 3) := by decide +kernel
theorem dX8_off_8 : decode cX8_off 8 = .ok (.ifCond .eq 10, 3) := by decide +kernel
theorem dX8_off_11 : decode cX8_off 11 = .ok (.iload_n 2, 1) := by decide +kernel
theorem dX8_off_12 : decode cX8_off 12 = .ok (.invokestatic 90, 3) := by decide +kernel
theorem dX8_off_15 : decode cX8_off 15 = .ok (.ifCond .ne 5, 3) := by decide +kernel
theorem dX8_off_18 : decode cX8_off 18 = .ok (.iconst (-1), 1) := by decide +kernel
theorem dX8_off_19 : decode cX8_off 19 = .ok (.ireturn, 1) := by decide +kernel
theorem dX8_off_20 : decode cX8_off 20 = .ok (.aload_n 0, 1) := by decide +kernel
theorem dX8_off_21 : decode cX8_off 21 = .ok (.getfield 14, 3) := by decide +kernel
theorem dX8_off_24 : decode cX8_off 24 = .ok (.getfield 120, 3) := by decide +kernel
theorem dX8_off_27 : decode cX8_off 27 = .ok (.iload_n 1, 1) := by decide +kernel
theorem dX8_off_28 : decode cX8_off 28 = .ok (.invokestatic 96, 3) := by decide +kernel
theorem dX8_off_31 : decode cX8_off 31 = .ok (.istore_n 3, 1) := by decide +kernel
theorem dX8_off_32 : decode cX8_off 32 = .ok (.aload_n 0, 1) := by decide +kernel
theorem dX8_off_33 : decode cX8_off 33 = .ok (.getfield 14, 3) := by decide +kernel
theorem dX8_off_36 : decode cX8_off 36 = .ok (.aload_n 0, 1) := by decide +kernel
theorem dX8_off_37 : decode cX8_off 37 = .ok (.getfield 14, 3) := by decide +kernel
theorem dX8_off_40 : decode cX8_off 40 = .ok (.getfield 120, 3) := by decide +kernel
