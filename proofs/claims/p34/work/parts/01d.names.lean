theorem dX6_likelyOnes_51 : decode cX6_likelyOnes 51 = .ok (.ior, 1) := by decide +kernel
theorem dX6_likelyOnes_52 : decode cX6_likelyOnes 52 = .ok (.istore_n 1, 1) := by decide +kernel
theorem dX6_likelyOnes_53 : decode cX6_likelyOnes 53 = .ok (.iinc 2 1, 3) := by decide +kernel
theorem dX6_likelyOnes_56 : decode cX6_likelyOnes 56 = .ok (.goto (-47), 3) := by decide +kernel
theorem dX6_likelyOnes_59 : decode cX6_likelyOnes 59 = .ok (.iload_n 1, 1) := by decide +kernel
theorem dX6_likelyOnes_60 : decode cX6_likelyOnes 60 = .ok (.ireturn, 1) := by decide +kernel
set_option maxRecDepth 20000 in
theorem ggX6_unlikelyOnes_X6_unfallen : GoodIn wsX6_unlikelyOnes wsX6_unfallen := goodIn_r _ [6, 7, 8, 25, 26, 27, 28, 29, 30, 31, 32, 33, 34, 35, 36] (by decide +kernel) (by decide +kernel)
set_option maxRecDepth 20000 in
theorem gX6_unlikelyOnes_X6_unfallen : GoodIn wsX6_unlikelyOnes (wsV RX6 113 RX6 yX6_unfallen wsX6_unfallen) := goodIn_app (goodIn_of _ (by decide +kernel)) ggX6_unlikelyOnes_X6_unfallen
set_option maxRecDepth 20000 in
theorem ggX6_unlikelyOnes_X8_otherOf : GoodIn wsX6_unlikelyOnes wsX8_otherOf := goodIn_r _ [11] (by decide +kernel) (by decide +kernel)
set_option maxRecDepth 20000 in
theorem gX6_unlikelyOnes_X8_otherOf_n107 : GoodIn wsX6_unlikelyOnes (wsX8_otherOf) := ggX6_unlikelyOnes_X8_otherOf
set_option maxRecDepth 20000 in
theorem ggX6_unlikelyOnes_X8_has : GoodIn wsX6_unlikelyOnes wsX8_has := goodIn_r _ [13] (by decide +kernel) (by decide +kernel)
set_option maxRecDepth 20000 in
theorem gX6_unlikelyOnes_X8_has_n68 : GoodIn wsX6_unlikelyOnes (wsX8_has) := ggX6_unlikelyOnes_X8_has
set_option maxRecDepth 20000 in
theorem ggX6_unlikelyOnes_X6_victors : GoodIn wsX6_unlikelyOnes wsX6_victors := goodIn_r _ [17, 18, 19, 9, 10, 11, 2, 3, 4, 5, 6, 7, 8, 20, 21, 22, 23, 24, 25, 26, 27, 28, 29, 30, 31, 32, 33, 34, 35, 36] (by decide +kernel) (by decide +kernel)
set_option maxRecDepth 20000 in
theorem gX6_unlikelyOnes_X6_victors : GoodIn wsX6_unlikelyOnes (wsV RX6 116 RX6 yX6_victors wsX6_victors) := goodIn_app (goodIn_of _ (by decide +kernel)) ggX6_unlikelyOnes_X6_victors
theorem dX6_unlikelyOnes_0 : decode cX6_unlikelyOnes 0 = .ok (.iconst 0, 1) := by decide +kernel
theorem dX6_unlikelyOnes_1 : decode cX6_unlikelyOnes 1 = .ok (.istore_n 1, 1) := by decide +kernel
theorem dX6_unlikelyOnes_2 : decode cX6_unlikelyOnes 2 = .ok (.iconst 0, 1) := by decide +kernel
theorem dX6_unlikelyOnes_3 : decode cX6_unlikelyOnes 3 = .ok (.istore_n 2, 1) := by decide +kernel
theorem dX6_unlikelyOnes_4 : decode cX6_unlikelyOnes 4 = .ok (.iload_n 2, 1) := by decide +kernel
theorem dX6_unlikelyOnes_5 : decode cX6_unlikelyOnes 5 = .ok (.bipush 20, 2) := by decide +kernel
theorem dX6_unlikelyOnes_7 : decode cX6_unlikelyOnes 7 = .ok (.if_icmp .ge 47, 3) := by decide +kernel
theorem dX6_unlikelyOnes_10 : decode cX6_unlikelyOnes 10 = .ok (.aload_n 0, 1) := by decide +kernel
theorem dX6_unlikelyOnes_11 : decode cX6_unlikelyOnes 11 = .ok (.iload_n 2, 1) := by decide +kernel
theorem dX6_unlikelyOnes_12 : decode cX6_unlikelyOnes 12 = .ok (.invokevirtual 113, 3) := by decide +kernel
theorem dX6_unlikelyOnes_15 : decode cX6_unlikelyOnes 15 = .ok (.ifCond .eq 27, 3) := by decide +kernel
theorem dX6_unlikelyOnes_18 : decode cX6_unlikelyOnes 18 = .ok (.aload_n 0, 1) := by decide +kernel
theorem dX6_unlikelyOnes_19 : decode cX6_unlikelyOnes 19 = .ok (.getfield 9, 3) := by decide +kernel
theorem dX6_unlikelyOnes_22 : decode cX6_unlikelyOnes 22 = .ok (.iconst 0, 1) := by decide +kernel
theorem dX6_unlikelyOnes_23 : decode cX6_unlikelyOnes 23 = .ok (.iaload, 1) := by decide +kernel
theorem dX6_unlikelyOnes_24 : decode cX6_unlikelyOnes 24 = .ok (.iload_n 2, 1) := by decide +kernel
theorem dX6_unlikelyOnes_25 : decode cX6_unlikelyOnes 25 = .ok (.invokestatic 107, 3) := by decide +kernel
theorem dX6_unlikelyOnes_28 : decode cX6_unlikelyOnes 28 = .ok (.invokestatic 68, 3) := by decide +kernel
theorem dX6_unlikelyOnes_31 : decode cX6_unlikelyOnes 31 = .ok (.ifCond .ne 11, 3) := by decide +kernel
theorem dX6_unlikelyOnes_34 : decode cX6_unlikelyOnes 34 = .ok (.aload_n 0, 1) := by decide +kernel
theorem dX6_unlikelyOnes_35 : decode cX6_unlikelyOnes 35 = .ok (.iload_n 2, 1) := by decide +kernel
theorem dX6_unlikelyOnes_36 : decode cX6_unlikelyOnes 36 = .ok (.invokevirtual 116, 3) := by decide +kernel
theorem dX6_unlikelyOnes_39 : decode cX6_unlikelyOnes 39 = .ok (.ifCond .eq 9, 3) := by decide +kernel
theorem dX6_unlikelyOnes_42 : decode cX6_unlikelyOnes 42 = .ok (.iload_n 1, 1) := by decide +kernel
theorem dX6_unlikelyOnes_43 : decode cX6_unlikelyOnes 43 = .ok (.iconst 1, 1) := by decide +kernel
theorem dX6_unlikelyOnes_44 : decode cX6_unlikelyOnes 44 = .ok (.iload_n 2, 1) := by decide +kernel
theorem dX6_unlikelyOnes_45 : decode cX6_unlikelyOnes 45 = .ok (.ishl, 1) := by decide +kernel
theorem dX6_unlikelyOnes_46 : decode cX6_unlikelyOnes 46 = .ok (.ior, 1) := by decide +kernel
theorem dX6_unlikelyOnes_47 : decode cX6_unlikelyOnes 47 = .ok (.istore_n 1, 1) := by decide +kernel
theorem dX6_unlikelyOnes_48 : decode cX6_unlikelyOnes 48 = .ok (.iinc 2 1, 3) := by decide +kernel
theorem dX6_unlikelyOnes_51 : decode cX6_unlikelyOnes 51 = .ok (.goto (-47), 3) := by decide +kernel
theorem dX6_unlikelyOnes_54 : decode cX6_unlikelyOnes 54 = .ok (.iload_n 1, 1) := by decide +kernel
theorem dX6_unlikelyOnes_55 : decode cX6_unlikelyOnes 55 = .ok (.aload_n 0, 1) := by decide +kernel
theorem dX6_unlikelyOnes_56 : decode cX6_unlikelyOnes 56 = .ok (.getfield 9, 3) := by decide +kernel
theorem dX6_unlikelyOnes_59 : decode cX6_unlikelyOnes 59 = .ok (.iconst 1, 1) := by decide +kernel
theorem dX6_unlikelyOnes_60 : decode cX6_unlikelyOnes 60 = .ok (.iaload, 1) := by decide +kernel
theorem dX6_unlikelyOnes_61 : decode cX6_unlikelyOnes 61 = .ok (.iand, 1) := by decide +kernel
theorem dX6_unlikelyOnes_62 : decode cX6_unlikelyOnes 62 = .ok (.ireturn, 1) := by decide +kernel
theorem dX6_team_0 : decode cX6_team 0 = .ok (.aload_n 0, 1) := by decide +kernel
theorem dX6_team_1 : decode cX6_team 1 = .ok (.getfield 21, 3) := by decide +kernel
theorem dX6_team_4 : decode cX6_team 4 = .ok (.iload_n 1, 1) := by decide +kernel
theorem dX6_team_5 : decode cX6_team 5 = .ok (.iaload, 1) := by decide +kernel
theorem dX6_team_6 : decode cX6_team 6 = .ok (.aload_n 0, 1) := by decide +kernel
theorem dX6_team_7 : decode cX6_team 7 = .ok (.getfield 37, 3) := by decide +kernel
theorem dX6_team_10 : decode cX6_team 10 = .ok (.iand, 1) := by decide +kernel
theorem dX6_team_11 : decode cX6_team 11 = .ok (.ireturn, 1) := by decide +kernel
set_option maxRecDepth 20000 in
theorem ggX6_threats_X8_otherOf : GoodIn wsX6_threats wsX8_otherOf := goodIn_r _ [5] (by decide +kernel) (by decide +kernel)
set_option maxRecDepth 20000 in
theorem gX6_threats_X8_otherOf_n107 : GoodIn wsX6_threats (wsX8_otherOf) := ggX6_threats_X8_otherOf
set_option maxRecDepth 20000 in
theorem ggX6_threats_X6_team : GoodIn wsX6_threats wsX6_team := goodIn_r _ [10, 11, 12, 18, 19, 20, 21, 22, 23, 24, 25, 26, 27, 28, 29] (by decide +kernel) (by decide +kernel)
set_option maxRecDepth 20000 in
theorem gX6_threats_X6_team : GoodIn wsX6_threats (wsV RX6 104 RX6 yX6_team wsX6_team) := goodIn_app (goodIn_of _ (by decide +kernel)) ggX6_threats_X6_team
set_option maxRecDepth 20000 in
theorem ggX6_threats_X6_belowAny : GoodIn wsX6_threats wsX6_belowAny := goodIn_r _ [16, 17, 18, 19, 20, 21, 22, 23, 24, 25, 26, 27, 28, 29] (by decide +kernel) (by decide +kernel)
set_option maxRecDepth 20000 in
theorem gX6_threats_X6_belowAny : GoodIn wsX6_threats (wsV RX6 119 RX6 yX6_belowAny wsX6_belowAny) := goodIn_app (goodIn_of _ (by decide +kernel)) ggX6_threats_X6_belowAny
theorem dX6_threats_0 : decode cX6_threats 0 = .ok (.aload_n 0, 1) := by decide +kernel
theorem dX6_threats_1 : decode cX6_threats 1 = .ok (.getfield 24, 3) := by decide +kernel
theorem dX6_threats_4 : decode cX6_threats 4 = .ok (.iload_n 1, 1) := by decide +kernel
theorem dX6_threats_5 : decode cX6_threats 5 = .ok (.invokestatic 107, 3) := by decide +kernel
theorem dX6_threats_8 : decode cX6_threats 8 = .ok (.iaload, 1) := by decide +kernel
theorem dX6_threats_9 : decode cX6_threats 9 = .ok (.aload_n 0, 1) := by decide +kernel
theorem dX6_threats_10 : decode cX6_threats 10 = .ok (.getfield 40, 3) := by decide +kernel
theorem dX6_threats_13 : decode cX6_threats 13 = .ok (.iconst (-1), 1) := by decide +kernel
theorem dX6_threats_14 : decode cX6_threats 14 = .ok (.ixor, 1) := by decide +kernel
theorem dX6_threats_15 : decode cX6_threats 15 = .ok (.iand, 1) := by decide +kernel
theorem dX6_threats_16 : decode cX6_threats 16 = .ok (.aload_n 0, 1) := by decide +kernel
theorem dX6_threats_17 : decode cX6_threats 17 = .ok (.aload_n 0, 1) := by decide +kernel
theorem dX6_threats_18 : decode cX6_threats 18 = .ok (.iload_n 1, 1) := by decide +kernel
theorem dX6_threats_19 : decode cX6_threats 19 = .ok (.invokevirtual 104, 3) := by decide +kernel
theorem dX6_threats_22 : decode cX6_threats 22 = .ok (.invokevirtual 119, 3) := by decide +kernel
theorem dX6_threats_25 : decode cX6_threats 25 = .ok (.iconst (-1), 1) := by decide +kernel
theorem dX6_threats_26 : decode cX6_threats 26 = .ok (.ixor, 1) := by decide +kernel
theorem dX6_threats_27 : decode cX6_threats 27 = .ok (.iand, 1) := by decide +kernel
theorem dX6_threats_28 : decode cX6_threats 28 = .ok (.ireturn, 1) := by decide +kernel
theorem dX6_unfallen_0 : decode cX6_unfallen 0 = .ok (.aload_n 0, 1) := by decide +kernel
theorem dX6_unfallen_1 : decode cX6_unfallen 1 = .ok (.getfield 21, 3) := by decide +kernel
theorem dX6_unfallen_4 : decode cX6_unfallen 4 = .ok (.iload_n 1, 1) := by decide +kernel
theorem dX6_unfallen_5 : decode cX6_unfallen 5 = .ok (.iaload, 1) := by decide +kernel
theorem dX6_unfallen_6 : decode cX6_unfallen 6 = .ok (.aload_n 0, 1) := by decide +kernel
theorem dX6_unfallen_7 : decode cX6_unfallen 7 = .ok (.getfield 40, 3) := by decide +kernel
theorem dX6_unfallen_10 : decode cX6_unfallen 10 = .ok (.iconst (-1), 1) := by decide +kernel
theorem dX6_unfallen_11 : decode cX6_unfallen 11 = .ok (.ixor, 1) := by decide +kernel
theorem dX6_unfallen_12 : decode cX6_unfallen 12 = .ok (.iand, 1) := by decide +kernel
theorem dX6_unfallen_13 : decode cX6_unfallen 13 = .ok (.ireturn, 1) := by decide +kernel
set_option maxRecDepth 20000 in
theorem ggX6_victors_X8_otherOf : GoodIn wsX6_victors wsX8_otherOf := goodIn_r _ [5] (by decide +kernel) (by decide +kernel)
set_option maxRecDepth 20000 in
theorem gX6_victors_X8_otherOf_n107 : GoodIn wsX6_victors (wsX8_otherOf) := ggX6_victors_X8_otherOf
set_option maxRecDepth 20000 in
theorem ggX6_victors_X6_unfallen : GoodIn wsX6_victors wsX6_unfallen := goodIn_r _ [10, 11, 12, 18, 19, 20, 21, 22, 23, 24, 25, 26, 27, 28, 29] (by decide +kernel) (by decide +kernel)
set_option maxRecDepth 20000 in
theorem gX6_victors_X6_unfallen : GoodIn wsX6_victors (wsV RX6 113 RX6 yX6_unfallen wsX6_unfallen) := goodIn_app (goodIn_of _ (by decide +kernel)) ggX6_victors_X6_unfallen
set_option maxRecDepth 20000 in
theorem ggX6_victors_X6_belowAny : GoodIn wsX6_victors wsX6_belowAny := goodIn_r _ [16, 17, 18, 19, 20, 21, 22, 23, 24, 25, 26, 27, 28, 29] (by decide +kernel) (by decide +kernel)
set_option maxRecDepth 20000 in
theorem gX6_victors_X6_belowAny : GoodIn wsX6_victors (wsV RX6 119 RX6 yX6_belowAny wsX6_belowAny) := goodIn_app (goodIn_of _ (by decide +kernel)) ggX6_victors_X6_belowAny
theorem dX6_victors_0 : decode cX6_victors 0 = .ok (.aload_n 0, 1) := by decide +kernel
theorem dX6_victors_1 : decode cX6_victors 1 = .ok (.getfield 24, 3) := by decide +kernel
theorem dX6_victors_4 : decode cX6_victors 4 = .ok (.iload_n 1, 1) := by decide +kernel
theorem dX6_victors_5 : decode cX6_victors 5 = .ok (.invokestatic 107, 3) := by decide +kernel
theorem dX6_victors_8 : decode cX6_victors 8 = .ok (.iaload, 1) := by decide +kernel
theorem dX6_victors_9 : decode cX6_victors 9 = .ok (.aload_n 0, 1) := by decide +kernel
theorem dX6_victors_10 : decode cX6_victors 10 = .ok (.getfield 37, 3) := by decide +kernel
theorem dX6_victors_13 : decode cX6_victors 13 = .ok (.iand, 1) := by decide +kernel
theorem dX6_victors_14 : decode cX6_victors 14 = .ok (.aload_n 0, 1) := by decide +kernel
theorem dX6_victors_15 : decode cX6_victors 15 = .ok (.aload_n 0, 1) := by decide +kernel
theorem dX6_victors_16 : decode cX6_victors 16 = .ok (.iload_n 1, 1) := by decide +kernel
theorem dX6_victors_17 : decode cX6_victors 17 = .ok (.invokevirtual 113, 3) := by decide +kernel
theorem dX6_victors_20 : decode cX6_victors 20 = .ok (.invokevirtual 119, 3) := by decide +kernel
theorem dX6_victors_23 : decode cX6_victors 23 = .ok (.iconst (-1), 1) := by decide +kernel
theorem dX6_victors_24 : decode cX6_victors 24 = .ok (.ixor, 1) := by decide +kernel
theorem dX6_victors_25 : decode cX6_victors 25 = .ok (.iand, 1) := by decide +kernel
theorem dX6_victors_26 : decode cX6_victors 26 = .ok (.ireturn, 1) := by decide +kernel
theorem dX6_belowAny_0 : decode cX6_belowAny 0 = .ok (.iconst 0, 1) := by decide +kernel
theorem dX6_belowAny_1 : decode cX6_belowAny 1 = .ok (.istore_n 2, 1) := by decide +kernel
theorem dX6_belowAny_2 : decode cX6_belowAny 2 = .ok (.iconst 0, 1) := by decide +kernel
theorem dX6_belowAny_3 : decode cX6_belowAny 3 = .ok (.istore_n 3, 1) := by decide +kernel
theorem dX6_belowAny_4 : decode cX6_belowAny 4 = .ok (.iload_n 3, 1) := by decide +kernel
theorem dX6_belowAny_5 : decode cX6_belowAny 5 = .ok (.bipush 16, 2) := by decide +kernel
theorem dX6_belowAny_7 : decode cX6_belowAny 7 = .ok (.if_icmp .ge 27, 3) := by decide +kernel
theorem dX6_belowAny_10 : decode cX6_belowAny 10 = .ok (.iload_n 1, 1) := by decide +kernel
theorem dX6_belowAny_11 : decode cX6_belowAny 11 = .ok (.iload_n 3, 1) := by decide +kernel
theorem dX6_belowAny_12 : decode cX6_belowAny 12 = .ok (.ishr, 1) := by decide +kernel
theorem dX6_belowAny_13 : decode cX6_belowAny 13 = .ok (.iconst 1, 1) := by decide +kernel
theorem dX6_belowAny_14 : decode cX6_belowAny 14 = .ok (.iand, 1) := by decide +kernel
theorem dX6_belowAny_15 : decode cX6_belowAny 15 = .ok (.iconst 1, 1) := by decide +kernel
theorem dX6_belowAny_16 : decode cX6_belowAny 16 = .ok (.if_icmp .ne 12, 3) := by decide +kernel
theorem dX6_belowAny_19 : decode cX6_belowAny 19 = .ok (.iload_n 2, 1) := by decide +kernel
theorem dX6_belowAny_20 : decode cX6_belowAny 20 = .ok (.aload_n 0, 1) := by decide +kernel
theorem dX6_belowAny_21 : decode cX6_belowAny 21 = .ok (.getfield 27, 3) := by decide +kernel
theorem dX6_belowAny_24 : decode cX6_belowAny 24 = .ok (.iload_n 3, 1) := by decide +kernel
theorem dX6_belowAny_25 : decode cX6_belowAny 25 = .ok (.iaload, 1) := by decide +kernel
theorem dX6_belowAny_26 : decode cX6_belowAny 26 = .ok (.ior, 1) := by decide +kernel
theorem dX6_belowAny_27 : decode cX6_belowAny 27 = .ok (.istore_n 2, 1) := by decide +kernel
theorem dX6_belowAny_28 : decode cX6_belowAny 28 = .ok (.iinc 3 1, 3) := by decide +kernel
theorem dX6_belowAny_31 : decode cX6_belowAny 31 = .ok (.goto (-27), 3) := by decide +kernel
theorem dX6_belowAny_34 : decode cX6_belowAny 34 = .ok (.iload_n 2, 1) := by decide +kernel
theorem dX6_belowAny_35 : decode cX6_belowAny 35 = .ok (.ireturn, 1) := by decide +kernel
theorem dX6_missing_0 : decode cX6_missing 0 = .ok (.ldc 122, 2) := by decide +kernel
theorem dX6_missing_2 : decode cX6_missing 2 = .ok (.aload_n 0, 1) := by decide +kernel
theorem dX6_missing_3 : decode cX6_missing 3 = .ok (.getfield 9, 3) := by decide +kernel
theorem dX6_missing_6 : decode cX6_missing 6 = .ok (.iconst 2, 1) := by decide +kernel
theorem dX6_missing_7 : decode cX6_missing 7 = .ok (.iaload, 1) := by decide +kernel
theorem dX6_missing_8 : decode cX6_missing 8 = .ok (.aload_n 0, 1) := by decide +kernel
theorem dX6_missing_9 : decode cX6_missing 9 = .ok (.getfield 9, 3) := by decide +kernel
theorem dX6_missing_12 : decode cX6_missing 12 = .ok (.iconst 3, 1) := by decide +kernel
theorem dX6_missing_13 : decode cX6_missing 13 = .ok (.iaload, 1) := by decide +kernel
theorem dX6_missing_14 : decode cX6_missing 14 = .ok (.ior, 1) := by decide +kernel
theorem dX6_missing_15 : decode cX6_missing 15 = .ok (.iconst (-1), 1) := by decide +kernel
theorem dX6_missing_16 : decode cX6_missing 16 = .ok (.ixor, 1) := by decide +kernel
theorem dX6_missing_17 : decode cX6_missing 17 = .ok (.iand, 1) := by decide +kernel
theorem dX6_missing_18 : decode cX6_missing 18 = .ok (.ireturn, 1) := by decide +kernel
theorem dX6_likelyBothWays_0 : decode cX6_likelyBothWays 0 = .ok (.aload_n 0, 1) := by decide +kernel
theorem dX6_likelyBothWays_1 : decode cX6_likelyBothWays 1 = .ok (.getfield 9, 3) := by decide +kernel
theorem dX6_likelyBothWays_4 : decode cX6_likelyBothWays 4 = .ok (.iconst 2, 1) := by decide +kernel
theorem dX6_likelyBothWays_5 : decode cX6_likelyBothWays 5 = .ok (.iaload, 1) := by decide +kernel
theorem dX6_likelyBothWays_6 : decode cX6_likelyBothWays 6 = .ok (.istore_n 1, 1) := by decide +kernel
theorem dX6_likelyBothWays_7 : decode cX6_likelyBothWays 7 = .ok (.iload_n 1, 1) := by decide +kernel
theorem dX6_likelyBothWays_8 : decode cX6_likelyBothWays 8 = .ok (.iload_n 1, 1) := by decide +kernel
theorem dX6_likelyBothWays_9 : decode cX6_likelyBothWays 9 = .ok (.bipush 10, 2) := by decide +kernel
theorem dX6_likelyBothWays_11 : decode cX6_likelyBothWays 11 = .ok (.ishl, 1) := by decide +kernel
theorem dX6_likelyBothWays_12 : decode cX6_likelyBothWays 12 = .ok (.iload_n 1, 1) := by decide +kernel
theorem dX6_likelyBothWays_13 : decode cX6_likelyBothWays 13 = .ok (.bipush 10, 2) := by decide +kernel
theorem dX6_likelyBothWays_15 : decode cX6_likelyBothWays 15 = .ok (.ishr, 1) := by decide +kernel
theorem dX6_likelyBothWays_16 : decode cX6_likelyBothWays 16 = .ok (.ior, 1) := by decide +kernel
theorem dX6_likelyBothWays_17 : decode cX6_likelyBothWays 17 = .ok (.iand, 1) := by decide +kernel
theorem dX6_likelyBothWays_18 : decode cX6_likelyBothWays 18 = .ok (.ireturn, 1) := by decide +kernel
set_option maxRecDepth 20000 in
theorem ggX6_circles_X8_has : GoodIn wsX6_circles wsX8_has := goodIn_r _ [9] (by decide +kernel) (by decide +kernel)
set_option maxRecDepth 20000 in
theorem gX6_circles_X8_has_n68 : GoodIn wsX6_circles (wsX8_has) := ggX6_circles_X8_has
theorem dX6_circles_0 : decode cX6_circles 0 = .ok (.aload_n 0, 1) := by decide +kernel
theorem dX6_circles_1 : decode cX6_circles 1 = .ok (.getfield 27, 3) := by decide +kernel
theorem dX6_circles_4 : decode cX6_circles 4 = .ok (.iconst 0, 1) := by decide +kernel
theorem dX6_circles_5 : decode cX6_circles 5 = .ok (.aload_n 0, 1) := by decide +kernel
theorem dX6_circles_6 : decode cX6_circles 6 = .ok (.getfield 30, 3) := by decide +kernel
theorem dX6_circles_9 : decode cX6_circles 9 = .ok (.iconst 0, 1) := by decide +kernel
theorem dX6_circles_10 : decode cX6_circles 10 = .ok (.bipush 16, 2) := by decide +kernel
theorem dX6_circles_12 : decode cX6_circles 12 = .ok (.invokestatic 123, 3) := by decide +kernel
theorem dX6_circles_15 : decode cX6_circles 15 = .ok (.iconst 0, 1) := by decide +kernel
theorem dX6_circles_16 : decode cX6_circles 16 = .ok (.istore_n 1, 1) := by decide +kernel
theorem dX6_circles_17 : decode cX6_circles 17 = .ok (.iload_n 1, 1) := by decide +kernel
theorem dX6_circles_18 : decode cX6_circles 18 = .ok (.bipush 16, 2) := by decide +kernel
theorem dX6_circles_20 : decode cX6_circles 20 = .ok (.if_icmp .ge 51, 3) := by decide +kernel
theorem dX6_circles_23 : decode cX6_circles 23 = .ok (.iconst 0, 1) := by decide +kernel
theorem dX6_circles_24 : decode cX6_circles 24 = .ok (.istore_n 2, 1) := by decide +kernel
theorem dX6_circles_25 : decode cX6_circles 25 = .ok (.iload_n 2, 1) := by decide +kernel
theorem dX6_circles_26 : decode cX6_circles 26 = .ok (.bipush 16, 2) := by decide +kernel
theorem dX6_circles_28 : decode cX6_circles 28 = .ok (.if_icmp .ge 37, 3) := by decide +kernel
theorem dX6_circles_31 : decode cX6_circles 31 = .ok (.aload_n 0, 1) := by decide +kernel
theorem dX6_circles_32 : decode cX6_circles 32 = .ok (.getfield 30, 3) := by decide +kernel
theorem dX6_circles_35 : decode cX6_circles 35 = .ok (.iload_n 2, 1) := by decide +kernel
theorem dX6_circles_36 : decode cX6_circles 36 = .ok (.iaload, 1) := by decide +kernel
theorem dX6_circles_37 : decode cX6_circles 37 = .ok (.iload_n 1, 1) := by decide +kernel
theorem dX6_circles_38 : decode cX6_circles 38 = .ok (.invokestatic 68, 3) := by decide +kernel
theorem dX6_circles_41 : decode cX6_circles 41 = .ok (.ifCond .eq 18, 3) := by decide +kernel
theorem dX6_circles_44 : decode cX6_circles 44 = .ok (.aload_n 0, 1) := by decide +kernel
theorem dX6_circles_45 : decode cX6_circles 45 = .ok (.getfield 30, 3) := by decide +kernel
theorem dX6_circles_48 : decode cX6_circles 48 = .ok (.iload_n 2, 1) := by decide +kernel
theorem dX6_circles_49 : decode cX6_circles 49 = .ok (.dup2, 1) := by decide +kernel
theorem dX6_circles_50 : decode cX6_circles 50 = .ok (.iaload, 1) := by decide +kernel
theorem dX6_circles_51 : decode cX6_circles 51 = .ok (.aload_n 0, 1) := by decide +kernel
theorem dX6_circles_52 : decode cX6_circles 52 = .ok (.getfield 30, 3) := by decide +kernel
theorem dX6_circles_55 : decode cX6_circles 55 = .ok (.iload_n 1, 1) := by decide +kernel
theorem dX6_circles_56 : decode cX6_circles 56 = .ok (.iaload, 1) := by decide +kernel
theorem dX6_circles_57 : decode cX6_circles 57 = .ok (.ior, 1) := by decide +kernel
theorem dX6_circles_58 : decode cX6_circles 58 = .ok (.iastore, 1) := by decide +kernel
theorem dX6_circles_59 : decode cX6_circles 59 = .ok (.iinc 2 1, 3) := by decide +kernel
theorem dX6_circles_62 : decode cX6_circles 62 = .ok (.goto (-37), 3) := by decide +kernel
theorem dX6_circles_65 : decode cX6_circles 65 = .ok (.iinc 1 1, 3) := by decide +kernel
theorem dX6_circles_68 : decode cX6_circles 68 = .ok (.goto (-51), 3) := by decide +kernel
theorem dX6_circles_71 : decode cX6_circles 71 = .ok (.iconst 0, 1) := by decide +kernel
theorem dX6_circles_72 : decode cX6_circles 72 = .ok (.istore_n 1, 1) := by decide +kernel
theorem dX6_circles_73 : decode cX6_circles 73 = .ok (.iconst 0, 1) := by decide +kernel
theorem dX6_circles_74 : decode cX6_circles 74 = .ok (.istore_n 2, 1) := by decide +kernel
theorem dX6_circles_75 : decode cX6_circles 75 = .ok (.iload_n 2, 1) := by decide +kernel
theorem dX6_circles_76 : decode cX6_circles 76 = .ok (.bipush 16, 2) := by decide +kernel
theorem dX6_circles_78 : decode cX6_circles 78 = .ok (.if_icmp .ge 22, 3) := by decide +kernel
theorem dX6_circles_81 : decode cX6_circles 81 = .ok (.iload_n 1, 1) := by decide +kernel
theorem dX6_circles_82 : decode cX6_circles 82 = .ok (.aload_n 0, 1) := by decide +kernel
theorem dX6_circles_83 : decode cX6_circles 83 = .ok (.getfield 30, 3) := by decide +kernel
theorem dX6_circles_86 : decode cX6_circles 86 = .ok (.iload_n 2, 1) := by decide +kernel
theorem dX6_circles_87 : decode cX6_circles 87 = .ok (.iaload, 1) := by decide +kernel
theorem dX6_circles_88 : decode cX6_circles 88 = .ok (.iconst 1, 1) := by decide +kernel
theorem dX6_circles_89 : decode cX6_circles 89 = .ok (.iload_n 2, 1) := by decide +kernel
theorem dX6_circles_90 : decode cX6_circles 90 = .ok (.ishl, 1) := by decide +kernel
theorem dX6_circles_91 : decode cX6_circles 91 = .ok (.iand, 1) := by decide +kernel
theorem dX6_circles_92 : decode cX6_circles 92 = .ok (.ior, 1) := by decide +kernel
theorem dX6_circles_93 : decode cX6_circles 93 = .ok (.istore_n 1, 1) := by decide +kernel
theorem dX6_circles_94 : decode cX6_circles 94 = .ok (.iinc 2 1, 3) := by decide +kernel
theorem dX6_circles_97 : decode cX6_circles 97 = .ok (.goto (-22), 3) := by decide +kernel
theorem dX6_circles_100 : decode cX6_circles 100 = .ok (.iload_n 1, 1) := by decide +kernel
theorem dX6_circles_101 : decode cX6_circles 101 = .ok (.ireturn, 1) := by decide +kernel
theorem dX7_init_0 : decode cX7_init 0 = .ok (.aload_n 0, 1) := by decide +kernel
theorem dX7_init_1 : decode cX7_init 1 = .ok (.invokespecial 3, 3) := by decide +kernel
theorem dX7_init_4 : decode cX7_init 4 = .ok (.aload_n 0, 1) := by decide +kernel
theorem dX7_init_5 : decode cX7_init 5 = .ok (.bipush 120, 2) := by decide +kernel
theorem dX7_init_7 : decode cX7_init 7 = .ok (.newarray .int, 2) := by decide +kernel
theorem dX7_init_9 : decode cX7_init 9 = .ok (.putfield 9, 3) := by decide +kernel
theorem dX7_init_12 : decode cX7_init 12 = .ok (.aload_n 0, 1) := by decide +kernel
theorem dX7_init_13 : decode cX7_init 13 = .ok (.bipush 60, 2) := by decide +kernel
theorem dX7_init_15 : decode cX7_init 15 = .ok (.newarray .int, 2) := by decide +kernel
theorem dX7_init_17 : decode cX7_init 17 = .ok (.putfield 15, 3) := by decide +kernel
theorem dX7_init_20 : decode cX7_init 20 = .ok (.aload_n 0, 1) := by decide +kernel
theorem dX7_init_21 : decode cX7_init 21 = .ok (.bipush 60, 2) := by decide +kernel
theorem dX7_init_23 : decode cX7_init 23 = .ok (.newarray .int, 2) := by decide +kernel
theorem dX7_init_25 : decode cX7_init 25 = .ok (.putfield 18, 3) := by decide +kernel
theorem dX7_init_28 : decode cX7_init 28 = .ok (.aload_n 0, 1) := by decide +kernel
theorem dX7_init_29 : decode cX7_init 29 = .ok (.bipush 60, 2) := by decide +kernel
theorem dX7_init_31 : decode cX7_init 31 = .ok (.newarray .int, 2) := by decide +kernel
theorem dX7_init_33 : decode cX7_init 33 = .ok (.putfield 21, 3) := by decide +kernel
theorem dX7_init_36 : decode cX7_init 36 = .ok (.aload_n 0, 1) := by decide +kernel
theorem dX7_init_37 : decode cX7_init 37 = .ok (.bipush 60, 2) := by decide +kernel
theorem dX7_init_39 : decode cX7_init 39 = .ok (.newarray .int, 2) := by decide +kernel
theorem dX7_init_41 : decode cX7_init 41 = .ok (.putfield 24, 3) := by decide +kernel
theorem dX7_init_44 : decode cX7_init 44 = .ok (.aload_n 0, 1) := by decide +kernel
theorem dX7_init_45 : decode cX7_init 45 = .ok (.bipush 60, 2) := by decide +kernel
theorem dX7_init_47 : decode cX7_init 47 = .ok (.newarray .int, 2) := by decide +kernel
theorem dX7_init_49 : decode cX7_init 49 = .ok (.putfield 27, 3) := by decide +kernel
theorem dX7_init_52 : decode cX7_init 52 = .ok (.aload_n 0, 1) := by decide +kernel
theorem dX7_init_53 : decode cX7_init 53 = .ok (.bipush 60, 2) := by decide +kernel
theorem dX7_init_55 : decode cX7_init 55 = .ok (.newarray .int, 2) := by decide +kernel
theorem dX7_init_57 : decode cX7_init 57 = .ok (.putfield 30, 3) := by decide +kernel
theorem dX7_init_60 : decode cX7_init 60 = .ok (.aload_n 0, 1) := by decide +kernel
theorem dX7_init_61 : decode cX7_init 61 = .ok (.iconst 0, 1) := by decide +kernel
theorem dX7_init_62 : decode cX7_init 62 = .ok (.putfield 33, 3) := by decide +kernel
theorem dX7_init_65 : decode cX7_init 65 = .ok (.aload_n 0, 1) := by decide +kernel
theorem dX7_init_66 : decode cX7_init 66 = .ok (.iconst 0, 1) := by decide +kernel
theorem dX7_init_67 : decode cX7_init 67 = .ok (.putfield 37, 3) := by decide +kernel
theorem dX7_init_70 : decode cX7_init 70 = .ok (.aload_n 0, 1) := by decide +kernel
theorem dX7_init_71 : decode cX7_init 71 = .ok (.iconst 0, 1) := by decide +kernel
theorem dX7_init_72 : decode cX7_init 72 = .ok (.putfield 40, 3) := by decide +kernel
theorem dX7_init_75 : decode cX7_init 75 = .ok (.return_, 1) := by decide +kernel
set_option maxRecDepth 20000 in
theorem ggX8_init_X0_init : GoodIn wsX8_init wsX0_init := goodIn_r _ [38, 39, 2, 3, 40, 41, 42, 43, 44, 45, 46, 47, 48, 49, 114, 115, 116, 117, 118, 119, 120, 121, 122] (by decide +kernel) (by decide +kernel)
set_option maxRecDepth 20000 in
theorem gX8_init_X0_init_n13 : GoodIn wsX8_init (wsX0_init) := ggX8_init_X0_init
set_option maxRecDepth 20000 in
theorem ggX8_init_X4_init : GoodIn wsX8_init wsX4_init := goodIn_r _ [51, 52, 2, 3, 53, 54, 55, 56, 40, 57, 58, 59, 60, 61, 62, 63, 64, 65, 66, 67, 68, 69, 70, 71, 72, 73, 159, 160, 161, 162, 163, 164, 165, 166, 167, 168, 169, 170, 135, 136, 137] (by decide +kernel) (by decide +kernel)
set_option maxRecDepth 20000 in
theorem gX8_init_X4_init_n20 : GoodIn wsX8_init (wsX4_init) := ggX8_init_X4_init
set_option maxRecDepth 20000 in
theorem ggX8_init_X3_init : GoodIn wsX8_init wsX3_init := goodIn_r _ [75, 76, 2, 3, 77, 54, 55, 78, 40, 79, 80, 81, 59, 60, 61, 62, 63, 64, 65, 66, 67, 68, 69, 70, 71, 72, 73, 159, 160, 161, 162, 163, 164, 165, 166, 167, 168, 169, 170, 138, 139, 140, 141] (by decide +kernel) (by decide +kernel)
set_option maxRecDepth 20000 in
theorem gX8_init_X3_init_n33 : GoodIn wsX8_init (wsX3_init) := ggX8_init_X3_init
set_option maxRecDepth 20000 in
theorem ggX8_init_X1_init : GoodIn wsX8_init wsX1_init := goodIn_r _ [84, 85, 2, 3, 86, 87, 88, 89, 5, 6, 37, 38, 39, 40, 41, 42, 43, 44, 45, 46, 47, 48, 49, 142, 143, 144, 114, 115, 116, 117, 118, 119, 120, 121, 122] (by decide +kernel) (by decide +kernel)
set_option maxRecDepth 20000 in
theorem gX8_init_X1_init : GoodIn wsX8_init (wsX1_init) := ggX8_init_X1_init
set_option maxRecDepth 20000 in
theorem ggX8_init_X7_init : GoodIn wsX8_init wsX7_init := goodIn_r _ [91, 92, 2, 3, 40, 93, 94, 95, 96, 97, 98, 99, 100, 101, 102, 145, 146, 147, 148, 149, 150, 151, 152, 153, 154] (by decide +kernel) (by decide +kernel)
set_option maxRecDepth 20000 in
theorem gX8_init_X7_init_n50 : GoodIn wsX8_init (wsX7_init) := ggX8_init_X7_init
set_option maxRecDepth 20000 in
theorem ggX8_init_X2_init : GoodIn wsX8_init wsX2_init := goodIn_r _ [104, 105, 2, 3, 40, 106, 107, 155, 156] (by decide +kernel) (by decide +kernel)
set_option maxRecDepth 20000 in
theorem gX8_init_X2_init_n57 : GoodIn wsX8_init (wsX2_init) := ggX8_init_X2_init
set_option maxRecDepth 20000 in
theorem ggX8_init_X5_init : GoodIn wsX8_init wsX5_init := goodIn_r _ [109, 110, 2, 3, 111, 40, 112, 113, 157, 158] (by decide +kernel) (by decide +kernel)
set_option maxRecDepth 20000 in
theorem gX8_init_X5_init_n64 : GoodIn wsX8_init (wsX5_init) := ggX8_init_X5_init
theorem dX8_init_0 : decode cX8_init 0 = .ok (.aload_n 0, 1) := by decide +kernel
theorem dX8_init_1 : decode cX8_init 1 = .ok (.invokespecial 5, 3) := by decide +kernel
theorem dX8_init_4 : decode cX8_init 4 = .ok (.aload_n 0, 1) := by decide +kernel
theorem dX8_init_5 : decode cX8_init 5 = .ok (.new 11, 3) := by decide +kernel
theorem dX8_init_8 : decode cX8_init 8 = .ok (.dup, 1) := by decide +kernel
theorem dX8_init_9 : decode cX8_init 9 = .ok (.invokespecial 13, 3) := by decide +kernel
theorem dX8_init_12 : decode cX8_init 12 = .ok (.putfield 14, 3) := by decide +kernel
theorem dX8_init_15 : decode cX8_init 15 = .ok (.aload_n 0, 1) := by decide +kernel
theorem dX8_init_16 : decode cX8_init 16 = .ok (.new 18, 3) := by decide +kernel
theorem dX8_init_19 : decode cX8_init 19 = .ok (.dup, 1) := by decide +kernel
theorem dX8_init_20 : decode cX8_init 20 = .ok (.invokespecial 20, 3) := by decide +kernel
theorem dX8_init_23 : decode cX8_init 23 = .ok (.putfield 21, 3) := by decide +kernel
theorem dX8_init_26 : decode cX8_init 26 = .ok (.aload_n 0, 1) := by decide +kernel
theorem dX8_init_27 : decode cX8_init 27 = .ok (.new 11, 3) := by decide +kernel
theorem dX8_init_30 : decode cX8_init 30 = .ok (.dup, 1) := by decide +kernel
theorem dX8_init_31 : decode cX8_init 31 = .ok (.invokespecial 13, 3) := by decide +kernel
theorem dX8_init_34 : decode cX8_init 34 = .ok (.putfield 25, 3) := by decide +kernel
theorem dX8_init_37 : decode cX8_init 37 = .ok (.aload_n 0, 1) := by decide +kernel
theorem dX8_init_38 : decode cX8_init 38 = .ok (.new 18, 3) := by decide +kernel
theorem dX8_init_41 : decode cX8_init 41 = .ok (.dup, 1) := by decide +kernel
theorem dX8_init_42 : decode cX8_init 42 = .ok (.invokespecial 20, 3) := by decide +kernel
theorem dX8_init_45 : decode cX8_init 45 = .ok (.putfield 28, 3) := by decide +kernel
theorem dX8_init_48 : decode cX8_init 48 = .ok (.aload_n 0, 1) := by decide +kernel
theorem dX8_init_49 : decode cX8_init 49 = .ok (.new 31, 3) := by decide +kernel
theorem dX8_init_52 : decode cX8_init 52 = .ok (.dup, 1) := by decide +kernel
theorem dX8_init_53 : decode cX8_init 53 = .ok (.invokespecial 33, 3) := by decide +kernel
theorem dX8_init_56 : decode cX8_init 56 = .ok (.putfield 34, 3) := by decide +kernel
theorem dX8_init_59 : decode cX8_init 59 = .ok (.aload_n 0, 1) := by decide +kernel
theorem dX8_init_60 : decode cX8_init 60 = .ok (.new 38, 3) := by decide +kernel
theorem dX8_init_63 : decode cX8_init 63 = .ok (.dup, 1) := by decide +kernel
theorem dX8_init_64 : decode cX8_init 64 = .ok (.invokespecial 40, 3) := by decide +kernel
theorem dX8_init_67 : decode cX8_init 67 = .ok (.putfield 41, 3) := by decide +kernel
theorem dX8_init_70 : decode cX8_init 70 = .ok (.aload_n 0, 1) := by decide +kernel
theorem dX8_init_71 : decode cX8_init 71 = .ok (.new 11, 3) := by decide +kernel
theorem dX8_init_74 : decode cX8_init 74 = .ok (.dup, 1) := by decide +kernel
theorem dX8_init_75 : decode cX8_init 75 = .ok (.invokespecial 13, 3) := by decide +kernel
theorem dX8_init_78 : decode cX8_init 78 = .ok (.putfield 45, 3) := by decide +kernel
theorem dX8_init_81 : decode cX8_init 81 = .ok (.aload_n 0, 1) := by decide +kernel
theorem dX8_init_82 : decode cX8_init 82 = .ok (.new 48, 3) := by decide +kernel
theorem dX8_init_85 : decode cX8_init 85 = .ok (.dup, 1) := by decide +kernel
theorem dX8_init_86 : decode cX8_init 86 = .ok (.invokespecial 50, 3) := by decide +kernel
theorem dX8_init_89 : decode cX8_init 89 = .ok (.putfield 51, 3) := by decide +kernel
theorem dX8_init_92 : decode cX8_init 92 = .ok (.aload_n 0, 1) := by decide +kernel
theorem dX8_init_93 : decode cX8_init 93 = .ok (.new 55, 3) := by decide +kernel
theorem dX8_init_96 : decode cX8_init 96 = .ok (.dup, 1) := by decide +kernel
theorem dX8_init_97 : decode cX8_init 97 = .ok (.invokespecial 57, 3) := by decide +kernel
theorem dX8_init_100 : decode cX8_init 100 = .ok (.putfield 58, 3) := by decide +kernel
theorem dX8_init_103 : decode cX8_init 103 = .ok (.aload_n 0, 1) := by decide +kernel
theorem dX8_init_104 : decode cX8_init 104 = .ok (.new 62, 3) := by decide +kernel
theorem dX8_init_107 : decode cX8_init 107 = .ok (.dup, 1) := by decide +kernel
theorem dX8_init_108 : decode cX8_init 108 = .ok (.invokespecial 64, 3) := by decide +kernel
theorem dX8_init_111 : decode cX8_init 111 = .ok (.putfield 65, 3) := by decide +kernel
theorem dX8_init_114 : decode cX8_init 114 = .ok (.aload_n 0, 1) := by decide +kernel
theorem dX8_init_115 : decode cX8_init 115 = .ok (.iconst 0, 1) := by decide +kernel
theorem dX8_init_116 : decode cX8_init 116 = .ok (.putfield 69, 3) := by decide +kernel
theorem dX8_init_119 : decode cX8_init 119 = .ok (.aload_n 0, 1) := by decide +kernel
theorem dX8_init_120 : decode cX8_init 120 = .ok (.iconst 0, 1) := by decide +kernel
theorem dX8_init_121 : decode cX8_init 121 = .ok (.putfield 73, 3) := by decide +kernel
theorem dX8_init_124 : decode cX8_init 124 = .ok (.return_, 1) := by decide +kernel
set_option maxRecDepth 20000 in
theorem ggX8_fact_X8_isLiteral : GoodIn wsX8_fact wsX8_isLiteral := goodIn_r _ [6] (by decide +kernel) (by decide +kernel)
set_option maxRecDepth 20000 in
theorem gX8_fact_X8_isLiteral : GoodIn wsX8_fact (va_wsS RX8 86 yX8_isLiteral wsX8_isLiteral) := goodIn_app (goodIn_of _ (by decide +kernel)) ggX8_fact_X8_isLiteral
set_option maxRecDepth 20000 in
theorem ggX8_fact_X8_isYesOrNo : GoodIn wsX8_fact wsX8_isYesOrNo := goodIn_r _ [9] (by decide +kernel) (by decide +kernel)
set_option maxRecDepth 20000 in
theorem gX8_fact_X8_isYesOrNo : GoodIn wsX8_fact (va_wsS RX8 90 yX8_isYesOrNo wsX8_isYesOrNo) := goodIn_app (goodIn_of _ (by decide +kernel)) ggX8_fact_X8_isYesOrNo
set_option maxRecDepth 20000 in
theorem ggX8_fact_X8_bit : GoodIn wsX8_fact wsX8_bit := goodIn_r _ [12] (by decide +kernel) (by decide +kernel)
set_option maxRecDepth 20000 in
theorem gX8_fact_X8_bit : GoodIn wsX8_fact (va_wsS RX8 96 yX8_bit wsX8_bit) := goodIn_app (goodIn_of _ (by decide +kernel)) ggX8_fact_X8_bit
set_option maxRecDepth 20000 in
theorem ggX8_fact_X8_withBit : GoodIn wsX8_fact wsX8_withBit := goodIn_r _ [15] (by decide +kernel) (by decide +kernel)
set_option maxRecDepth 20000 in
theorem gX8_fact_X8_withBit : GoodIn wsX8_fact (va_wsS RX8 100 yX8_withBit wsX8_withBit) := goodIn_app (goodIn_of _ (by decide +kernel)) ggX8_fact_X8_withBit
set_option maxRecDepth 20000 in
theorem ggX8_fact_X8_changed : GoodIn wsX8_fact wsX8_changed := goodIn_r _ [19, 20, 1, 21, 22, 23, 24, 25, 26, 27, 28, 29, 30, 31, 32, 33, 34, 35, 36, 37, 38, 39, 40, 41, 42, 43, 44, 45, 46, 47, 48, 49, 50, 51, 52, 53, 54, 55, 56, 57, 58, 59, 60, 61, 62, 63, 73, 74, 75, 64, 65, 66, 67, 68, 69, 70, 71, 72] (by decide +kernel) (by decide +kernel)
set_option maxRecDepth 20000 in
theorem gX8_fact_X8_changed : GoodIn wsX8_fact (wsV RX8 104 RX8 yX8_changed wsX8_changed) := goodIn_app (goodIn_of _ (by decide +kernel)) ggX8_fact_X8_changed
theorem dX8_fact_0 : decode cX8_fact 0 = .ok (.iload_n 1, 1) := by decide +kernel
theorem dX8_fact_1 : decode cX8_fact 1 = .ok (.invokestatic 86, 3) := by decide +kernel
theorem dX8_fact_4 : decode cX8_fact 4 = .ok (.ifCond .eq 10, 3) := by decide +kernel
theorem dX8_fact_7 : decode cX8_fact 7 = .ok (.iload_n 2, 1) := by decide +kernel
theorem dX8_fact_8 : decode cX8_fact 8 = .ok (.invokestatic 90, 3) := by decide +kernel
theorem dX8_fact_11 : decode cX8_fact 11 = .ok (.ifCond .ne 5, 3) := by decide +kernel
theorem dX8_fact_14 : decode cX8_fact 14 = .ok (.iconst (-1), 1) := by decide +kernel
theorem dX8_fact_15 : decode cX8_fact 15 = .ok (.ireturn, 1) := by decide +kernel
theorem dX8_fact_16 : decode cX8_fact 16 = .ok (.aload_n 0, 1) := by decide +kernel
theorem dX8_fact_17 : decode cX8_fact 17 = .ok (.getfield 14, 3) := by decide +kernel
theorem dX8_fact_20 : decode cX8_fact 20 = .ok (.getfield 93, 3) := by decide +kernel
theorem dX8_fact_23 : decode cX8_fact 23 = .ok (.iload_n 1, 1) := by decide +kernel
theorem dX8_fact_24 : decode cX8_fact 24 = .ok (.invokestatic 96, 3) := by decide +kernel
theorem dX8_fact_27 : decode cX8_fact 27 = .ok (.istore_n 3, 1) := by decide +kernel
theorem dX8_fact_28 : decode cX8_fact 28 = .ok (.aload_n 0, 1) := by decide +kernel
theorem dX8_fact_29 : decode cX8_fact 29 = .ok (.getfield 14, 3) := by decide +kernel
theorem dX8_fact_32 : decode cX8_fact 32 = .ok (.aload_n 0, 1) := by decide +kernel
theorem dX8_fact_33 : decode cX8_fact 33 = .ok (.getfield 14, 3) := by decide +kernel
theorem dX8_fact_36 : decode cX8_fact 36 = .ok (.getfield 93, 3) := by decide +kernel
theorem dX8_fact_39 : decode cX8_fact 39 = .ok (.iload_n 1, 1) := by decide +kernel
theorem dX8_fact_40 : decode cX8_fact 40 = .ok (.iload_n 2, 1) := by decide +kernel
theorem dX8_fact_41 : decode cX8_fact 41 = .ok (.invokestatic 100, 3) := by decide +kernel
theorem dX8_fact_44 : decode cX8_fact 44 = .ok (.putfield 93, 3) := by decide +kernel
theorem dX8_fact_47 : decode cX8_fact 47 = .ok (.aload_n 0, 1) := by decide +kernel
theorem dX8_fact_48 : decode cX8_fact 48 = .ok (.invokevirtual 104, 3) := by decide +kernel
theorem dX8_fact_51 : decode cX8_fact 51 = .ok (.iload_n 3, 1) := by decide +kernel
theorem dX8_fact_52 : decode cX8_fact 52 = .ok (.ireturn, 1) := by decide +kernel
set_option maxRecDepth 20000 in
theorem ggX8_rule_X8_isLiteral : GoodIn wsX8_rule wsX8_isLiteral := goodIn_r _ [6] (by decide +kernel) (by decide +kernel)
set_option maxRecDepth 20000 in
theorem gX8_rule_X8_isLiteral : GoodIn wsX8_rule (va_wsS RX8 86 yX8_isLiteral wsX8_isLiteral) := goodIn_app (goodIn_of _ (by decide +kernel)) ggX8_rule_X8_isLiteral
set_option maxRecDepth 20000 in
theorem ggX8_rule_X8_isStrength : GoodIn wsX8_rule wsX8_isStrength := goodIn_r _ [9] (by decide +kernel) (by decide +kernel)
set_option maxRecDepth 20000 in
theorem gX8_rule_X8_isStrength : GoodIn wsX8_rule (va_wsS RX8 107 yX8_isStrength wsX8_isStrength) := goodIn_app (goodIn_of _ (by decide +kernel)) ggX8_rule_X8_isStrength
set_option maxRecDepth 20000 in
theorem ggX8_rule_X8_areLiterals : GoodIn wsX8_rule wsX8_areLiterals := goodIn_r _ [12, 13] (by decide +kernel) (by decide +kernel)
set_option maxRecDepth 20000 in
theorem gX8_rule_X8_areLiterals : GoodIn wsX8_rule (va_wsS RX8 110 yX8_areLiterals wsX8_areLiterals) := goodIn_app (goodIn_of _ (by decide +kernel)) ggX8_rule_X8_areLiterals
set_option maxRecDepth 20000 in
theorem ggX8_rule_X0_add : GoodIn wsX8_rule wsX0_add := goodIn_r _ [18, 19, 20, 21, 22, 23, 24, 25, 66, 67, 68, 69, 70, 71, 72, 73, 74] (by decide +kernel) (by decide +kernel)
set_option maxRecDepth 20000 in
theorem gX8_rule_X0_add : GoodIn wsX8_rule (wsV RX8 113 RX0 yX0_add wsX0_add) := goodIn_app (goodIn_of _ (by decide +kernel)) ggX8_rule_X0_add
set_option maxRecDepth 20000 in
theorem ggX8_rule_X8_changed : GoodIn wsX8_rule wsX8_changed := goodIn_r _ [29, 30, 1, 31, 32, 33, 34, 35, 36, 37, 38, 39, 40, 41, 42, 43, 44, 45, 46, 17, 47, 20, 48, 49, 50, 51, 21, 22, 23, 24, 25, 52, 19, 53, 54, 55, 56, 57, 58, 59, 60, 61, 62, 63, 64, 65, 75, 76, 77, 66, 67, 68, 69, 70, 71, 72, 73, 74] (by decide +kernel) (by decide +kernel)
set_option maxRecDepth 20000 in
theorem gX8_rule_X8_changed : GoodIn wsX8_rule (wsV RX8 104 RX8 yX8_changed wsX8_changed) := goodIn_app (goodIn_of _ (by decide +kernel)) ggX8_rule_X8_changed
theorem dX8_rule_0 : decode cX8_rule 0 = .ok (.iload_n 1, 1) := by decide +kernel
theorem dX8_rule_1 : decode cX8_rule 1 = .ok (.ifCond .lt 23, 3) := by decide +kernel
theorem dX8_rule_4 : decode cX8_rule 4 = .ok (.iload_n 1, 1) := by decide +kernel
theorem dX8_rule_5 : decode cX8_rule 5 = .ok (.iconst 2, 1) := by decide +kernel
theorem dX8_rule_6 : decode cX8_rule 6 = .ok (.if_icmp .gt 18, 3) := by decide +kernel
theorem dX8_rule_9 : decode cX8_rule 9 = .ok (.iload_n 2, 1) := by decide +kernel
theorem dX8_rule_10 : decode cX8_rule 10 = .ok (.invokestatic 86, 3) := by decide +kernel
theorem dX8_rule_13 : decode cX8_rule 13 = .ok (.ifCond .eq 11, 3) := by decide +kernel
theorem dX8_rule_16 : decode cX8_rule 16 = .ok (.iload 5, 2) := by decide +kernel
theorem dX8_rule_18 : decode cX8_rule 18 = .ok (.invokestatic 107, 3) := by decide +kernel
theorem dX8_rule_21 : decode cX8_rule 21 = .ok (.ifCond .ne 5, 3) := by decide +kernel
theorem dX8_rule_24 : decode cX8_rule 24 = .ok (.iconst (-1), 1) := by decide +kernel
theorem dX8_rule_25 : decode cX8_rule 25 = .ok (.ireturn, 1) := by decide +kernel
theorem dX8_rule_26 : decode cX8_rule 26 = .ok (.iload_n 3, 1) := by decide +kernel
theorem dX8_rule_27 : decode cX8_rule 27 = .ok (.invokestatic 110, 3) := by decide +kernel
theorem dX8_rule_30 : decode cX8_rule 30 = .ok (.ifCond .eq 20, 3) := by decide +kernel
theorem dX8_rule_33 : decode cX8_rule 33 = .ok (.iload 4, 2) := by decide +kernel
theorem dX8_rule_35 : decode cX8_rule 35 = .ok (.invokestatic 110, 3) := by decide +kernel
theorem dX8_rule_38 : decode cX8_rule 38 = .ok (.ifCond .eq 12, 3) := by decide +kernel
theorem dX8_rule_41 : decode cX8_rule 41 = .ok (.iload_n 1, 1) := by decide +kernel
theorem dX8_rule_42 : decode cX8_rule 42 = .ok (.ifCond .ne 10, 3) := by decide +kernel
theorem dX8_rule_45 : decode cX8_rule 45 = .ok (.iload 4, 2) := by decide +kernel
theorem dX8_rule_47 : decode cX8_rule 47 = .ok (.ifCond .eq 5, 3) := by decide +kernel
theorem dX8_rule_50 : decode cX8_rule 50 = .ok (.iconst (-1), 1) := by decide +kernel
theorem dX8_rule_51 : decode cX8_rule 51 = .ok (.ireturn, 1) := by decide +kernel
theorem dX8_rule_52 : decode cX8_rule 52 = .ok (.aload_n 0, 1) := by decide +kernel
theorem dX8_rule_53 : decode cX8_rule 53 = .ok (.getfield 14, 3) := by decide +kernel
theorem dX8_rule_56 : decode cX8_rule 56 = .ok (.iload_n 1, 1) := by decide +kernel
theorem dX8_rule_57 : decode cX8_rule 57 = .ok (.iload_n 2, 1) := by decide +kernel
theorem dX8_rule_58 : decode cX8_rule 58 = .ok (.iload_n 3, 1) := by decide +kernel
theorem dX8_rule_59 : decode cX8_rule 59 = .ok (.iload 4, 2) := by decide +kernel
theorem dX8_rule_61 : decode cX8_rule 61 = .ok (.iload 5, 2) := by decide +kernel
theorem dX8_rule_63 : decode cX8_rule 63 = .ok (.invokevirtual 113, 3) := by decide +kernel
theorem dX8_rule_66 : decode cX8_rule 66 = .ok (.ifCond .ne 6, 3) := by decide +kernel
theorem dX8_rule_69 : decode cX8_rule 69 = .ok (.bipush (-3), 2) := by decide +kernel
theorem dX8_rule_71 : decode cX8_rule 71 = .ok (.ireturn, 1) := by decide +kernel
theorem dX8_rule_72 : decode cX8_rule 72 = .ok (.aload_n 0, 1) := by decide +kernel
theorem dX8_rule_73 : decode cX8_rule 73 = .ok (.invokevirtual 104, 3) := by decide +kernel
theorem dX8_rule_76 : decode cX8_rule 76 = .ok (.aload_n 0, 1) := by decide +kernel
theorem dX8_rule_77 : decode cX8_rule 77 = .ok (.getfield 14, 3) := by decide +kernel
theorem dX8_rule_80 : decode cX8_rule 80 = .ok (.getfield 76, 3) := by decide +kernel
theorem dX8_rule_83 : decode cX8_rule 83 = .ok (.iconst 1, 1) := by decide +kernel
theorem dX8_rule_84 : decode cX8_rule 84 = .ok (.isub, 1) := by decide +kernel
theorem dX8_rule_85 : decode cX8_rule 85 = .ok (.ireturn, 1) := by decide +kernel
set_option maxRecDepth 20000 in
theorem ggX8_off_X0_hasRule : GoodIn wsX8_off wsX0_hasRule := goodIn_r _ [7, 8, 65, 66, 67, 68, 69, 70, 71, 72, 73] (by decide +kernel) (by decide +kernel)
set_option maxRecDepth 20000 in
theorem gX8_off_X0_hasRule : GoodIn wsX8_off (wsV RX8 117 RX0 yX0_hasRule wsX0_hasRule) := goodIn_app (goodIn_of _ (by decide +kernel)) ggX8_off_X0_hasRule
set_option maxRecDepth 20000 in
theorem ggX8_off_X8_isYesOrNo : GoodIn wsX8_off wsX8_isYesOrNo := goodIn_r _ [12] (by decide +kernel) (by decide +kernel)
set_option maxRecDepth 20000 in
theorem gX8_off_X8_isYesOrNo : GoodIn wsX8_off (va_wsS RX8 90 yX8_isYesOrNo wsX8_isYesOrNo) := goodIn_app (goodIn_of _ (by decide +kernel)) ggX8_off_X8_isYesOrNo
set_option maxRecDepth 20000 in
theorem ggX8_off_X8_bit : GoodIn wsX8_off wsX8_bit := goodIn_r _ [15] (by decide +kernel) (by decide +kernel)
set_option maxRecDepth 20000 in
theorem gX8_off_X8_bit : GoodIn wsX8_off (va_wsS RX8 96 yX8_bit wsX8_bit) := goodIn_app (goodIn_of _ (by decide +kernel)) ggX8_off_X8_bit
set_option maxRecDepth 20000 in
theorem ggX8_off_X8_withBit : GoodIn wsX8_off wsX8_withBit := goodIn_r _ [18] (by decide +kernel) (by decide +kernel)
set_option maxRecDepth 20000 in
theorem gX8_off_X8_withBit : GoodIn wsX8_off (va_wsS RX8 100 yX8_withBit wsX8_withBit) := goodIn_app (goodIn_of _ (by decide +kernel)) ggX8_off_X8_withBit
set_option maxRecDepth 20000 in
theorem ggX8_off_X8_changed : GoodIn wsX8_off wsX8_changed := goodIn_r _ [22, 23, 1, 24, 25, 26, 27, 28, 29, 30, 31, 32, 33, 34, 35, 36, 37, 38, 39, 6, 40, 41, 42, 43, 44, 45, 46, 47, 48, 49, 50, 51, 8, 52, 53, 54, 55, 56, 57, 58, 59, 60, 61, 62, 63, 64, 74, 75, 76, 65, 66, 67, 68, 69, 70, 71, 72, 73] (by decide +kernel) (by decide +kernel)
set_option maxRecDepth 20000 in
theorem gX8_off_X8_changed : GoodIn wsX8_off (wsV RX8 104 RX8 yX8_changed wsX8_changed) := goodIn_app (goodIn_of _ (by decide +kernel)) ggX8_off_X8_changed
theorem dX8_off_0 : decode cX8_off 0 = .ok (.aload_n 0, 1) := by decide +kernel
theorem dX8_off_1 : decode cX8_off 1 = .ok (.getfield 14, 3) := by decide +kernel
theorem dX8_off_4 : decode cX8_off 4 = .ok (.iload_n 1, 1) := by decide +kernel
theorem dX8_off_5 : decode cX8_off 5 = .ok (.invokevirtual 117, 3) := by decide +kernel
theorem dX8_off_8 : decode cX8_off 8 = .ok (.ifCond .eq 10, 3) := by decide +kernel
theorem dX8_off_11 : decode cX8_off 11 = .ok (.iload_n 2, 1) := by decide +kernel
theorem dX8_off_12 : decode cX8_off 12 = .ok (.invokestatic 90, 3) := by decide +kernel
theorem dX8_off_15 : decode cX8_off 15 = .ok (.ifCond .ne 5, 3) := by decide +kernel
theorem dX8_off_18 : decode cX8_off 18 = .ok (.iconst (-1), 1) := by decide +kernel
theorem dX8_off_19 : decode cX8_off 19 = .ok (.ireturn, 1) := by decide +kernel
theorem dX8_off_20 : decode cX8_off 20 = .ok (.aload_n 0, 1) := by decide +kernel
theorem dX8_off_21 : decode cX8_off 21 = .ok (.getfield 14, 3) := by decide +kernel
theorem dX8_off_24 : decode cX8_off 24 = .ok (.getfield 120, 3) := by decide +kernel
theorem dX8_off_27 : decode cX8_off 27 = .ok (.iload_n 1, 1) := by decide +kernel
theorem dX8_off_28 : decode cX8_off 28 = .ok (.invokestatic 96, 3) := by decide +kernel
theorem dX8_off_31 : decode cX8_off 31 = .ok (.istore_n 3, 1) := by decide +kernel
theorem dX8_off_32 : decode cX8_off 32 = .ok (.aload_n 0, 1) := by decide +kernel
theorem dX8_off_33 : decode cX8_off 33 = .ok (.getfield 14, 3) := by decide +kernel
theorem dX8_off_36 : decode cX8_off 36 = .ok (.aload_n 0, 1) := by decide +kernel
theorem dX8_off_37 : decode cX8_off 37 = .ok (.getfield 14, 3) := by decide +kernel
theorem dX8_off_40 : decode cX8_off 40 = .ok (.getfield 120, 3) := by decide +kernel
theorem dX8_off_43 : decode cX8_off 43 = .ok (.iload_n 1, 1) := by decide +kernel
theorem dX8_off_44 : decode cX8_off 44 = .ok (.iload_n 2, 1) := by decide +kernel
theorem dX8_off_45 : decode cX8_off 45 = .ok (.invokestatic 100, 3) := by decide +kernel
theorem dX8_off_48 : decode cX8_off 48 = .ok (.putfield 120, 3) := by decide +kernel
theorem dX8_off_51 : decode cX8_off 51 = .ok (.aload_n 0, 1) := by decide +kernel
theorem dX8_off_52 : decode cX8_off 52 = .ok (.invokevirtual 104, 3) := by decide +kernel
theorem dX8_off_55 : decode cX8_off 55 = .ok (.iload_n 3, 1) := by decide +kernel
theorem dX8_off_56 : decode cX8_off 56 = .ok (.ireturn, 1) := by decide +kernel
set_option maxRecDepth 20000 in
theorem ggX8_over_X0_hasRule : GoodIn wsX8_over wsX0_hasRule := goodIn_r _ [7, 8, 68, 69, 70, 71, 72, 73, 74, 75, 76] (by decide +kernel) (by decide +kernel)
set_option maxRecDepth 20000 in
theorem gX8_over_X0_hasRule : GoodIn wsX8_over (wsV RX8 117 RX0 yX0_hasRule wsX0_hasRule) := goodIn_app (goodIn_of _ (by decide +kernel)) ggX8_over_X0_hasRule
set_option maxRecDepth 20000 in
theorem ggX8_over_X8_isYesOrNo : GoodIn wsX8_over wsX8_isYesOrNo := goodIn_r _ [12] (by decide +kernel) (by decide +kernel)
set_option maxRecDepth 20000 in
theorem gX8_over_X8_isYesOrNo : GoodIn wsX8_over (va_wsS RX8 90 yX8_isYesOrNo wsX8_isYesOrNo) := goodIn_app (goodIn_of _ (by decide +kernel)) ggX8_over_X8_isYesOrNo
set_option maxRecDepth 20000 in
theorem ggX8_over_X8_has : GoodIn wsX8_over wsX8_has := goodIn_r _ [15] (by decide +kernel) (by decide +kernel)
set_option maxRecDepth 20000 in
theorem gX8_over_X8_has : GoodIn wsX8_over (va_wsS RX8 130 yX8_has wsX8_has) := goodIn_app (goodIn_of _ (by decide +kernel)) ggX8_over_X8_has
set_option maxRecDepth 20000 in
theorem ggX8_over_X8_bit : GoodIn wsX8_over wsX8_bit := goodIn_r _ [18] (by decide +kernel) (by decide +kernel)
set_option maxRecDepth 20000 in
theorem gX8_over_X8_bit : GoodIn wsX8_over (va_wsS RX8 96 yX8_bit wsX8_bit) := goodIn_app (goodIn_of _ (by decide +kernel)) ggX8_over_X8_bit
set_option maxRecDepth 20000 in
theorem ggX8_over_X8_withBit : GoodIn wsX8_over wsX8_withBit := goodIn_r _ [21] (by decide +kernel) (by decide +kernel)
set_option maxRecDepth 20000 in
theorem gX8_over_X8_withBit : GoodIn wsX8_over (va_wsS RX8 100 yX8_withBit wsX8_withBit) := goodIn_app (goodIn_of _ (by decide +kernel)) ggX8_over_X8_withBit
set_option maxRecDepth 20000 in
theorem ggX8_over_X8_changed : GoodIn wsX8_over wsX8_changed := goodIn_r _ [25, 26, 1, 27, 28, 29, 30, 31, 32, 33, 34, 35, 36, 37, 38, 39, 40, 41, 42, 6, 43, 44, 45, 46, 47, 48, 49, 50, 51, 52, 53, 54, 8, 55, 56, 57, 58, 59, 60, 61, 62, 63, 64, 65, 66, 67, 77, 78, 79, 68, 69, 70, 71, 72, 73, 74, 75, 76] (by decide +kernel) (by decide +kernel)
set_option maxRecDepth 20000 in
theorem gX8_over_X8_changed : GoodIn wsX8_over (wsV RX8 104 RX8 yX8_changed wsX8_changed) := goodIn_app (goodIn_of _ (by decide +kernel)) ggX8_over_X8_changed
theorem dX8_over_0 : decode cX8_over 0 = .ok (.aload_n 0, 1) := by decide +kernel
theorem dX8_over_1 : decode cX8_over 1 = .ok (.getfield 14, 3) := by decide +kernel
theorem dX8_over_4 : decode cX8_over 4 = .ok (.iload_n 1, 1) := by decide +kernel
theorem dX8_over_5 : decode cX8_over 5 = .ok (.invokevirtual 117, 3) := by decide +kernel
theorem dX8_over_8 : decode cX8_over 8 = .ok (.ifCond .eq 26, 3) := by decide +kernel
theorem dX8_over_11 : decode cX8_over 11 = .ok (.aload_n 0, 1) := by decide +kernel
theorem dX8_over_12 : decode cX8_over 12 = .ok (.getfield 14, 3) := by decide +kernel
theorem dX8_over_15 : decode cX8_over 15 = .ok (.iload_n 2, 1) := by decide +kernel
theorem dX8_over_16 : decode cX8_over 16 = .ok (.invokevirtual 117, 3) := by decide +kernel
theorem dX8_over_19 : decode cX8_over 19 = .ok (.ifCond .eq 15, 3) := by decide +kernel
theorem dX8_over_22 : decode cX8_over 22 = .ok (.iload_n 1, 1) := by decide +kernel
theorem dX8_over_23 : decode cX8_over 23 = .ok (.iload_n 2, 1) := by decide +kernel
theorem dX8_over_24 : decode cX8_over 24 = .ok (.if_icmp .eq 10, 3) := by decide +kernel
theorem dX8_over_27 : decode cX8_over 27 = .ok (.iload_n 3, 1) := by decide +kernel
theorem dX8_over_28 : decode cX8_over 28 = .ok (.invokestatic 90, 3) := by decide +kernel
theorem dX8_over_31 : decode cX8_over 31 = .ok (.ifCond .ne 5, 3) := by decide +kernel
theorem dX8_over_34 : decode cX8_over 34 = .ok (.iconst (-1), 1) := by decide +kernel
theorem dX8_over_35 : decode cX8_over 35 = .ok (.ireturn, 1) := by decide +kernel
theorem dX8_over_36 : decode cX8_over 36 = .ok (.iload_n 3, 1) := by decide +kernel
theorem dX8_over_37 : decode cX8_over 37 = .ok (.iconst 1, 1) := by decide +kernel
theorem dX8_over_38 : decode cX8_over 38 = .ok (.if_icmp .ne 22, 3) := by decide +kernel
theorem dX8_over_41 : decode cX8_over 41 = .ok (.aload_n 0, 1) := by decide +kernel
theorem dX8_over_42 : decode cX8_over 42 = .ok (.getfield 14, 3) := by decide +kernel
theorem dX8_over_45 : decode cX8_over 45 = .ok (.getfield 127, 3) := by decide +kernel
theorem dX8_over_48 : decode cX8_over 48 = .ok (.iload_n 2, 1) := by decide +kernel
theorem dX8_over_49 : decode cX8_over 49 = .ok (.iaload, 1) := by decide +kernel
theorem dX8_over_50 : decode cX8_over 50 = .ok (.iload_n 1, 1) := by decide +kernel
theorem dX8_over_51 : decode cX8_over 51 = .ok (.invokestatic 130, 3) := by decide +kernel
theorem dX8_over_54 : decode cX8_over 54 = .ok (.ifCond .eq 6, 3) := by decide +kernel
theorem dX8_over_57 : decode cX8_over 57 = .ok (.bipush (-5), 2) := by decide +kernel
theorem dX8_over_59 : decode cX8_over 59 = .ok (.ireturn, 1) := by decide +kernel
theorem dX8_over_60 : decode cX8_over 60 = .ok (.aload_n 0, 1) := by decide +kernel
theorem dX8_over_61 : decode cX8_over 61 = .ok (.getfield 14, 3) := by decide +kernel
theorem dX8_over_64 : decode cX8_over 64 = .ok (.getfield 127, 3) := by decide +kernel
theorem dX8_over_67 : decode cX8_over 67 = .ok (.iload_n 1, 1) := by decide +kernel
theorem dX8_over_68 : decode cX8_over 68 = .ok (.iaload, 1) := by decide +kernel
theorem dX8_over_69 : decode cX8_over 69 = .ok (.iload_n 2, 1) := by decide +kernel
theorem dX8_over_70 : decode cX8_over 70 = .ok (.invokestatic 96, 3) := by decide +kernel
theorem dX8_over_73 : decode cX8_over 73 = .ok (.istore 4, 2) := by decide +kernel
theorem dX8_over_75 : decode cX8_over 75 = .ok (.aload_n 0, 1) := by decide +kernel
theorem dX8_over_76 : decode cX8_over 76 = .ok (.getfield 14, 3) := by decide +kernel
theorem dX8_over_79 : decode cX8_over 79 = .ok (.getfield 127, 3) := by decide +kernel
theorem dX8_over_82 : decode cX8_over 82 = .ok (.iload_n 1, 1) := by decide +kernel
theorem dX8_over_83 : decode cX8_over 83 = .ok (.aload_n 0, 1) := by decide +kernel
theorem dX8_over_84 : decode cX8_over 84 = .ok (.getfield 14, 3) := by decide +kernel
theorem dX8_over_87 : decode cX8_over 87 = .ok (.getfield 127, 3) := by decide +kernel
theorem dX8_over_90 : decode cX8_over 90 = .ok (.iload_n 1, 1) := by decide +kernel
theorem dX8_over_91 : decode cX8_over 91 = .ok (.iaload, 1) := by decide +kernel
theorem dX8_over_92 : decode cX8_over 92 = .ok (.iload_n 2, 1) := by decide +kernel
theorem dX8_over_93 : decode cX8_over 93 = .ok (.iload_n 3, 1) := by decide +kernel
theorem dX8_over_94 : decode cX8_over 94 = .ok (.invokestatic 100, 3) := by decide +kernel
theorem dX8_over_97 : decode cX8_over 97 = .ok (.iastore, 1) := by decide +kernel
theorem dX8_over_98 : decode cX8_over 98 = .ok (.aload_n 0, 1) := by decide +kernel
theorem dX8_over_99 : decode cX8_over 99 = .ok (.invokevirtual 104, 3) := by decide +kernel
theorem dX8_over_102 : decode cX8_over 102 = .ok (.iload 4, 2) := by decide +kernel
theorem dX8_over_104 : decode cX8_over 104 = .ok (.ireturn, 1) := by decide +kernel
set_option maxRecDepth 20000 in
theorem ggX8_ruleOf_X0_hasRule : GoodIn wsX8_ruleOf wsX0_hasRule := goodIn_r _ [13, 14, 43, 44, 45, 46, 47, 48, 49, 50, 51] (by decide +kernel) (by decide +kernel)
set_option maxRecDepth 20000 in
theorem gX8_ruleOf_X0_hasRule : GoodIn wsX8_ruleOf (wsV RX8 117 RX0 yX0_hasRule wsX0_hasRule) := goodIn_app (goodIn_of _ (by decide +kernel)) ggX8_ruleOf_X0_hasRule
set_option maxRecDepth 20000 in
theorem ggX8_ruleOf_X8_bit : GoodIn wsX8_ruleOf wsX8_bit := goodIn_r _ [18] (by decide +kernel) (by decide +kernel)
set_option maxRecDepth 20000 in
theorem gX8_ruleOf_X8_bit : GoodIn wsX8_ruleOf (va_wsS RX8 96 yX8_bit wsX8_bit) := goodIn_app (goodIn_of _ (by decide +kernel)) ggX8_ruleOf_X8_bit
set_option maxRecDepth 20000 in
theorem ggX8_ruleOf_X0_rulesBelow : GoodIn wsX8_ruleOf wsX0_rulesBelow := goodIn_r _ [22, 23, 14, 24, 25, 26, 27, 12, 28, 29, 17, 30, 43, 44, 45, 46, 47, 48, 49, 50, 51] (by decide +kernel) (by decide +kernel)
set_option maxRecDepth 20000 in
theorem gX8_ruleOf_X0_rulesBelow : GoodIn wsX8_ruleOf (wsV RX8 172 RX0 yX0_rulesBelow wsX0_rulesBelow) := goodIn_app (goodIn_of _ (by decide +kernel)) ggX8_ruleOf_X0_rulesBelow
theorem dX8_ruleOf_0 : decode cX8_ruleOf 0 = .ok (.aload_n 0, 1) := by decide +kernel
theorem dX8_ruleOf_1 : decode cX8_ruleOf 1 = .ok (.getfield 14, 3) := by decide +kernel
theorem dX8_ruleOf_4 : decode cX8_ruleOf 4 = .ok (.iload_n 1, 1) := by decide +kernel
theorem dX8_ruleOf_5 : decode cX8_ruleOf 5 = .ok (.invokevirtual 117, 3) := by decide +kernel
theorem dX8_ruleOf_8 : decode cX8_ruleOf 8 = .ok (.ifCond .ne 5, 3) := by decide +kernel
theorem dX8_ruleOf_11 : decode cX8_ruleOf 11 = .ok (.iconst (-1), 1) := by decide +kernel
theorem dX8_ruleOf_12 : decode cX8_ruleOf 12 = .ok (.ireturn, 1) := by decide +kernel
theorem dX8_ruleOf_13 : decode cX8_ruleOf 13 = .ok (.iload_n 2, 1) := by decide +kernel
theorem dX8_ruleOf_14 : decode cX8_ruleOf 14 = .ok (.tableswitch 127 0 7 #[46, 56, 66, 76, 86, 96, 108, 118], 46) := by decide +kernel
theorem dX8_ruleOf_60 : decode cX8_ruleOf 60 = .ok (.aload_n 0, 1) := by decide +kernel
theorem dX8_ruleOf_61 : decode cX8_ruleOf 61 = .ok (.getfield 14, 3) := by decide +kernel
theorem dX8_ruleOf_64 : decode cX8_ruleOf 64 = .ok (.getfield 160, 3) := by decide +kernel
theorem dX8_ruleOf_67 : decode cX8_ruleOf 67 = .ok (.iload_n 1, 1) := by decide +kernel
theorem dX8_ruleOf_68 : decode cX8_ruleOf 68 = .ok (.iaload, 1) := by decide +kernel
theorem dX8_ruleOf_69 : decode cX8_ruleOf 69 = .ok (.ireturn, 1) := by decide +kernel
theorem dX8_ruleOf_70 : decode cX8_ruleOf 70 = .ok (.aload_n 0, 1) := by decide +kernel
theorem dX8_ruleOf_71 : decode cX8_ruleOf 71 = .ok (.getfield 14, 3) := by decide +kernel
theorem dX8_ruleOf_74 : decode cX8_ruleOf 74 = .ok (.getfield 163, 3) := by decide +kernel
theorem dX8_ruleOf_77 : decode cX8_ruleOf 77 = .ok (.iload_n 1, 1) := by decide +kernel
theorem dX8_ruleOf_78 : decode cX8_ruleOf 78 = .ok (.iaload, 1) := by decide +kernel
theorem dX8_ruleOf_79 : decode cX8_ruleOf 79 = .ok (.ireturn, 1) := by decide +kernel
theorem dX8_ruleOf_80 : decode cX8_ruleOf 80 = .ok (.aload_n 0, 1) := by decide +kernel
theorem dX8_ruleOf_81 : decode cX8_ruleOf 81 = .ok (.getfield 14, 3) := by decide +kernel
theorem dX8_ruleOf_84 : decode cX8_ruleOf 84 = .ok (.getfield 166, 3) := by decide +kernel
theorem dX8_ruleOf_87 : decode cX8_ruleOf 87 = .ok (.iload_n 1, 1) := by decide +kernel
theorem dX8_ruleOf_88 : decode cX8_ruleOf 88 = .ok (.iaload, 1) := by decide +kernel
theorem dX8_ruleOf_89 : decode cX8_ruleOf 89 = .ok (.ireturn, 1) := by decide +kernel
theorem dX8_ruleOf_90 : decode cX8_ruleOf 90 = .ok (.aload_n 0, 1) := by decide +kernel
theorem dX8_ruleOf_91 : decode cX8_ruleOf 91 = .ok (.getfield 14, 3) := by decide +kernel
theorem dX8_ruleOf_94 : decode cX8_ruleOf 94 = .ok (.getfield 169, 3) := by decide +kernel
theorem dX8_ruleOf_97 : decode cX8_ruleOf 97 = .ok (.iload_n 1, 1) := by decide +kernel
theorem dX8_ruleOf_98 : decode cX8_ruleOf 98 = .ok (.iaload, 1) := by decide +kernel
theorem dX8_ruleOf_99 : decode cX8_ruleOf 99 = .ok (.ireturn, 1) := by decide +kernel
theorem dX8_ruleOf_100 : decode cX8_ruleOf 100 = .ok (.aload_n 0, 1) := by decide +kernel
theorem dX8_ruleOf_101 : decode cX8_ruleOf 101 = .ok (.getfield 14, 3) := by decide +kernel
theorem dX8_ruleOf_104 : decode cX8_ruleOf 104 = .ok (.getfield 123, 3) := by decide +kernel
theorem dX8_ruleOf_107 : decode cX8_ruleOf 107 = .ok (.iload_n 1, 1) := by decide +kernel
theorem dX8_ruleOf_108 : decode cX8_ruleOf 108 = .ok (.iaload, 1) := by decide +kernel
theorem dX8_ruleOf_109 : decode cX8_ruleOf 109 = .ok (.ireturn, 1) := by decide +kernel
theorem dX8_ruleOf_110 : decode cX8_ruleOf 110 = .ok (.aload_n 0, 1) := by decide +kernel
theorem dX8_ruleOf_111 : decode cX8_ruleOf 111 = .ok (.getfield 14, 3) := by decide +kernel
theorem dX8_ruleOf_114 : decode cX8_ruleOf 114 = .ok (.getfield 120, 3) := by decide +kernel
theorem dX8_ruleOf_117 : decode cX8_ruleOf 117 = .ok (.iload_n 1, 1) := by decide +kernel
theorem dX8_ruleOf_118 : decode cX8_ruleOf 118 = .ok (.invokestatic 96, 3) := by decide +kernel
theorem dX8_ruleOf_121 : decode cX8_ruleOf 121 = .ok (.ireturn, 1) := by decide +kernel
theorem dX8_ruleOf_122 : decode cX8_ruleOf 122 = .ok (.aload_n 0, 1) := by decide +kernel
theorem dX8_ruleOf_123 : decode cX8_ruleOf 123 = .ok (.getfield 14, 3) := by decide +kernel
theorem dX8_ruleOf_126 : decode cX8_ruleOf 126 = .ok (.getfield 127, 3) := by decide +kernel
theorem dX8_ruleOf_129 : decode cX8_ruleOf 129 = .ok (.iload_n 1, 1) := by decide +kernel
theorem dX8_ruleOf_130 : decode cX8_ruleOf 130 = .ok (.iaload, 1) := by decide +kernel
theorem dX8_ruleOf_131 : decode cX8_ruleOf 131 = .ok (.ireturn, 1) := by decide +kernel
theorem dX8_ruleOf_132 : decode cX8_ruleOf 132 = .ok (.aload_n 0, 1) := by decide +kernel
theorem dX8_ruleOf_133 : decode cX8_ruleOf 133 = .ok (.getfield 14, 3) := by decide +kernel
theorem dX8_ruleOf_136 : decode cX8_ruleOf 136 = .ok (.iload_n 1, 1) := by decide +kernel
theorem dX8_ruleOf_137 : decode cX8_ruleOf 137 = .ok (.invokevirtual 172, 3) := by decide +kernel
theorem dX8_ruleOf_140 : decode cX8_ruleOf 140 = .ok (.ireturn, 1) := by decide +kernel
theorem dX8_ruleOf_141 : decode cX8_ruleOf 141 = .ok (.iconst (-1), 1) := by decide +kernel
theorem dX8_ruleOf_142 : decode cX8_ruleOf 142 = .ok (.ireturn, 1) := by decide +kernel
set_option maxRecDepth 20000 in
theorem ggX8_rulesFor_X8_isLiteral : GoodIn wsX8_rulesFor wsX8_isLiteral := goodIn_r _ [6] (by decide +kernel) (by decide +kernel)
set_option maxRecDepth 20000 in
theorem gX8_rulesFor_X8_isLiteral : GoodIn wsX8_rulesFor (va_wsS RX8 86 yX8_isLiteral wsX8_isLiteral) := goodIn_app (goodIn_of _ (by decide +kernel)) ggX8_rulesFor_X8_isLiteral
set_option maxRecDepth 20000 in
theorem ggX8_rulesFor_X8_settled : GoodIn wsX8_rulesFor wsX8_settled := goodIn_r _ [10, 11, 12, 13, 14, 15, 16, 17, 18, 19, 20, 21, 22, 23, 24, 25, 26, 27, 28, 29, 30, 31, 32, 33, 34, 35, 36, 37, 38, 39, 40, 41, 42, 43, 44, 45, 46, 47, 48, 49, 50, 51, 52, 53, 54, 55, 5, 56, 57, 58, 59, 60, 61, 62, 63, 64, 65, 66, 67, 68, 69, 70, 71, 72, 73, 74, 75, 76, 77, 78, 79, 80, 81, 82, 83, 84, 85, 86, 87, 88, 89, 90, 91, 92, 93, 94, 95, 96, 97, 98, 99, 100, 101, 102, 103, 104, 105, 106, 107, 108, 109, 110, 111, 112, 113, 114, 115, 116, 117, 118, 119, 120, 121, 122, 123, 139, 140, 141, 142, 143, 144, 145, 146, 147, 148, 149, 150, 124, 125, 126, 127, 128, 129, 130, 131, 132, 133, 134, 135, 136, 137, 138, 151, 152, 153, 154, 155, 156, 157, 158, 159] (by decide +kernel) (by decide +kernel)
set_option maxRecDepth 20000 in
theorem gX8_rulesFor_X8_settled : GoodIn wsX8_rulesFor (wsV RX8 176 RX8 yX8_settled wsX8_settled) := goodIn_app (goodIn_of _ (by decide +kernel)) ggX8_rulesFor_X8_settled
theorem dX8_rulesFor_0 : decode cX8_rulesFor 0 = .ok (.iload_n 1, 1) := by decide +kernel
theorem dX8_rulesFor_1 : decode cX8_rulesFor 1 = .ok (.invokestatic 86, 3) := by decide +kernel
theorem dX8_rulesFor_4 : decode cX8_rulesFor 4 = .ok (.ifCond .ne 5, 3) := by decide +kernel
theorem dX8_rulesFor_7 : decode cX8_rulesFor 7 = .ok (.iconst (-1), 1) := by decide +kernel
theorem dX8_rulesFor_8 : decode cX8_rulesFor 8 = .ok (.ireturn, 1) := by decide +kernel
theorem dX8_rulesFor_9 : decode cX8_rulesFor 9 = .ok (.aload_n 0, 1) := by decide +kernel
theorem dX8_rulesFor_10 : decode cX8_rulesFor 10 = .ok (.invokevirtual 176, 3) := by decide +kernel
theorem dX8_rulesFor_13 : decode cX8_rulesFor 13 = .ok (.getfield 180, 3) := by decide +kernel
theorem dX8_rulesFor_16 : decode cX8_rulesFor 16 = .ok (.getfield 184, 3) := by decide +kernel
theorem dX8_rulesFor_19 : decode cX8_rulesFor 19 = .ok (.iload_n 1, 1) := by decide +kernel
theorem dX8_rulesFor_20 : decode cX8_rulesFor 20 = .ok (.iaload, 1) := by decide +kernel
theorem dX8_rulesFor_21 : decode cX8_rulesFor 21 = .ok (.ireturn, 1) := by decide +kernel
set_option maxRecDepth 20000 in
theorem ggX8_count_X8_settled : GoodIn wsX8_count wsX8_settled := goodIn_r _ [17, 18, 19, 1, 20, 21, 22, 23, 24, 25, 26, 27, 28, 29, 30, 31, 32, 33, 34, 35, 36, 37, 38, 39, 40, 41, 42, 43, 44, 45, 46, 47, 48, 49, 50, 51, 52, 53, 54, 55, 56, 57, 58, 59, 60, 61, 16, 62, 63, 64, 65, 66, 67, 68, 69, 70, 71, 72, 73, 74, 75, 76, 77, 78, 79, 80, 81, 82, 83, 84, 85, 86, 87, 88, 89, 90, 91, 92, 93, 94, 95, 96, 97, 98, 99, 100, 101, 102, 103, 104, 105, 106, 107, 108, 109, 110, 111, 112, 113, 114, 115, 116, 117, 118, 119, 120, 121, 122, 123, 124, 125, 126, 127, 128, 129, 164, 165, 166, 167, 168, 169, 170, 171, 172, 173, 174, 175, 185, 186, 187, 203, 204, 205, 206, 207, 208, 209, 210, 211, 212, 213, 214, 176, 177, 178, 179, 180, 181, 182, 183, 184] (by decide +kernel) (by decide +kernel)
set_option maxRecDepth 20000 in
theorem gX8_count_X8_settled : GoodIn wsX8_count (wsV RX8 176 RX8 yX8_settled wsX8_settled) := goodIn_app (goodIn_of _ (by decide +kernel)) ggX8_count_X8_settled
set_option maxRecDepth 20000 in
theorem ggX8_count_X6_circles : GoodIn wsX8_count wsX6_circles := goodIn_r _ [133, 41, 134, 135, 136, 137, 138, 61, 16, 62, 203, 204, 205, 206, 207, 208, 209, 210, 211, 212, 213, 214] (by decide +kernel) (by decide +kernel)
set_option maxRecDepth 20000 in
theorem gX8_count_X6_circles : GoodIn wsX8_count (wsV RX8 189 RX6 yX6_circles wsX6_circles) := goodIn_app (goodIn_of _ (by decide +kernel)) ggX8_count_X6_circles
set_option maxRecDepth 20000 in
theorem ggX8_count_X6_missing : GoodIn wsX8_count wsX6_missing := goodIn_r _ [142, 143, 37, 203, 204, 205, 206, 207, 208, 209, 210, 211, 212, 213, 214] (by decide +kernel) (by decide +kernel)
set_option maxRecDepth 20000 in
theorem gX8_count_X6_missing : GoodIn wsX8_count (wsV RX8 193 RX6 yX6_missing wsX6_missing) := goodIn_app (goodIn_of _ (by decide +kernel)) ggX8_count_X6_missing
set_option maxRecDepth 20000 in
theorem ggX8_count_X6_likelyBothWays : GoodIn wsX8_count wsX6_likelyBothWays := goodIn_r _ [147, 37, 203, 204, 205, 206, 207, 208, 209, 210, 211, 212, 213, 214] (by decide +kernel) (by decide +kernel)
set_option maxRecDepth 20000 in
theorem gX8_count_X6_likelyBothWays : GoodIn wsX8_count (wsV RX8 196 RX6 yX6_likelyBothWays wsX6_likelyBothWays) := goodIn_app (goodIn_of _ (by decide +kernel)) ggX8_count_X6_likelyBothWays
set_option maxRecDepth 20000 in
theorem ggX8_count_X0_pairs : GoodIn wsX8_count wsX0_pairs := goodIn_r _ [151, 55, 54, 152, 153, 154, 155, 156, 157, 158, 176, 177, 178, 179, 180, 181, 182, 183, 184] (by decide +kernel) (by decide +kernel)
set_option maxRecDepth 20000 in
theorem gX8_count_X0_pairs : GoodIn wsX8_count (wsV RX8 199 RX0 yX0_pairs wsX0_pairs) := goodIn_app (goodIn_of _ (by decide +kernel)) ggX8_count_X0_pairs
set_option maxRecDepth 20000 in
theorem ggX8_count_X4_howMany : GoodIn wsX8_count wsX4_howMany := goodIn_r _ [162, 27, 129, 163, 153, 154, 155, 156, 157, 158, 185, 186, 187, 203, 204, 205, 206, 207, 208, 209, 210, 211, 212, 213, 214] (by decide +kernel) (by decide +kernel)
set_option maxRecDepth 20000 in
theorem gX8_count_X4_howMany : GoodIn wsX8_count (wsV RX8 202 RX4 yX4_howMany wsX4_howMany) := goodIn_app (goodIn_of _ (by decide +kernel)) ggX8_count_X4_howMany
theorem dX8_count_0 : decode cX8_count 0 = .ok (.iload_n 1, 1) := by decide +kernel
theorem dX8_count_1 : decode cX8_count 1 = .ok (.tableswitch 168 0 11 #[63, 71, 82, 93, 104, 112, 120, 128, 136, 144, 152, 160], 63) := by decide +kernel
theorem dX8_count_64 : decode cX8_count 64 = .ok (.aload_n 0, 1) := by decide +kernel
theorem dX8_count_65 : decode cX8_count 65 = .ok (.getfield 14, 3) := by decide +kernel
theorem dX8_count_68 : decode cX8_count 68 = .ok (.getfield 93, 3) := by decide +kernel
theorem dX8_count_71 : decode cX8_count 71 = .ok (.ireturn, 1) := by decide +kernel
theorem dX8_count_72 : decode cX8_count 72 = .ok (.aload_n 0, 1) := by decide +kernel
theorem dX8_count_73 : decode cX8_count 73 = .ok (.invokevirtual 176, 3) := by decide +kernel
theorem dX8_count_76 : decode cX8_count 76 = .ok (.getfield 180, 3) := by decide +kernel
theorem dX8_count_79 : decode cX8_count 79 = .ok (.invokevirtual 189, 3) := by decide +kernel
theorem dX8_count_82 : decode cX8_count 82 = .ok (.ireturn, 1) := by decide +kernel
theorem dX8_count_83 : decode cX8_count 83 = .ok (.aload_n 0, 1) := by decide +kernel
theorem dX8_count_84 : decode cX8_count 84 = .ok (.invokevirtual 176, 3) := by decide +kernel
theorem dX8_count_87 : decode cX8_count 87 = .ok (.getfield 180, 3) := by decide +kernel
theorem dX8_count_90 : decode cX8_count 90 = .ok (.invokevirtual 193, 3) := by decide +kernel
theorem dX8_count_93 : decode cX8_count 93 = .ok (.ireturn, 1) := by decide +kernel
theorem dX8_count_94 : decode cX8_count 94 = .ok (.aload_n 0, 1) := by decide +kernel
theorem dX8_count_95 : decode cX8_count 95 = .ok (.invokevirtual 176, 3) := by decide +kernel
theorem dX8_count_98 : decode cX8_count 98 = .ok (.getfield 180, 3) := by decide +kernel
theorem dX8_count_101 : decode cX8_count 101 = .ok (.invokevirtual 196, 3) := by decide +kernel
theorem dX8_count_104 : decode cX8_count 104 = .ok (.ireturn, 1) := by decide +kernel
theorem dX8_count_105 : decode cX8_count 105 = .ok (.aload_n 0, 1) := by decide +kernel
theorem dX8_count_106 : decode cX8_count 106 = .ok (.getfield 14, 3) := by decide +kernel
theorem dX8_count_109 : decode cX8_count 109 = .ok (.getfield 76, 3) := by decide +kernel
theorem dX8_count_112 : decode cX8_count 112 = .ok (.ireturn, 1) := by decide +kernel
theorem dX8_count_113 : decode cX8_count 113 = .ok (.aload_n 0, 1) := by decide +kernel
theorem dX8_count_114 : decode cX8_count 114 = .ok (.getfield 14, 3) := by decide +kernel
theorem dX8_count_117 : decode cX8_count 117 = .ok (.invokevirtual 199, 3) := by decide +kernel
theorem dX8_count_120 : decode cX8_count 120 = .ok (.ireturn, 1) := by decide +kernel
theorem dX8_count_121 : decode cX8_count 121 = .ok (.aload_n 0, 1) := by decide +kernel
theorem dX8_count_122 : decode cX8_count 122 = .ok (.invokevirtual 176, 3) := by decide +kernel
theorem dX8_count_125 : decode cX8_count 125 = .ok (.invokevirtual 202, 3) := by decide +kernel
theorem dX8_count_128 : decode cX8_count 128 = .ok (.ireturn, 1) := by decide +kernel
theorem dX8_count_129 : decode cX8_count 129 = .ok (.aload_n 0, 1) := by decide +kernel
theorem dX8_count_130 : decode cX8_count 130 = .ok (.invokevirtual 176, 3) := by decide +kernel
theorem dX8_count_133 : decode cX8_count 133 = .ok (.getfield 205, 3) := by decide +kernel
theorem dX8_count_136 : decode cX8_count 136 = .ok (.ireturn, 1) := by decide +kernel
theorem dX8_count_137 : decode cX8_count 137 = .ok (.aload_n 0, 1) := by decide +kernel
theorem dX8_count_138 : decode cX8_count 138 = .ok (.getfield 41, 3) := by decide +kernel
theorem dX8_count_141 : decode cX8_count 141 = .ok (.getfield 208, 3) := by decide +kernel
theorem dX8_count_144 : decode cX8_count 144 = .ok (.ireturn, 1) := by decide +kernel
theorem dX8_count_145 : decode cX8_count 145 = .ok (.aload_n 0, 1) := by decide +kernel
theorem dX8_count_146 : decode cX8_count 146 = .ok (.getfield 41, 3) := by decide +kernel
theorem dX8_count_149 : decode cX8_count 149 = .ok (.getfield 211, 3) := by decide +kernel
theorem dX8_count_152 : decode cX8_count 152 = .ok (.ireturn, 1) := by decide +kernel
theorem dX8_count_153 : decode cX8_count 153 = .ok (.aload_n 0, 1) := by decide +kernel
theorem dX8_count_154 : decode cX8_count 154 = .ok (.getfield 51, 3) := by decide +kernel
theorem dX8_count_157 : decode cX8_count 157 = .ok (.getfield 136, 3) := by decide +kernel
theorem dX8_count_160 : decode cX8_count 160 = .ok (.ireturn, 1) := by decide +kernel
theorem dX8_count_161 : decode cX8_count 161 = .ok (.aload_n 0, 1) := by decide +kernel
theorem dX8_count_162 : decode cX8_count 162 = .ok (.getfield 58, 3) := by decide +kernel
theorem dX8_count_165 : decode cX8_count 165 = .ok (.getfield 214, 3) := by decide +kernel
theorem dX8_count_168 : decode cX8_count 168 = .ok (.ireturn, 1) := by decide +kernel
theorem dX8_count_169 : decode cX8_count 169 = .ok (.iconst (-1), 1) := by decide +kernel
theorem dX8_count_170 : decode cX8_count 170 = .ok (.ireturn, 1) := by decide +kernel
set_option maxRecDepth 20000 in
theorem ggX8_tag_X8_isLiteral : GoodIn wsX8_tag wsX8_isLiteral := goodIn_r _ [4] (by decide +kernel) (by decide +kernel)
set_option maxRecDepth 20000 in
theorem gX8_tag_X8_isLiteral : GoodIn wsX8_tag (va_wsS RX8 86 yX8_isLiteral wsX8_isLiteral) := goodIn_app (goodIn_of _ (by decide +kernel)) ggX8_tag_X8_isLiteral
set_option maxRecDepth 20000 in
theorem ggX8_tag_X8_isTag : GoodIn wsX8_tag wsX8_isTag := goodIn_r _ [7] (by decide +kernel) (by decide +kernel)
set_option maxRecDepth 20000 in
theorem gX8_tag_X8_isTag : GoodIn wsX8_tag (va_wsS RX8 215 yX8_isTag wsX8_isTag) := goodIn_app (goodIn_of _ (by decide +kernel)) ggX8_tag_X8_isTag
set_option maxRecDepth 20000 in
theorem ggX8_tag_X8_settled : GoodIn wsX8_tag wsX8_settled := goodIn_r _ [11, 12, 13, 14, 15, 16, 17, 18, 19, 20, 21, 22, 23, 24, 25, 26, 27, 28, 29, 30, 31, 32, 33, 34, 35, 36, 37, 38, 39, 40, 41, 42, 43, 44, 45, 46, 47, 48, 49, 50, 51, 52, 53, 54, 55, 56, 3, 57, 58, 59, 60, 61, 62, 63, 64, 65, 66, 67, 68, 69, 70, 71, 72, 73, 74, 75, 76, 77, 78, 79, 80, 81, 82, 83, 84, 85, 86, 87, 88, 89, 90, 91, 92, 93, 94, 95, 96, 97, 98, 99, 100, 101, 102, 103, 104, 105, 106, 107, 108, 109, 110, 111, 112, 113, 114, 115, 116, 117, 118, 119, 120, 121, 122, 123, 124, 129, 130, 131, 132, 133, 134, 135, 136, 137, 138, 139, 140, 141, 142, 143, 144, 145, 146, 147, 148, 149, 150, 151, 152, 153, 154, 155, 156, 157, 158, 159, 160, 161, 162, 163, 164] (by decide +kernel) (by decide +kernel)
set_option maxRecDepth 20000 in
theorem gX8_tag_X8_settled : GoodIn wsX8_tag (wsV RX8 176 RX8 yX8_settled wsX8_settled) := goodIn_app (goodIn_of _ (by decide +kernel)) ggX8_tag_X8_settled
set_option maxRecDepth 20000 in
theorem ggX8_tag_X4_roundOf : GoodIn wsX8_tag wsX4_roundOf := goodIn_r _ [128, 20, 141, 142, 143] (by decide +kernel) (by decide +kernel)
set_option maxRecDepth 20000 in
theorem gX8_tag_X4_roundOf : GoodIn wsX8_tag (wsV RX8 218 RX4 yX4_roundOf wsX4_roundOf) := goodIn_app (goodIn_of _ (by decide +kernel)) ggX8_tag_X4_roundOf
