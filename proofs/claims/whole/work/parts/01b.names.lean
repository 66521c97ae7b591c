theorem dX0_init_0 : decode cX0_init 0 = .ok (.aload_n 0, 1) := by decide +kernel
theorem dX0_init_1 : decode cX0_init 1 = .ok (.invokespecial 3, 3) := by decide +kernel
theorem dX0_init_4 : decode cX0_init 4 = .ok (.aload_n 0, 1) := by decide +kernel
theorem dX0_init_5 : decode cX0_init 5 = .ok (.bipush 16, 2) := by decide +kernel
theorem dX0_init_7 : decode cX0_init 7 = .ok (.newarray .int, 2) := by decide +kernel
theorem dX0_init_9 : decode cX0_init 9 = .ok (.putfield 9, 3) := by decide +kernel
theorem dX0_init_12 : decode cX0_init 12 = .ok (.aload_n 0, 1) := by decide +kernel
theorem dX0_init_13 : decode cX0_init 13 = .ok (.bipush 16, 2) := by decide +kernel
theorem dX0_init_15 : decode cX0_init 15 = .ok (.newarray .int, 2) := by decide +kernel
theorem dX0_init_17 : decode cX0_init 17 = .ok (.putfield 15, 3) := by decide +kernel
theorem dX0_init_20 : decode cX0_init 20 = .ok (.aload_n 0, 1) := by decide +kernel
theorem dX0_init_21 : decode cX0_init 21 = .ok (.bipush 16, 2) := by decide +kernel
theorem dX0_init_23 : decode cX0_init 23 = .ok (.newarray .int, 2) := by decide +kernel
theorem dX0_init_25 : decode cX0_init 25 = .ok (.putfield 18, 3) := by decide +kernel
theorem dX0_init_28 : decode cX0_init 28 = .ok (.aload_n 0, 1) := by decide +kernel
theorem dX0_init_29 : decode cX0_init 29 = .ok (.bipush 16, 2) := by decide +kernel
theorem dX0_init_31 : decode cX0_init 31 = .ok (.newarray .int, 2) := by decide +kernel
theorem dX0_init_33 : decode cX0_init 33 = .ok (.putfield 21, 3) := by decide +kernel
theorem dX0_init_36 : decode cX0_init 36 = .ok (.aload_n 0, 1) := by decide +kernel
theorem dX0_init_37 : decode cX0_init 37 = .ok (.bipush 16, 2) := by decide +kernel
theorem dX0_init_39 : decode cX0_init 39 = .ok (.newarray .int, 2) := by decide +kernel
theorem dX0_init_41 : decode cX0_init 41 = .ok (.putfield 24, 3) := by decide +kernel
theorem dX0_init_44 : decode cX0_init 44 = .ok (.aload_n 0, 1) := by decide +kernel
theorem dX0_init_45 : decode cX0_init 45 = .ok (.bipush 16, 2) := by decide +kernel
theorem dX0_init_47 : decode cX0_init 47 = .ok (.newarray .int, 2) := by decide +kernel
theorem dX0_init_49 : decode cX0_init 49 = .ok (.putfield 27, 3) := by decide +kernel
theorem dX0_init_52 : decode cX0_init 52 = .ok (.aload_n 0, 1) := by decide +kernel
theorem dX0_init_53 : decode cX0_init 53 = .ok (.iconst 0, 1) := by decide +kernel
theorem dX0_init_54 : decode cX0_init 54 = .ok (.putfield 30, 3) := by decide +kernel
theorem dX0_init_57 : decode cX0_init 57 = .ok (.aload_n 0, 1) := by decide +kernel
theorem dX0_init_58 : decode cX0_init 58 = .ok (.iconst 0, 1) := by decide +kernel
theorem dX0_init_59 : decode cX0_init 59 = .ok (.putfield 34, 3) := by decide +kernel
theorem dX0_init_62 : decode cX0_init 62 = .ok (.aload_n 0, 1) := by decide +kernel
theorem dX0_init_63 : decode cX0_init 63 = .ok (.iconst 0, 1) := by decide +kernel
theorem dX0_init_64 : decode cX0_init 64 = .ok (.putfield 37, 3) := by decide +kernel
theorem dX0_init_67 : decode cX0_init 67 = .ok (.return_, 1) := by decide +kernel
theorem dX0_clear_0 : decode cX0_clear 0 = .ok (.aload_n 0, 1) := by decide +kernel
theorem dX0_clear_1 : decode cX0_clear 1 = .ok (.iconst 0, 1) := by decide +kernel
theorem dX0_clear_2 : decode cX0_clear 2 = .ok (.putfield 30, 3) := by decide +kernel
theorem dX0_clear_5 : decode cX0_clear 5 = .ok (.aload_n 0, 1) := by decide +kernel
theorem dX0_clear_6 : decode cX0_clear 6 = .ok (.iconst 0, 1) := by decide +kernel
theorem dX0_clear_7 : decode cX0_clear 7 = .ok (.putfield 34, 3) := by decide +kernel
theorem dX0_clear_10 : decode cX0_clear 10 = .ok (.aload_n 0, 1) := by decide +kernel
theorem dX0_clear_11 : decode cX0_clear 11 = .ok (.iconst 0, 1) := by decide +kernel
theorem dX0_clear_12 : decode cX0_clear 12 = .ok (.putfield 37, 3) := by decide +kernel
theorem dX0_clear_15 : decode cX0_clear 15 = .ok (.return_, 1) := by decide +kernel
theorem dX0_copyFrom_0 : decode cX0_copyFrom 0 = .ok (.aload_n 1, 1) := by decide +kernel
theorem dX0_copyFrom_1 : decode cX0_copyFrom 1 = .ok (.getfield 9, 3) := by decide +kernel
theorem dX0_copyFrom_4 : decode cX0_copyFrom 4 = .ok (.iconst 0, 1) := by decide +kernel
theorem dX0_copyFrom_5 : decode cX0_copyFrom 5 = .ok (.aload_n 0, 1) := by decide +kernel
theorem dX0_copyFrom_6 : decode cX0_copyFrom 6 = .ok (.getfield 9, 3) := by decide +kernel
theorem dX0_copyFrom_9 : decode cX0_copyFrom 9 = .ok (.iconst 0, 1) := by decide +kernel
theorem dX0_copyFrom_10 : decode cX0_copyFrom 10 = .ok (.bipush 16, 2) := by decide +kernel
theorem dX0_copyFrom_12 : decode cX0_copyFrom 12 = .ok (.invokestatic 40, 3) := by decide +kernel
theorem dX0_copyFrom_15 : decode cX0_copyFrom 15 = .ok (.aload_n 1, 1) := by decide +kernel
theorem dX0_copyFrom_16 : decode cX0_copyFrom 16 = .ok (.getfield 15, 3) := by decide +kernel
theorem dX0_copyFrom_19 : decode cX0_copyFrom 19 = .ok (.iconst 0, 1) := by decide +kernel
theorem dX0_copyFrom_20 : decode cX0_copyFrom 20 = .ok (.aload_n 0, 1) := by decide +kernel
theorem dX0_copyFrom_21 : decode cX0_copyFrom 21 = .ok (.getfield 15, 3) := by decide +kernel
theorem dX0_copyFrom_24 : decode cX0_copyFrom 24 = .ok (.iconst 0, 1) := by decide +kernel
theorem dX0_copyFrom_25 : decode cX0_copyFrom 25 = .ok (.bipush 16, 2) := by decide +kernel
theorem dX0_copyFrom_27 : decode cX0_copyFrom 27 = .ok (.invokestatic 40, 3) := by decide +kernel
theorem dX0_copyFrom_30 : decode cX0_copyFrom 30 = .ok (.aload_n 1, 1) := by decide +kernel
theorem dX0_copyFrom_31 : decode cX0_copyFrom 31 = .ok (.getfield 18, 3) := by decide +kernel
theorem dX0_copyFrom_34 : decode cX0_copyFrom 34 = .ok (.iconst 0, 1) := by decide +kernel
theorem dX0_copyFrom_35 : decode cX0_copyFrom 35 = .ok (.aload_n 0, 1) := by decide +kernel
theorem dX0_copyFrom_36 : decode cX0_copyFrom 36 = .ok (.getfield 18, 3) := by decide +kernel
theorem dX0_copyFrom_39 : decode cX0_copyFrom 39 = .ok (.iconst 0, 1) := by decide +kernel
theorem dX0_copyFrom_40 : decode cX0_copyFrom 40 = .ok (.bipush 16, 2) := by decide +kernel
theorem dX0_copyFrom_42 : decode cX0_copyFrom 42 = .ok (.invokestatic 40, 3) := by decide +kernel
theorem dX0_copyFrom_45 : decode cX0_copyFrom 45 = .ok (.aload_n 1, 1) := by decide +kernel
theorem dX0_copyFrom_46 : decode cX0_copyFrom 46 = .ok (.getfield 21, 3) := by decide +kernel
theorem dX0_copyFrom_49 : decode cX0_copyFrom 49 = .ok (.iconst 0, 1) := by decide +kernel
theorem dX0_copyFrom_50 : decode cX0_copyFrom 50 = .ok (.aload_n 0, 1) := by decide +kernel
theorem dX0_copyFrom_51 : decode cX0_copyFrom 51 = .ok (.getfield 21, 3) := by decide +kernel
theorem dX0_copyFrom_54 : decode cX0_copyFrom 54 = .ok (.iconst 0, 1) := by decide +kernel
theorem dX0_copyFrom_55 : decode cX0_copyFrom 55 = .ok (.bipush 16, 2) := by decide +kernel
theorem dX0_copyFrom_57 : decode cX0_copyFrom 57 = .ok (.invokestatic 40, 3) := by decide +kernel
theorem dX0_copyFrom_60 : decode cX0_copyFrom 60 = .ok (.aload_n 1, 1) := by decide +kernel
theorem dX0_copyFrom_61 : decode cX0_copyFrom 61 = .ok (.getfield 24, 3) := by decide +kernel
theorem dX0_copyFrom_64 : decode cX0_copyFrom 64 = .ok (.iconst 0, 1) := by decide +kernel
theorem dX0_copyFrom_65 : decode cX0_copyFrom 65 = .ok (.aload_n 0, 1) := by decide +kernel
theorem dX0_copyFrom_66 : decode cX0_copyFrom 66 = .ok (.getfield 24, 3) := by decide +kernel
theorem dX0_copyFrom_69 : decode cX0_copyFrom 69 = .ok (.iconst 0, 1) := by decide +kernel
theorem dX0_copyFrom_70 : decode cX0_copyFrom 70 = .ok (.bipush 16, 2) := by decide +kernel
theorem dX0_copyFrom_72 : decode cX0_copyFrom 72 = .ok (.invokestatic 40, 3) := by decide +kernel
theorem dX0_copyFrom_75 : decode cX0_copyFrom 75 = .ok (.aload_n 1, 1) := by decide +kernel
theorem dX0_copyFrom_76 : decode cX0_copyFrom 76 = .ok (.getfield 27, 3) := by decide +kernel
theorem dX0_copyFrom_79 : decode cX0_copyFrom 79 = .ok (.iconst 0, 1) := by decide +kernel
theorem dX0_copyFrom_80 : decode cX0_copyFrom 80 = .ok (.aload_n 0, 1) := by decide +kernel
theorem dX0_copyFrom_81 : decode cX0_copyFrom 81 = .ok (.getfield 27, 3) := by decide +kernel
theorem dX0_copyFrom_84 : decode cX0_copyFrom 84 = .ok (.iconst 0, 1) := by decide +kernel
theorem dX0_copyFrom_85 : decode cX0_copyFrom 85 = .ok (.bipush 16, 2) := by decide +kernel
theorem dX0_copyFrom_87 : decode cX0_copyFrom 87 = .ok (.invokestatic 40, 3) := by decide +kernel
theorem dX0_copyFrom_90 : decode cX0_copyFrom 90 = .ok (.aload_n 0, 1) := by decide +kernel
theorem dX0_copyFrom_91 : decode cX0_copyFrom 91 = .ok (.aload_n 1, 1) := by decide +kernel
theorem dX0_copyFrom_92 : decode cX0_copyFrom 92 = .ok (.getfield 30, 3) := by decide +kernel
theorem dX0_copyFrom_95 : decode cX0_copyFrom 95 = .ok (.putfield 30, 3) := by decide +kernel
theorem dX0_copyFrom_98 : decode cX0_copyFrom 98 = .ok (.aload_n 0, 1) := by decide +kernel
theorem dX0_copyFrom_99 : decode cX0_copyFrom 99 = .ok (.aload_n 1, 1) := by decide +kernel
theorem dX0_copyFrom_100 : decode cX0_copyFrom 100 = .ok (.getfield 34, 3) := by decide +kernel
theorem dX0_copyFrom_103 : decode cX0_copyFrom 103 = .ok (.putfield 34, 3) := by decide +kernel
theorem dX0_copyFrom_106 : decode cX0_copyFrom 106 = .ok (.aload_n 0, 1) := by decide +kernel
theorem dX0_copyFrom_107 : decode cX0_copyFrom 107 = .ok (.aload_n 1, 1) := by decide +kernel
theorem dX0_copyFrom_108 : decode cX0_copyFrom 108 = .ok (.getfield 37, 3) := by decide +kernel
theorem dX0_copyFrom_111 : decode cX0_copyFrom 111 = .ok (.putfield 37, 3) := by decide +kernel
theorem dX0_copyFrom_114 : decode cX0_copyFrom 114 = .ok (.return_, 1) := by decide +kernel
theorem dX0_hasRule_0 : decode cX0_hasRule 0 = .ok (.iload_n 1, 1) := by decide +kernel
theorem dX0_hasRule_1 : decode cX0_hasRule 1 = .ok (.ifCond .lt 15, 3) := by decide +kernel
theorem dX0_hasRule_4 : decode cX0_hasRule 4 = .ok (.iload_n 1, 1) := by decide +kernel
theorem dX0_hasRule_5 : decode cX0_hasRule 5 = .ok (.aload_n 0, 1) := by decide +kernel
theorem dX0_hasRule_6 : decode cX0_hasRule 6 = .ok (.getfield 34, 3) := by decide +kernel
theorem dX0_hasRule_9 : decode cX0_hasRule 9 = .ok (.if_icmp .ge 7, 3) := by decide +kernel
theorem dX0_hasRule_12 : decode cX0_hasRule 12 = .ok (.iconst 1, 1) := by decide +kernel
theorem dX0_hasRule_13 : decode cX0_hasRule 13 = .ok (.goto 4, 3) := by decide +kernel
theorem dX0_hasRule_16 : decode cX0_hasRule 16 = .ok (.iconst 0, 1) := by decide +kernel
theorem dX0_hasRule_17 : decode cX0_hasRule 17 = .ok (.ireturn, 1) := by decide +kernel
theorem dX0_add_0 : decode cX0_add 0 = .ok (.aload_n 0, 1) := by decide +kernel
theorem dX0_add_1 : decode cX0_add 1 = .ok (.getfield 34, 3) := by decide +kernel
theorem dX0_add_4 : decode cX0_add 4 = .ok (.bipush 16, 2) := by decide +kernel
theorem dX0_add_6 : decode cX0_add 6 = .ok (.if_icmp .lt 5, 3) := by decide +kernel
theorem dX0_add_9 : decode cX0_add 9 = .ok (.iconst 0, 1) := by decide +kernel
theorem dX0_add_10 : decode cX0_add 10 = .ok (.ireturn, 1) := by decide +kernel
theorem dX0_add_11 : decode cX0_add 11 = .ok (.aload_n 0, 1) := by decide +kernel
theorem dX0_add_12 : decode cX0_add 12 = .ok (.getfield 9, 3) := by decide +kernel
theorem dX0_add_15 : decode cX0_add 15 = .ok (.aload_n 0, 1) := by decide +kernel
theorem dX0_add_16 : decode cX0_add 16 = .ok (.getfield 34, 3) := by decide +kernel
theorem dX0_add_19 : decode cX0_add 19 = .ok (.iload_n 1, 1) := by decide +kernel
theorem dX0_add_20 : decode cX0_add 20 = .ok (.iastore, 1) := by decide +kernel
theorem dX0_add_21 : decode cX0_add 21 = .ok (.aload_n 0, 1) := by decide +kernel
theorem dX0_add_22 : decode cX0_add 22 = .ok (.getfield 15, 3) := by decide +kernel
theorem dX0_add_25 : decode cX0_add 25 = .ok (.aload_n 0, 1) := by decide +kernel
theorem dX0_add_26 : decode cX0_add 26 = .ok (.getfield 34, 3) := by decide +kernel
theorem dX0_add_29 : decode cX0_add 29 = .ok (.iload_n 2, 1) := by decide +kernel
theorem dX0_add_30 : decode cX0_add 30 = .ok (.iastore, 1) := by decide +kernel
theorem dX0_add_31 : decode cX0_add 31 = .ok (.aload_n 0, 1) := by decide +kernel
theorem dX0_add_32 : decode cX0_add 32 = .ok (.getfield 18, 3) := by decide +kernel
theorem dX0_add_35 : decode cX0_add 35 = .ok (.aload_n 0, 1) := by decide +kernel
theorem dX0_add_36 : decode cX0_add 36 = .ok (.getfield 34, 3) := by decide +kernel
theorem dX0_add_39 : decode cX0_add 39 = .ok (.iload_n 3, 1) := by decide +kernel
theorem dX0_add_40 : decode cX0_add 40 = .ok (.iastore, 1) := by decide +kernel
theorem dX0_add_41 : decode cX0_add 41 = .ok (.aload_n 0, 1) := by decide +kernel
theorem dX0_add_42 : decode cX0_add 42 = .ok (.getfield 21, 3) := by decide +kernel
theorem dX0_add_45 : decode cX0_add 45 = .ok (.aload_n 0, 1) := by decide +kernel
theorem dX0_add_46 : decode cX0_add 46 = .ok (.getfield 34, 3) := by decide +kernel
theorem dX0_add_49 : decode cX0_add 49 = .ok (.iload 4, 2) := by decide +kernel
theorem dX0_add_51 : decode cX0_add 51 = .ok (.iastore, 1) := by decide +kernel
theorem dX0_add_52 : decode cX0_add 52 = .ok (.aload_n 0, 1) := by decide +kernel
theorem dX0_add_53 : decode cX0_add 53 = .ok (.getfield 24, 3) := by decide +kernel
theorem dX0_add_56 : decode cX0_add 56 = .ok (.aload_n 0, 1) := by decide +kernel
theorem dX0_add_57 : decode cX0_add 57 = .ok (.getfield 34, 3) := by decide +kernel
theorem dX0_add_60 : decode cX0_add 60 = .ok (.iload 5, 2) := by decide +kernel
theorem dX0_add_62 : decode cX0_add 62 = .ok (.iastore, 1) := by decide +kernel
theorem dX0_add_63 : decode cX0_add 63 = .ok (.aload_n 0, 1) := by decide +kernel
theorem dX0_add_64 : decode cX0_add 64 = .ok (.getfield 27, 3) := by decide +kernel
theorem dX0_add_67 : decode cX0_add 67 = .ok (.aload_n 0, 1) := by decide +kernel
theorem dX0_add_68 : decode cX0_add 68 = .ok (.getfield 34, 3) := by decide +kernel
theorem dX0_add_71 : decode cX0_add 71 = .ok (.iconst 0, 1) := by decide +kernel
theorem dX0_add_72 : decode cX0_add 72 = .ok (.iastore, 1) := by decide +kernel
theorem dX0_add_73 : decode cX0_add 73 = .ok (.aload_n 0, 1) := by decide +kernel
theorem dX0_add_74 : decode cX0_add 74 = .ok (.dup, 1) := by decide +kernel
theorem dX0_add_75 : decode cX0_add 75 = .ok (.getfield 34, 3) := by decide +kernel
theorem dX0_add_78 : decode cX0_add 78 = .ok (.iconst 1, 1) := by decide +kernel
theorem dX0_add_79 : decode cX0_add 79 = .ok (.iadd, 1) := by decide +kernel
theorem dX0_add_80 : decode cX0_add 80 = .ok (.putfield 34, 3) := by decide +kernel
theorem dX0_add_83 : decode cX0_add 83 = .ok (.iconst 1, 1) := by decide +kernel
theorem dX0_add_84 : decode cX0_add 84 = .ok (.ireturn, 1) := by decide +kernel
set_option maxRecDepth 20000 in
theorem ggX0_isTold_X8_has : GoodIn wsX0_isTold wsX8_has := goodIn_r _ [4] (by decide +kernel) (by decide +kernel)
set_option maxRecDepth 20000 in
theorem gX0_isTold_X8_has_n46 : GoodIn wsX0_isTold (wsX8_has) := ggX0_isTold_X8_has
theorem dX0_isTold_0 : decode cX0_isTold 0 = .ok (.aload_n 0, 1) := by decide +kernel
theorem dX0_isTold_1 : decode cX0_isTold 1 = .ok (.getfield 27, 3) := by decide +kernel
theorem dX0_isTold_4 : decode cX0_isTold 4 = .ok (.iload_n 1, 1) := by decide +kernel
theorem dX0_isTold_5 : decode cX0_isTold 5 = .ok (.iaload, 1) := by decide +kernel
theorem dX0_isTold_6 : decode cX0_isTold 6 = .ok (.iload_n 2, 1) := by decide +kernel
theorem dX0_isTold_7 : decode cX0_isTold 7 = .ok (.invokestatic 46, 3) := by decide +kernel
theorem dX0_isTold_10 : decode cX0_isTold 10 = .ok (.ifCond .ne 16, 3) := by decide +kernel
theorem dX0_isTold_13 : decode cX0_isTold 13 = .ok (.aload_n 0, 1) := by decide +kernel
theorem dX0_isTold_14 : decode cX0_isTold 14 = .ok (.getfield 27, 3) := by decide +kernel
theorem dX0_isTold_17 : decode cX0_isTold 17 = .ok (.iload_n 2, 1) := by decide +kernel
theorem dX0_isTold_18 : decode cX0_isTold 18 = .ok (.iaload, 1) := by decide +kernel
theorem dX0_isTold_19 : decode cX0_isTold 19 = .ok (.iload_n 1, 1) := by decide +kernel
theorem dX0_isTold_20 : decode cX0_isTold 20 = .ok (.invokestatic 46, 3) := by decide +kernel
theorem dX0_isTold_23 : decode cX0_isTold 23 = .ok (.ifCond .eq 7, 3) := by decide +kernel
theorem dX0_isTold_26 : decode cX0_isTold 26 = .ok (.iconst 1, 1) := by decide +kernel
theorem dX0_isTold_27 : decode cX0_isTold 27 = .ok (.goto 4, 3) := by decide +kernel
theorem dX0_isTold_30 : decode cX0_isTold 30 = .ok (.iconst 0, 1) := by decide +kernel
theorem dX0_isTold_31 : decode cX0_isTold 31 = .ok (.ireturn, 1) := by decide +kernel
set_option maxRecDepth 20000 in
theorem ggX0_rulesBelow_X0_isTold : GoodIn wsX0_rulesBelow wsX0_isTold := goodIn_r _ [8, 1, 9, 10, 11, 12, 13, 14, 15, 16, 17, 18, 19, 20] (by decide +kernel) (by decide +kernel)
set_option maxRecDepth 20000 in
theorem gX0_rulesBelow_X0_isTold : GoodIn wsX0_rulesBelow (wsV RX0 50 RX0 yX0_isTold wsX0_isTold) := goodIn_app (goodIn_of _ (by decide +kernel)) ggX0_rulesBelow_X0_isTold
theorem dX0_rulesBelow_0 : decode cX0_rulesBelow 0 = .ok (.aload_n 0, 1) := by decide +kernel
theorem dX0_rulesBelow_1 : decode cX0_rulesBelow 1 = .ok (.getfield 27, 3) := by decide +kernel
theorem dX0_rulesBelow_4 : decode cX0_rulesBelow 4 = .ok (.iload_n 1, 1) := by decide +kernel
theorem dX0_rulesBelow_5 : decode cX0_rulesBelow 5 = .ok (.iaload, 1) := by decide +kernel
theorem dX0_rulesBelow_6 : decode cX0_rulesBelow 6 = .ok (.istore_n 2, 1) := by decide +kernel
theorem dX0_rulesBelow_7 : decode cX0_rulesBelow 7 = .ok (.iconst 0, 1) := by decide +kernel
theorem dX0_rulesBelow_8 : decode cX0_rulesBelow 8 = .ok (.istore_n 3, 1) := by decide +kernel
theorem dX0_rulesBelow_9 : decode cX0_rulesBelow 9 = .ok (.iload_n 3, 1) := by decide +kernel
theorem dX0_rulesBelow_10 : decode cX0_rulesBelow 10 = .ok (.aload_n 0, 1) := by decide +kernel
theorem dX0_rulesBelow_11 : decode cX0_rulesBelow 11 = .ok (.getfield 34, 3) := by decide +kernel
theorem dX0_rulesBelow_14 : decode cX0_rulesBelow 14 = .ok (.if_icmp .ge 39, 3) := by decide +kernel
theorem dX0_rulesBelow_17 : decode cX0_rulesBelow 17 = .ok (.aload_n 0, 1) := by decide +kernel
theorem dX0_rulesBelow_18 : decode cX0_rulesBelow 18 = .ok (.getfield 24, 3) := by decide +kernel
theorem dX0_rulesBelow_21 : decode cX0_rulesBelow 21 = .ok (.iload_n 1, 1) := by decide +kernel
theorem dX0_rulesBelow_22 : decode cX0_rulesBelow 22 = .ok (.iaload, 1) := by decide +kernel
theorem dX0_rulesBelow_23 : decode cX0_rulesBelow 23 = .ok (.aload_n 0, 1) := by decide +kernel
theorem dX0_rulesBelow_24 : decode cX0_rulesBelow 24 = .ok (.getfield 24, 3) := by decide +kernel
theorem dX0_rulesBelow_27 : decode cX0_rulesBelow 27 = .ok (.iload_n 3, 1) := by decide +kernel
theorem dX0_rulesBelow_28 : decode cX0_rulesBelow 28 = .ok (.iaload, 1) := by decide +kernel
theorem dX0_rulesBelow_29 : decode cX0_rulesBelow 29 = .ok (.if_icmp .le 18, 3) := by decide +kernel
theorem dX0_rulesBelow_32 : decode cX0_rulesBelow 32 = .ok (.aload_n 0, 1) := by decide +kernel
theorem dX0_rulesBelow_33 : decode cX0_rulesBelow 33 = .ok (.iload_n 1, 1) := by decide +kernel
theorem dX0_rulesBelow_34 : decode cX0_rulesBelow 34 = .ok (.iload_n 3, 1) := by decide +kernel
theorem dX0_rulesBelow_35 : decode cX0_rulesBelow 35 = .ok (.invokevirtual 50, 3) := by decide +kernel
theorem dX0_rulesBelow_38 : decode cX0_rulesBelow 38 = .ok (.ifCond .ne 9, 3) := by decide +kernel
theorem dX0_rulesBelow_41 : decode cX0_rulesBelow 41 = .ok (.iload_n 2, 1) := by decide +kernel
theorem dX0_rulesBelow_42 : decode cX0_rulesBelow 42 = .ok (.iconst 1, 1) := by decide +kernel
theorem dX0_rulesBelow_43 : decode cX0_rulesBelow 43 = .ok (.iload_n 3, 1) := by decide +kernel
theorem dX0_rulesBelow_44 : decode cX0_rulesBelow 44 = .ok (.ishl, 1) := by decide +kernel
theorem dX0_rulesBelow_45 : decode cX0_rulesBelow 45 = .ok (.ior, 1) := by decide +kernel
theorem dX0_rulesBelow_46 : decode cX0_rulesBelow 46 = .ok (.istore_n 2, 1) := by decide +kernel
theorem dX0_rulesBelow_47 : decode cX0_rulesBelow 47 = .ok (.iinc 3 1, 3) := by decide +kernel
theorem dX0_rulesBelow_50 : decode cX0_rulesBelow 50 = .ok (.goto (-41), 3) := by decide +kernel
theorem dX0_rulesBelow_53 : decode cX0_rulesBelow 53 = .ok (.iload_n 2, 1) := by decide +kernel
theorem dX0_rulesBelow_54 : decode cX0_rulesBelow 54 = .ok (.ireturn, 1) := by decide +kernel
set_option maxRecDepth 20000 in
theorem ggX0_pairs_J6_bitCount_0f7a4 : GoodIn wsX0_pairs wsJ6_bitCount_0f7a4 := goodIn_r _ [6, 7, 8, 9] (by decide +kernel) (by decide +kernel)
set_option maxRecDepth 20000 in
theorem gX0_pairs_J6_bitCount_0f7a4 : GoodIn wsX0_pairs (va_wsS RX0 53 yJ6_bitCount_0f7a4 wsJ6_bitCount_0f7a4) := goodIn_app (goodIn_of _ (by decide +kernel)) ggX0_pairs_J6_bitCount_0f7a4
theorem dX0_pairs_0 : decode cX0_pairs 0 = .ok (.iconst 0, 1) := by decide +kernel
theorem dX0_pairs_1 : decode cX0_pairs 1 = .ok (.istore_n 1, 1) := by decide +kernel
theorem dX0_pairs_2 : decode cX0_pairs 2 = .ok (.iconst 0, 1) := by decide +kernel
theorem dX0_pairs_3 : decode cX0_pairs 3 = .ok (.istore_n 2, 1) := by decide +kernel
theorem dX0_pairs_4 : decode cX0_pairs 4 = .ok (.iload_n 2, 1) := by decide +kernel
theorem dX0_pairs_5 : decode cX0_pairs 5 = .ok (.aload_n 0, 1) := by decide +kernel
theorem dX0_pairs_6 : decode cX0_pairs 6 = .ok (.getfield 34, 3) := by decide +kernel
theorem dX0_pairs_9 : decode cX0_pairs 9 = .ok (.if_icmp .ge 21, 3) := by decide +kernel
theorem dX0_pairs_12 : decode cX0_pairs 12 = .ok (.iload_n 1, 1) := by decide +kernel
theorem dX0_pairs_13 : decode cX0_pairs 13 = .ok (.aload_n 0, 1) := by decide +kernel
theorem dX0_pairs_14 : decode cX0_pairs 14 = .ok (.getfield 27, 3) := by decide +kernel
theorem dX0_pairs_17 : decode cX0_pairs 17 = .ok (.iload_n 2, 1) := by decide +kernel
theorem dX0_pairs_18 : decode cX0_pairs 18 = .ok (.iaload, 1) := by decide +kernel
theorem dX0_pairs_19 : decode cX0_pairs 19 = .ok (.invokestatic 53, 3) := by decide +kernel
theorem dX0_pairs_22 : decode cX0_pairs 22 = .ok (.iadd, 1) := by decide +kernel
theorem dX0_pairs_23 : decode cX0_pairs 23 = .ok (.istore_n 1, 1) := by decide +kernel
theorem dX0_pairs_24 : decode cX0_pairs 24 = .ok (.iinc 2 1, 3) := by decide +kernel
theorem dX0_pairs_27 : decode cX0_pairs 27 = .ok (.goto (-23), 3) := by decide +kernel
theorem dX0_pairs_30 : decode cX0_pairs 30 = .ok (.iload_n 1, 1) := by decide +kernel
theorem dX0_pairs_31 : decode cX0_pairs 31 = .ok (.ireturn, 1) := by decide +kernel
set_option maxRecDepth 20000 in
theorem ggX1_init_X0_init : GoodIn wsX1_init wsX0_init := goodIn_r _ [11, 12, 2, 3, 13, 14, 15, 16, 17, 18, 19, 20, 21, 22, 26, 27, 28, 29, 30, 31, 32, 33, 34] (by decide +kernel) (by decide +kernel)
set_option maxRecDepth 20000 in
theorem gX1_init_X0_init_n24 : GoodIn wsX1_init (wsX0_init) := ggX1_init_X0_init
theorem dX1_init_0 : decode cX1_init 0 = .ok (.aload_n 0, 1) := by decide +kernel
theorem dX1_init_1 : decode cX1_init 1 = .ok (.invokespecial 3, 3) := by decide +kernel
theorem dX1_init_4 : decode cX1_init 4 = .ok (.aload_n 0, 1) := by decide +kernel
theorem dX1_init_5 : decode cX1_init 5 = .ok (.bipush 13, 2) := by decide +kernel
theorem dX1_init_7 : decode cX1_init 7 = .ok (.anewarray 9, 3) := by decide +kernel
theorem dX1_init_10 : decode cX1_init 10 = .ok (.putfield 11, 3) := by decide +kernel
theorem dX1_init_13 : decode cX1_init 13 = .ok (.aload_n 0, 1) := by decide +kernel
theorem dX1_init_14 : decode cX1_init 14 = .ok (.iconst 0, 1) := by decide +kernel
theorem dX1_init_15 : decode cX1_init 15 = .ok (.putfield 17, 3) := by decide +kernel
theorem dX1_init_18 : decode cX1_init 18 = .ok (.aload_n 0, 1) := by decide +kernel
theorem dX1_init_19 : decode cX1_init 19 = .ok (.iconst 0, 1) := by decide +kernel
theorem dX1_init_20 : decode cX1_init 20 = .ok (.putfield 21, 3) := by decide +kernel
theorem dX1_init_23 : decode cX1_init 23 = .ok (.iconst 0, 1) := by decide +kernel
theorem dX1_init_24 : decode cX1_init 24 = .ok (.istore_n 1, 1) := by decide +kernel
theorem dX1_init_25 : decode cX1_init 25 = .ok (.iload_n 1, 1) := by decide +kernel
theorem dX1_init_26 : decode cX1_init 26 = .ok (.bipush 12, 2) := by decide +kernel
theorem dX1_init_28 : decode cX1_init 28 = .ok (.if_icmp .gt 22, 3) := by decide +kernel
theorem dX1_init_31 : decode cX1_init 31 = .ok (.aload_n 0, 1) := by decide +kernel
theorem dX1_init_32 : decode cX1_init 32 = .ok (.getfield 11, 3) := by decide +kernel
theorem dX1_init_35 : decode cX1_init 35 = .ok (.iload_n 1, 1) := by decide +kernel
theorem dX1_init_36 : decode cX1_init 36 = .ok (.new 9, 3) := by decide +kernel
theorem dX1_init_39 : decode cX1_init 39 = .ok (.dup, 1) := by decide +kernel
theorem dX1_init_40 : decode cX1_init 40 = .ok (.invokespecial 24, 3) := by decide +kernel
theorem dX1_init_43 : decode cX1_init 43 = .ok (.aastore, 1) := by decide +kernel
theorem dX1_init_44 : decode cX1_init 44 = .ok (.iinc 1 1, 3) := by decide +kernel
theorem dX1_init_47 : decode cX1_init 47 = .ok (.goto (-22), 3) := by decide +kernel
theorem dX1_init_50 : decode cX1_init 50 = .ok (.return_, 1) := by decide +kernel
set_option maxRecDepth 20000 in
theorem ggX1_restart_X0_copyFrom : GoodIn wsX1_restart wsX0_copyFrom := goodIn_r _ [8, 9, 10, 11, 12, 13, 14, 15, 16, 17, 18, 19, 20, 21, 25, 26, 27, 28, 29, 30, 31, 32, 33] (by decide +kernel) (by decide +kernel)
set_option maxRecDepth 20000 in
theorem gX1_restart_X0_copyFrom : GoodIn wsX1_restart (wsV RX1 25 RX0 yX0_copyFrom wsX0_copyFrom) := goodIn_app (goodIn_of _ (by decide +kernel)) ggX1_restart_X0_copyFrom
theorem dX1_restart_0 : decode cX1_restart 0 = .ok (.aload_n 0, 1) := by decide +kernel
theorem dX1_restart_1 : decode cX1_restart 1 = .ok (.iconst 0, 1) := by decide +kernel
theorem dX1_restart_2 : decode cX1_restart 2 = .ok (.putfield 17, 3) := by decide +kernel
theorem dX1_restart_5 : decode cX1_restart 5 = .ok (.aload_n 0, 1) := by decide +kernel
theorem dX1_restart_6 : decode cX1_restart 6 = .ok (.iconst 0, 1) := by decide +kernel
theorem dX1_restart_7 : decode cX1_restart 7 = .ok (.putfield 21, 3) := by decide +kernel
theorem dX1_restart_10 : decode cX1_restart 10 = .ok (.aload_n 0, 1) := by decide +kernel
theorem dX1_restart_11 : decode cX1_restart 11 = .ok (.getfield 11, 3) := by decide +kernel
theorem dX1_restart_14 : decode cX1_restart 14 = .ok (.iconst 0, 1) := by decide +kernel
theorem dX1_restart_15 : decode cX1_restart 15 = .ok (.aaload, 1) := by decide +kernel
theorem dX1_restart_16 : decode cX1_restart 16 = .ok (.aload_n 1, 1) := by decide +kernel
theorem dX1_restart_17 : decode cX1_restart 17 = .ok (.invokevirtual 25, 3) := by decide +kernel
theorem dX1_restart_20 : decode cX1_restart 20 = .ok (.return_, 1) := by decide +kernel
set_option maxRecDepth 20000 in
theorem ggX1_keep_X1_dropOldest : GoodIn wsX1_keep wsX1_dropOldest := goodIn_r _ [8, 3, 27, 28, 29] (by decide +kernel) (by decide +kernel)
set_option maxRecDepth 20000 in
theorem gX1_keep_X1_dropOldest : GoodIn wsX1_keep (wsV RX1 29 RX1 yX1_dropOldest wsX1_dropOldest) := goodIn_app (goodIn_of _ (by decide +kernel)) ggX1_keep_X1_dropOldest
set_option maxRecDepth 20000 in
theorem ggX1_keep_X0_copyFrom : GoodIn wsX1_keep wsX0_copyFrom := goodIn_r _ [13, 14, 15, 16, 17, 18, 19, 20, 21, 22, 23, 24, 25, 26, 30, 31, 32, 33, 34, 35, 36, 37, 38] (by decide +kernel) (by decide +kernel)
set_option maxRecDepth 20000 in
theorem gX1_keep_X0_copyFrom : GoodIn wsX1_keep (wsV RX1 25 RX0 yX0_copyFrom wsX0_copyFrom) := goodIn_app (goodIn_of _ (by decide +kernel)) ggX1_keep_X0_copyFrom
theorem dX1_keep_0 : decode cX1_keep 0 = .ok (.aload_n 0, 1) := by decide +kernel
theorem dX1_keep_1 : decode cX1_keep 1 = .ok (.getfield 17, 3) := by decide +kernel
theorem dX1_keep_4 : decode cX1_keep 4 = .ok (.bipush 12, 2) := by decide +kernel
theorem dX1_keep_6 : decode cX1_keep 6 = .ok (.if_icmp .ge 16, 3) := by decide +kernel
theorem dX1_keep_9 : decode cX1_keep 9 = .ok (.aload_n 0, 1) := by decide +kernel
theorem dX1_keep_10 : decode cX1_keep 10 = .ok (.dup, 1) := by decide +kernel
theorem dX1_keep_11 : decode cX1_keep 11 = .ok (.getfield 17, 3) := by decide +kernel
theorem dX1_keep_14 : decode cX1_keep 14 = .ok (.iconst 1, 1) := by decide +kernel
theorem dX1_keep_15 : decode cX1_keep 15 = .ok (.iadd, 1) := by decide +kernel
theorem dX1_keep_16 : decode cX1_keep 16 = .ok (.putfield 17, 3) := by decide +kernel
theorem dX1_keep_19 : decode cX1_keep 19 = .ok (.goto 7, 3) := by decide +kernel
theorem dX1_keep_22 : decode cX1_keep 22 = .ok (.aload_n 0, 1) := by decide +kernel
theorem dX1_keep_23 : decode cX1_keep 23 = .ok (.invokevirtual 29, 3) := by decide +kernel
theorem dX1_keep_26 : decode cX1_keep 26 = .ok (.aload_n 0, 1) := by decide +kernel
theorem dX1_keep_27 : decode cX1_keep 27 = .ok (.iconst 0, 1) := by decide +kernel
theorem dX1_keep_28 : decode cX1_keep 28 = .ok (.putfield 21, 3) := by decide +kernel
theorem dX1_keep_31 : decode cX1_keep 31 = .ok (.aload_n 0, 1) := by decide +kernel
theorem dX1_keep_32 : decode cX1_keep 32 = .ok (.getfield 11, 3) := by decide +kernel
theorem dX1_keep_35 : decode cX1_keep 35 = .ok (.aload_n 0, 1) := by decide +kernel
theorem dX1_keep_36 : decode cX1_keep 36 = .ok (.getfield 17, 3) := by decide +kernel
theorem dX1_keep_39 : decode cX1_keep 39 = .ok (.aaload, 1) := by decide +kernel
theorem dX1_keep_40 : decode cX1_keep 40 = .ok (.aload_n 1, 1) := by decide +kernel
theorem dX1_keep_41 : decode cX1_keep 41 = .ok (.invokevirtual 25, 3) := by decide +kernel
theorem dX1_keep_44 : decode cX1_keep 44 = .ok (.return_, 1) := by decide +kernel
theorem dX1_dropOldest_0 : decode cX1_dropOldest 0 = .ok (.aload_n 0, 1) := by decide +kernel
theorem dX1_dropOldest_1 : decode cX1_dropOldest 1 = .ok (.getfield 11, 3) := by decide +kernel
theorem dX1_dropOldest_4 : decode cX1_dropOldest 4 = .ok (.iconst 0, 1) := by decide +kernel
theorem dX1_dropOldest_5 : decode cX1_dropOldest 5 = .ok (.aaload, 1) := by decide +kernel
theorem dX1_dropOldest_6 : decode cX1_dropOldest 6 = .ok (.astore_n 1, 1) := by decide +kernel
theorem dX1_dropOldest_7 : decode cX1_dropOldest 7 = .ok (.iconst 0, 1) := by decide +kernel
theorem dX1_dropOldest_8 : decode cX1_dropOldest 8 = .ok (.istore_n 2, 1) := by decide +kernel
theorem dX1_dropOldest_9 : decode cX1_dropOldest 9 = .ok (.iload_n 2, 1) := by decide +kernel
theorem dX1_dropOldest_10 : decode cX1_dropOldest 10 = .ok (.bipush 12, 2) := by decide +kernel
theorem dX1_dropOldest_12 : decode cX1_dropOldest 12 = .ok (.if_icmp .ge 23, 3) := by decide +kernel
theorem dX1_dropOldest_15 : decode cX1_dropOldest 15 = .ok (.aload_n 0, 1) := by decide +kernel
theorem dX1_dropOldest_16 : decode cX1_dropOldest 16 = .ok (.getfield 11, 3) := by decide +kernel
theorem dX1_dropOldest_19 : decode cX1_dropOldest 19 = .ok (.iload_n 2, 1) := by decide +kernel
theorem dX1_dropOldest_20 : decode cX1_dropOldest 20 = .ok (.aload_n 0, 1) := by decide +kernel
theorem dX1_dropOldest_21 : decode cX1_dropOldest 21 = .ok (.getfield 11, 3) := by decide +kernel
theorem dX1_dropOldest_24 : decode cX1_dropOldest 24 = .ok (.iload_n 2, 1) := by decide +kernel
theorem dX1_dropOldest_25 : decode cX1_dropOldest 25 = .ok (.iconst 1, 1) := by decide +kernel
theorem dX1_dropOldest_26 : decode cX1_dropOldest 26 = .ok (.iadd, 1) := by decide +kernel
theorem dX1_dropOldest_27 : decode cX1_dropOldest 27 = .ok (.aaload, 1) := by decide +kernel
theorem dX1_dropOldest_28 : decode cX1_dropOldest 28 = .ok (.aastore, 1) := by decide +kernel
theorem dX1_dropOldest_29 : decode cX1_dropOldest 29 = .ok (.iinc 2 1, 3) := by decide +kernel
theorem dX1_dropOldest_32 : decode cX1_dropOldest 32 = .ok (.goto (-23), 3) := by decide +kernel
theorem dX1_dropOldest_35 : decode cX1_dropOldest 35 = .ok (.aload_n 0, 1) := by decide +kernel
theorem dX1_dropOldest_36 : decode cX1_dropOldest 36 = .ok (.getfield 11, 3) := by decide +kernel
theorem dX1_dropOldest_39 : decode cX1_dropOldest 39 = .ok (.bipush 12, 2) := by decide +kernel
theorem dX1_dropOldest_41 : decode cX1_dropOldest 41 = .ok (.aload_n 1, 1) := by decide +kernel
theorem dX1_dropOldest_42 : decode cX1_dropOldest 42 = .ok (.aastore, 1) := by decide +kernel
theorem dX1_dropOldest_43 : decode cX1_dropOldest 43 = .ok (.return_, 1) := by decide +kernel
set_option maxRecDepth 20000 in
theorem ggX1_stepBack_X0_copyFrom : GoodIn wsX1_stepBack wsX0_copyFrom := goodIn_r _ [8, 9, 10, 11, 12, 13, 14, 15, 16, 17, 18, 19, 20, 21, 25, 26, 27, 28, 29, 30, 31, 32, 33] (by decide +kernel) (by decide +kernel)
set_option maxRecDepth 20000 in
theorem gX1_stepBack_X0_copyFrom : GoodIn wsX1_stepBack (wsV RX1 25 RX0 yX0_copyFrom wsX0_copyFrom) := goodIn_app (goodIn_of _ (by decide +kernel)) ggX1_stepBack_X0_copyFrom
theorem dX1_stepBack_0 : decode cX1_stepBack 0 = .ok (.aload_n 0, 1) := by decide +kernel
theorem dX1_stepBack_1 : decode cX1_stepBack 1 = .ok (.getfield 17, 3) := by decide +kernel
theorem dX1_stepBack_4 : decode cX1_stepBack 4 = .ok (.ifCond .ne 5, 3) := by decide +kernel
theorem dX1_stepBack_7 : decode cX1_stepBack 7 = .ok (.iconst 0, 1) := by decide +kernel
theorem dX1_stepBack_8 : decode cX1_stepBack 8 = .ok (.ireturn, 1) := by decide +kernel
theorem dX1_stepBack_9 : decode cX1_stepBack 9 = .ok (.aload_n 0, 1) := by decide +kernel
theorem dX1_stepBack_10 : decode cX1_stepBack 10 = .ok (.dup, 1) := by decide +kernel
theorem dX1_stepBack_11 : decode cX1_stepBack 11 = .ok (.getfield 17, 3) := by decide +kernel
theorem dX1_stepBack_14 : decode cX1_stepBack 14 = .ok (.iconst 1, 1) := by decide +kernel
theorem dX1_stepBack_15 : decode cX1_stepBack 15 = .ok (.isub, 1) := by decide +kernel
theorem dX1_stepBack_16 : decode cX1_stepBack 16 = .ok (.putfield 17, 3) := by decide +kernel
theorem dX1_stepBack_19 : decode cX1_stepBack 19 = .ok (.aload_n 0, 1) := by decide +kernel
theorem dX1_stepBack_20 : decode cX1_stepBack 20 = .ok (.dup, 1) := by decide +kernel
theorem dX1_stepBack_21 : decode cX1_stepBack 21 = .ok (.getfield 21, 3) := by decide +kernel
theorem dX1_stepBack_24 : decode cX1_stepBack 24 = .ok (.iconst 1, 1) := by decide +kernel
theorem dX1_stepBack_25 : decode cX1_stepBack 25 = .ok (.iadd, 1) := by decide +kernel
theorem dX1_stepBack_26 : decode cX1_stepBack 26 = .ok (.putfield 21, 3) := by decide +kernel
theorem dX1_stepBack_29 : decode cX1_stepBack 29 = .ok (.aload_n 1, 1) := by decide +kernel
theorem dX1_stepBack_30 : decode cX1_stepBack 30 = .ok (.aload_n 0, 1) := by decide +kernel
theorem dX1_stepBack_31 : decode cX1_stepBack 31 = .ok (.getfield 11, 3) := by decide +kernel
theorem dX1_stepBack_34 : decode cX1_stepBack 34 = .ok (.aload_n 0, 1) := by decide +kernel
theorem dX1_stepBack_35 : decode cX1_stepBack 35 = .ok (.getfield 17, 3) := by decide +kernel
theorem dX1_stepBack_38 : decode cX1_stepBack 38 = .ok (.aaload, 1) := by decide +kernel
theorem dX1_stepBack_39 : decode cX1_stepBack 39 = .ok (.invokevirtual 25, 3) := by decide +kernel
theorem dX1_stepBack_42 : decode cX1_stepBack 42 = .ok (.iconst 1, 1) := by decide +kernel
theorem dX1_stepBack_43 : decode cX1_stepBack 43 = .ok (.ireturn, 1) := by decide +kernel
set_option maxRecDepth 20000 in
theorem ggX1_stepOn_X0_copyFrom : GoodIn wsX1_stepOn wsX0_copyFrom := goodIn_r _ [8, 9, 10, 11, 12, 13, 14, 15, 16, 17, 18, 19, 20, 21, 25, 26, 27, 28, 29, 30, 31, 32, 33] (by decide +kernel) (by decide +kernel)
set_option maxRecDepth 20000 in
theorem gX1_stepOn_X0_copyFrom : GoodIn wsX1_stepOn (wsV RX1 25 RX0 yX0_copyFrom wsX0_copyFrom) := goodIn_app (goodIn_of _ (by decide +kernel)) ggX1_stepOn_X0_copyFrom
theorem dX1_stepOn_0 : decode cX1_stepOn 0 = .ok (.aload_n 0, 1) := by decide +kernel
theorem dX1_stepOn_1 : decode cX1_stepOn 1 = .ok (.getfield 21, 3) := by decide +kernel
theorem dX1_stepOn_4 : decode cX1_stepOn 4 = .ok (.ifCond .eq 12, 3) := by decide +kernel
theorem dX1_stepOn_7 : decode cX1_stepOn 7 = .ok (.aload_n 0, 1) := by decide +kernel
theorem dX1_stepOn_8 : decode cX1_stepOn 8 = .ok (.getfield 17, 3) := by decide +kernel
theorem dX1_stepOn_11 : decode cX1_stepOn 11 = .ok (.bipush 12, 2) := by decide +kernel
theorem dX1_stepOn_13 : decode cX1_stepOn 13 = .ok (.if_icmp .lt 5, 3) := by decide +kernel
theorem dX1_stepOn_16 : decode cX1_stepOn 16 = .ok (.iconst 0, 1) := by decide +kernel
theorem dX1_stepOn_17 : decode cX1_stepOn 17 = .ok (.ireturn, 1) := by decide +kernel
theorem dX1_stepOn_18 : decode cX1_stepOn 18 = .ok (.aload_n 0, 1) := by decide +kernel
theorem dX1_stepOn_19 : decode cX1_stepOn 19 = .ok (.dup, 1) := by decide +kernel
theorem dX1_stepOn_20 : decode cX1_stepOn 20 = .ok (.getfield 17, 3) := by decide +kernel
theorem dX1_stepOn_23 : decode cX1_stepOn 23 = .ok (.iconst 1, 1) := by decide +kernel
theorem dX1_stepOn_24 : decode cX1_stepOn 24 = .ok (.iadd, 1) := by decide +kernel
theorem dX1_stepOn_25 : decode cX1_stepOn 25 = .ok (.putfield 17, 3) := by decide +kernel
theorem dX1_stepOn_28 : decode cX1_stepOn 28 = .ok (.aload_n 0, 1) := by decide +kernel
theorem dX1_stepOn_29 : decode cX1_stepOn 29 = .ok (.dup, 1) := by decide +kernel
theorem dX1_stepOn_30 : decode cX1_stepOn 30 = .ok (.getfield 21, 3) := by decide +kernel
theorem dX1_stepOn_33 : decode cX1_stepOn 33 = .ok (.iconst 1, 1) := by decide +kernel
theorem dX1_stepOn_34 : decode cX1_stepOn 34 = .ok (.isub, 1) := by decide +kernel
theorem dX1_stepOn_35 : decode cX1_stepOn 35 = .ok (.putfield 21, 3) := by decide +kernel
theorem dX1_stepOn_38 : decode cX1_stepOn 38 = .ok (.aload_n 1, 1) := by decide +kernel
theorem dX1_stepOn_39 : decode cX1_stepOn 39 = .ok (.aload_n 0, 1) := by decide +kernel
theorem dX1_stepOn_40 : decode cX1_stepOn 40 = .ok (.getfield 11, 3) := by decide +kernel
theorem dX1_stepOn_43 : decode cX1_stepOn 43 = .ok (.aload_n 0, 1) := by decide +kernel
theorem dX1_stepOn_44 : decode cX1_stepOn 44 = .ok (.getfield 17, 3) := by decide +kernel
theorem dX1_stepOn_47 : decode cX1_stepOn 47 = .ok (.aaload, 1) := by decide +kernel
theorem dX1_stepOn_48 : decode cX1_stepOn 48 = .ok (.invokevirtual 25, 3) := by decide +kernel
theorem dX1_stepOn_51 : decode cX1_stepOn 51 = .ok (.iconst 1, 1) := by decide +kernel
theorem dX1_stepOn_52 : decode cX1_stepOn 52 = .ok (.ireturn, 1) := by decide +kernel
theorem dX2_init_0 : decode cX2_init 0 = .ok (.aload_n 0, 1) := by decide +kernel
theorem dX2_init_1 : decode cX2_init 1 = .ok (.invokespecial 3, 3) := by decide +kernel
theorem dX2_init_4 : decode cX2_init 4 = .ok (.aload_n 0, 1) := by decide +kernel
theorem dX2_init_5 : decode cX2_init 5 = .ok (.sipush 2000, 3) := by decide +kernel
theorem dX2_init_8 : decode cX2_init 8 = .ok (.newarray .int, 2) := by decide +kernel
theorem dX2_init_10 : decode cX2_init 10 = .ok (.putfield 9, 3) := by decide +kernel
theorem dX2_init_13 : decode cX2_init 13 = .ok (.aload_n 0, 1) := by decide +kernel
theorem dX2_init_14 : decode cX2_init 14 = .ok (.iconst 0, 1) := by decide +kernel
theorem dX2_init_15 : decode cX2_init 15 = .ok (.putfield 15, 3) := by decide +kernel
theorem dX2_init_18 : decode cX2_init 18 = .ok (.return_, 1) := by decide +kernel
set_option maxRecDepth 20000 in
theorem ggX2_printProof_X3_tagAt : GoodIn wsX2_printProof wsX3_tagAt := goodIn_r _ [8, 9, 29, 30, 31, 32] (by decide +kernel) (by decide +kernel)
set_option maxRecDepth 20000 in
theorem gX2_printProof_X3_tagAt : GoodIn wsX2_printProof (wsV RX2 26 RX3 yX3_tagAt wsX3_tagAt) := goodIn_app (goodIn_of _ (by decide +kernel)) ggX2_printProof_X3_tagAt
set_option maxRecDepth 20000 in
theorem ggX2_printProof_X2_put : GoodIn wsX2_printProof wsX2_put := goodIn_r _ [14, 1, 15, 27, 28] (by decide +kernel) (by decide +kernel)
set_option maxRecDepth 20000 in
theorem gX2_printProof_X2_put : GoodIn wsX2_printProof (wsV RX2 30 RX2 yX2_put wsX2_put) := goodIn_app (goodIn_of _ (by decide +kernel)) ggX2_printProof_X2_put
set_option maxRecDepth 20000 in
theorem ggX2_printProof_X3_literalAt : GoodIn wsX2_printProof wsX3_literalAt := goodIn_r _ [19, 9, 29, 30, 31, 32] (by decide +kernel) (by decide +kernel)
set_option maxRecDepth 20000 in
theorem gX2_printProof_X3_literalAt : GoodIn wsX2_printProof (wsV RX2 34 RX3 yX3_literalAt wsX3_literalAt) := goodIn_app (goodIn_of _ (by decide +kernel)) ggX2_printProof_X3_literalAt
set_option maxRecDepth 20000 in
theorem ggX2_printProof_X2_putLiteral : GoodIn wsX2_printProof wsX2_putLiteral := goodIn_r _ [23, 10, 11, 12, 13, 14, 1, 15, 24, 25, 26, 27, 28] (by decide +kernel) (by decide +kernel)
set_option maxRecDepth 20000 in
theorem gX2_printProof_X2_putLiteral : GoodIn wsX2_printProof (wsV RX2 37 RX2 yX2_putLiteral wsX2_putLiteral) := goodIn_app (goodIn_of _ (by decide +kernel)) ggX2_printProof_X2_putLiteral
theorem dX2_printProof_0 : decode cX2_printProof 0 = .ok (.aload_n 0, 1) := by decide +kernel
theorem dX2_printProof_1 : decode cX2_printProof 1 = .ok (.iconst 0, 1) := by decide +kernel
theorem dX2_printProof_2 : decode cX2_printProof 2 = .ok (.putfield 15, 3) := by decide +kernel
theorem dX2_printProof_5 : decode cX2_printProof 5 = .ok (.iconst 0, 1) := by decide +kernel
theorem dX2_printProof_6 : decode cX2_printProof 6 = .ok (.istore_n 2, 1) := by decide +kernel
theorem dX2_printProof_7 : decode cX2_printProof 7 = .ok (.iload_n 2, 1) := by decide +kernel
theorem dX2_printProof_8 : decode cX2_printProof 8 = .ok (.aload_n 1, 1) := by decide +kernel
theorem dX2_printProof_9 : decode cX2_printProof 9 = .ok (.getfield 19, 3) := by decide +kernel
theorem dX2_printProof_12 : decode cX2_printProof 12 = .ok (.if_icmp .ge 37, 3) := by decide +kernel
theorem dX2_printProof_15 : decode cX2_printProof 15 = .ok (.aload_n 0, 1) := by decide +kernel
theorem dX2_printProof_16 : decode cX2_printProof 16 = .ok (.getstatic 22, 3) := by decide +kernel
theorem dX2_printProof_19 : decode cX2_printProof 19 = .ok (.aload_n 1, 1) := by decide +kernel
theorem dX2_printProof_20 : decode cX2_printProof 20 = .ok (.iload_n 2, 1) := by decide +kernel
theorem dX2_printProof_21 : decode cX2_printProof 21 = .ok (.invokevirtual 26, 3) := by decide +kernel
theorem dX2_printProof_24 : decode cX2_printProof 24 = .ok (.caload, 1) := by decide +kernel
theorem dX2_printProof_25 : decode cX2_printProof 25 = .ok (.invokevirtual 30, 3) := by decide +kernel
theorem dX2_printProof_28 : decode cX2_printProof 28 = .ok (.aload_n 0, 1) := by decide +kernel
theorem dX2_printProof_29 : decode cX2_printProof 29 = .ok (.aload_n 1, 1) := by decide +kernel
theorem dX2_printProof_30 : decode cX2_printProof 30 = .ok (.iload_n 2, 1) := by decide +kernel
theorem dX2_printProof_31 : decode cX2_printProof 31 = .ok (.invokevirtual 34, 3) := by decide +kernel
theorem dX2_printProof_34 : decode cX2_printProof 34 = .ok (.invokevirtual 37, 3) := by decide +kernel
theorem dX2_printProof_37 : decode cX2_printProof 37 = .ok (.aload_n 0, 1) := by decide +kernel
theorem dX2_printProof_38 : decode cX2_printProof 38 = .ok (.bipush 59, 2) := by decide +kernel
theorem dX2_printProof_40 : decode cX2_printProof 40 = .ok (.invokevirtual 30, 3) := by decide +kernel
theorem dX2_printProof_43 : decode cX2_printProof 43 = .ok (.iinc 2 1, 3) := by decide +kernel
theorem dX2_printProof_46 : decode cX2_printProof 46 = .ok (.goto (-39), 3) := by decide +kernel
theorem dX2_printProof_49 : decode cX2_printProof 49 = .ok (.return_, 1) := by decide +kernel
set_option maxRecDepth 20000 in
theorem ggX2_printRules_X2_putLiterals : GoodIn wsX2_printRules wsX2_putLiterals := goodIn_r _ [13, 14, 15, 16, 17, 18, 19, 12, 20, 1, 21, 22, 23, 24, 25, 26, 27, 28, 29] (by decide +kernel) (by decide +kernel)
set_option maxRecDepth 20000 in
theorem gX2_printRules_X2_putLiterals : GoodIn wsX2_printRules (wsV RX2 48 RX2 yX2_putLiterals wsX2_putLiterals) := goodIn_app (goodIn_of _ (by decide +kernel)) ggX2_printRules_X2_putLiterals
set_option maxRecDepth 20000 in
theorem ggX2_printRules_X2_put : GoodIn wsX2_printRules wsX2_put := goodIn_r _ [20, 1, 21, 28, 29] (by decide +kernel) (by decide +kernel)
set_option maxRecDepth 20000 in
theorem gX2_printRules_X2_put : GoodIn wsX2_printRules (wsV RX2 30 RX2 yX2_put wsX2_put) := goodIn_app (goodIn_of _ (by decide +kernel)) ggX2_printRules_X2_put
set_option maxRecDepth 20000 in
theorem ggX2_printRules_X2_putLiteral : GoodIn wsX2_printRules wsX2_putLiteral := goodIn_r _ [25, 17, 18, 19, 12, 20, 1, 21, 26, 15, 27, 28, 29] (by decide +kernel) (by decide +kernel)
set_option maxRecDepth 20000 in
theorem gX2_printRules_X2_putLiteral : GoodIn wsX2_printRules (wsV RX2 37 RX2 yX2_putLiteral wsX2_putLiteral) := goodIn_app (goodIn_of _ (by decide +kernel)) ggX2_printRules_X2_putLiteral
theorem dX2_printRules_0 : decode cX2_printRules 0 = .ok (.aload_n 0, 1) := by decide +kernel
theorem dX2_printRules_1 : decode cX2_printRules 1 = .ok (.iconst 0, 1) := by decide +kernel
theorem dX2_printRules_2 : decode cX2_printRules 2 = .ok (.putfield 15, 3) := by decide +kernel
theorem dX2_printRules_5 : decode cX2_printRules 5 = .ok (.iconst 0, 1) := by decide +kernel
theorem dX2_printRules_6 : decode cX2_printRules 6 = .ok (.istore_n 2, 1) := by decide +kernel
theorem dX2_printRules_7 : decode cX2_printRules 7 = .ok (.iload_n 2, 1) := by decide +kernel
theorem dX2_printRules_8 : decode cX2_printRules 8 = .ok (.aload_n 1, 1) := by decide +kernel
theorem dX2_printRules_9 : decode cX2_printRules 9 = .ok (.getfield 40, 3) := by decide +kernel
theorem dX2_printRules_12 : decode cX2_printRules 12 = .ok (.if_icmp .ge 99, 3) := by decide +kernel
theorem dX2_printRules_15 : decode cX2_printRules 15 = .ok (.aload_n 0, 1) := by decide +kernel
theorem dX2_printRules_16 : decode cX2_printRules 16 = .ok (.aload_n 1, 1) := by decide +kernel
theorem dX2_printRules_17 : decode cX2_printRules 17 = .ok (.getfield 45, 3) := by decide +kernel
theorem dX2_printRules_20 : decode cX2_printRules 20 = .ok (.iload_n 2, 1) := by decide +kernel
theorem dX2_printRules_21 : decode cX2_printRules 21 = .ok (.iaload, 1) := by decide +kernel
theorem dX2_printRules_22 : decode cX2_printRules 22 = .ok (.invokevirtual 48, 3) := by decide +kernel
theorem dX2_printRules_25 : decode cX2_printRules 25 = .ok (.aload_n 0, 1) := by decide +kernel
theorem dX2_printRules_26 : decode cX2_printRules 26 = .ok (.getstatic 51, 3) := by decide +kernel
theorem dX2_printRules_29 : decode cX2_printRules 29 = .ok (.aload_n 1, 1) := by decide +kernel
theorem dX2_printRules_30 : decode cX2_printRules 30 = .ok (.getfield 54, 3) := by decide +kernel
theorem dX2_printRules_33 : decode cX2_printRules 33 = .ok (.iload_n 2, 1) := by decide +kernel
theorem dX2_printRules_34 : decode cX2_printRules 34 = .ok (.iaload, 1) := by decide +kernel
theorem dX2_printRules_35 : decode cX2_printRules 35 = .ok (.caload, 1) := by decide +kernel
theorem dX2_printRules_36 : decode cX2_printRules 36 = .ok (.invokevirtual 30, 3) := by decide +kernel
theorem dX2_printRules_39 : decode cX2_printRules 39 = .ok (.aload_n 0, 1) := by decide +kernel
theorem dX2_printRules_40 : decode cX2_printRules 40 = .ok (.bipush 62, 2) := by decide +kernel
theorem dX2_printRules_42 : decode cX2_printRules 42 = .ok (.invokevirtual 30, 3) := by decide +kernel
theorem dX2_printRules_45 : decode cX2_printRules 45 = .ok (.aload_n 0, 1) := by decide +kernel
theorem dX2_printRules_46 : decode cX2_printRules 46 = .ok (.aload_n 1, 1) := by decide +kernel
theorem dX2_printRules_47 : decode cX2_printRules 47 = .ok (.getfield 57, 3) := by decide +kernel
theorem dX2_printRules_50 : decode cX2_printRules 50 = .ok (.iload_n 2, 1) := by decide +kernel
theorem dX2_printRules_51 : decode cX2_printRules 51 = .ok (.iaload, 1) := by decide +kernel
theorem dX2_printRules_52 : decode cX2_printRules 52 = .ok (.invokevirtual 37, 3) := by decide +kernel
theorem dX2_printRules_55 : decode cX2_printRules 55 = .ok (.aload_n 1, 1) := by decide +kernel
theorem dX2_printRules_56 : decode cX2_printRules 56 = .ok (.getfield 60, 3) := by decide +kernel
theorem dX2_printRules_59 : decode cX2_printRules 59 = .ok (.iload_n 2, 1) := by decide +kernel
theorem dX2_printRules_60 : decode cX2_printRules 60 = .ok (.iaload, 1) := by decide +kernel
theorem dX2_printRules_61 : decode cX2_printRules 61 = .ok (.ifCond .eq 19, 3) := by decide +kernel
theorem dX2_printRules_64 : decode cX2_printRules 64 = .ok (.aload_n 0, 1) := by decide +kernel
theorem dX2_printRules_65 : decode cX2_printRules 65 = .ok (.bipush 63, 2) := by decide +kernel
theorem dX2_printRules_67 : decode cX2_printRules 67 = .ok (.invokevirtual 30, 3) := by decide +kernel
theorem dX2_printRules_70 : decode cX2_printRules 70 = .ok (.aload_n 0, 1) := by decide +kernel
theorem dX2_printRules_71 : decode cX2_printRules 71 = .ok (.aload_n 1, 1) := by decide +kernel
theorem dX2_printRules_72 : decode cX2_printRules 72 = .ok (.getfield 60, 3) := by decide +kernel
theorem dX2_printRules_75 : decode cX2_printRules 75 = .ok (.iload_n 2, 1) := by decide +kernel
theorem dX2_printRules_76 : decode cX2_printRules 76 = .ok (.iaload, 1) := by decide +kernel
theorem dX2_printRules_77 : decode cX2_printRules 77 = .ok (.invokevirtual 48, 3) := by decide +kernel
theorem dX2_printRules_80 : decode cX2_printRules 80 = .ok (.aload_n 0, 1) := by decide +kernel
theorem dX2_printRules_81 : decode cX2_printRules 81 = .ok (.bipush 42, 2) := by decide +kernel
theorem dX2_printRules_83 : decode cX2_printRules 83 = .ok (.invokevirtual 30, 3) := by decide +kernel
theorem dX2_printRules_86 : decode cX2_printRules 86 = .ok (.aload_n 0, 1) := by decide +kernel
theorem dX2_printRules_87 : decode cX2_printRules 87 = .ok (.bipush 48, 2) := by decide +kernel
theorem dX2_printRules_89 : decode cX2_printRules 89 = .ok (.aload_n 1, 1) := by decide +kernel
theorem dX2_printRules_90 : decode cX2_printRules 90 = .ok (.getfield 63, 3) := by decide +kernel
theorem dX2_printRules_93 : decode cX2_printRules 93 = .ok (.iload_n 2, 1) := by decide +kernel
theorem dX2_printRules_94 : decode cX2_printRules 94 = .ok (.iaload, 1) := by decide +kernel
theorem dX2_printRules_95 : decode cX2_printRules 95 = .ok (.iadd, 1) := by decide +kernel
theorem dX2_printRules_96 : decode cX2_printRules 96 = .ok (.invokevirtual 30, 3) := by decide +kernel
theorem dX2_printRules_99 : decode cX2_printRules 99 = .ok (.aload_n 0, 1) := by decide +kernel
theorem dX2_printRules_100 : decode cX2_printRules 100 = .ok (.bipush 59, 2) := by decide +kernel
theorem dX2_printRules_102 : decode cX2_printRules 102 = .ok (.invokevirtual 30, 3) := by decide +kernel
theorem dX2_printRules_105 : decode cX2_printRules 105 = .ok (.iinc 2 1, 3) := by decide +kernel
theorem dX2_printRules_108 : decode cX2_printRules 108 = .ok (.goto (-101), 3) := by decide +kernel
theorem dX2_printRules_111 : decode cX2_printRules 111 = .ok (.return_, 1) := by decide +kernel
set_option maxRecDepth 20000 in
theorem ggX2_putLiterals_X8_has : GoodIn wsX2_putLiterals wsX8_has := goodIn_r _ [3] (by decide +kernel) (by decide +kernel)
set_option maxRecDepth 20000 in
theorem gX2_putLiterals_X8_has_n66 : GoodIn wsX2_putLiterals (wsX8_has) := ggX2_putLiterals_X8_has
set_option maxRecDepth 20000 in
theorem ggX2_putLiterals_X2_put : GoodIn wsX2_putLiterals wsX2_put := goodIn_r _ [8, 9, 10, 17, 18] (by decide +kernel) (by decide +kernel)
set_option maxRecDepth 20000 in
theorem gX2_putLiterals_X2_put : GoodIn wsX2_putLiterals (wsV RX2 30 RX2 yX2_put wsX2_put) := goodIn_app (goodIn_of _ (by decide +kernel)) ggX2_putLiterals_X2_put
set_option maxRecDepth 20000 in
theorem ggX2_putLiterals_X2_putLiteral : GoodIn wsX2_putLiterals wsX2_putLiteral := goodIn_r _ [14, 4, 5, 6, 7, 8, 9, 10, 15, 2, 16, 17, 18] (by decide +kernel) (by decide +kernel)
set_option maxRecDepth 20000 in
theorem gX2_putLiterals_X2_putLiteral : GoodIn wsX2_putLiterals (wsV RX2 37 RX2 yX2_putLiteral wsX2_putLiteral) := goodIn_app (goodIn_of _ (by decide +kernel)) ggX2_putLiterals_X2_putLiteral
theorem dX2_putLiterals_0 : decode cX2_putLiterals 0 = .ok (.iconst 1, 1) := by decide +kernel
theorem dX2_putLiterals_1 : decode cX2_putLiterals 1 = .ok (.istore_n 2, 1) := by decide +kernel
theorem dX2_putLiterals_2 : decode cX2_putLiterals 2 = .ok (.iconst 0, 1) := by decide +kernel
theorem dX2_putLiterals_3 : decode cX2_putLiterals 3 = .ok (.istore_n 3, 1) := by decide +kernel
theorem dX2_putLiterals_4 : decode cX2_putLiterals 4 = .ok (.iload_n 3, 1) := by decide +kernel
theorem dX2_putLiterals_5 : decode cX2_putLiterals 5 = .ok (.bipush 20, 2) := by decide +kernel
theorem dX2_putLiterals_7 : decode cX2_putLiterals 7 = .ok (.if_icmp .ge 34, 3) := by decide +kernel
theorem dX2_putLiterals_10 : decode cX2_putLiterals 10 = .ok (.iload_n 1, 1) := by decide +kernel
theorem dX2_putLiterals_11 : decode cX2_putLiterals 11 = .ok (.iload_n 3, 1) := by decide +kernel
theorem dX2_putLiterals_12 : decode cX2_putLiterals 12 = .ok (.invokestatic 66, 3) := by decide +kernel
theorem dX2_putLiterals_15 : decode cX2_putLiterals 15 = .ok (.ifCond .eq 20, 3) := by decide +kernel
theorem dX2_putLiterals_18 : decode cX2_putLiterals 18 = .ok (.iload_n 2, 1) := by decide +kernel
theorem dX2_putLiterals_19 : decode cX2_putLiterals 19 = .ok (.ifCond .ne 9, 3) := by decide +kernel
theorem dX2_putLiterals_22 : decode cX2_putLiterals 22 = .ok (.aload_n 0, 1) := by decide +kernel
theorem dX2_putLiterals_23 : decode cX2_putLiterals 23 = .ok (.bipush 44, 2) := by decide +kernel
theorem dX2_putLiterals_25 : decode cX2_putLiterals 25 = .ok (.invokevirtual 30, 3) := by decide +kernel
theorem dX2_putLiterals_28 : decode cX2_putLiterals 28 = .ok (.iconst 0, 1) := by decide +kernel
theorem dX2_putLiterals_29 : decode cX2_putLiterals 29 = .ok (.istore_n 2, 1) := by decide +kernel
theorem dX2_putLiterals_30 : decode cX2_putLiterals 30 = .ok (.aload_n 0, 1) := by decide +kernel
theorem dX2_putLiterals_31 : decode cX2_putLiterals 31 = .ok (.iload_n 3, 1) := by decide +kernel
theorem dX2_putLiterals_32 : decode cX2_putLiterals 32 = .ok (.invokevirtual 37, 3) := by decide +kernel
theorem dX2_putLiterals_35 : decode cX2_putLiterals 35 = .ok (.iinc 3 1, 3) := by decide +kernel
theorem dX2_putLiterals_38 : decode cX2_putLiterals 38 = .ok (.goto (-34), 3) := by decide +kernel
theorem dX2_putLiterals_41 : decode cX2_putLiterals 41 = .ok (.return_, 1) := by decide +kernel
set_option maxRecDepth 20000 in
theorem ggX2_putLiteral_X2_put : GoodIn wsX2_putLiteral wsX2_put := goodIn_r _ [5, 6, 7, 11, 12] (by decide +kernel) (by decide +kernel)
set_option maxRecDepth 20000 in
theorem gX2_putLiteral_X2_put : GoodIn wsX2_putLiteral (wsV RX2 30 RX2 yX2_put wsX2_put) := goodIn_app (goodIn_of _ (by decide +kernel)) ggX2_putLiteral_X2_put
set_option maxRecDepth 20000 in
theorem ggX2_putLiteral_X8_otherOf : GoodIn wsX2_putLiteral wsX8_otherOf := goodIn_r _ [10] (by decide +kernel) (by decide +kernel)
set_option maxRecDepth 20000 in
theorem gX2_putLiteral_X8_otherOf_n70 : GoodIn wsX2_putLiteral (wsX8_otherOf) := ggX2_putLiteral_X8_otherOf
theorem dX2_putLiteral_0 : decode cX2_putLiteral 0 = .ok (.iload_n 1, 1) := by decide +kernel
theorem dX2_putLiteral_1 : decode cX2_putLiteral 1 = .ok (.bipush 10, 2) := by decide +kernel
theorem dX2_putLiteral_3 : decode cX2_putLiteral 3 = .ok (.if_icmp .lt 23, 3) := by decide +kernel
theorem dX2_putLiteral_6 : decode cX2_putLiteral 6 = .ok (.aload_n 0, 1) := by decide +kernel
theorem dX2_putLiteral_7 : decode cX2_putLiteral 7 = .ok (.bipush 126, 2) := by decide +kernel
theorem dX2_putLiteral_9 : decode cX2_putLiteral 9 = .ok (.invokevirtual 30, 3) := by decide +kernel
theorem dX2_putLiteral_12 : decode cX2_putLiteral 12 = .ok (.aload_n 0, 1) := by decide +kernel
theorem dX2_putLiteral_13 : decode cX2_putLiteral 13 = .ok (.bipush 97, 2) := by decide +kernel
theorem dX2_putLiteral_15 : decode cX2_putLiteral 15 = .ok (.iload_n 1, 1) := by decide +kernel
theorem dX2_putLiteral_16 : decode cX2_putLiteral 16 = .ok (.invokestatic 70, 3) := by decide +kernel
theorem dX2_putLiteral_19 : decode cX2_putLiteral 19 = .ok (.iadd, 1) := by decide +kernel
theorem dX2_putLiteral_20 : decode cX2_putLiteral 20 = .ok (.invokevirtual 30, 3) := by decide +kernel
theorem dX2_putLiteral_23 : decode cX2_putLiteral 23 = .ok (.goto 11, 3) := by decide +kernel
theorem dX2_putLiteral_26 : decode cX2_putLiteral 26 = .ok (.aload_n 0, 1) := by decide +kernel
theorem dX2_putLiteral_27 : decode cX2_putLiteral 27 = .ok (.bipush 97, 2) := by decide +kernel
theorem dX2_putLiteral_29 : decode cX2_putLiteral 29 = .ok (.iload_n 1, 1) := by decide +kernel
theorem dX2_putLiteral_30 : decode cX2_putLiteral 30 = .ok (.iadd, 1) := by decide +kernel
theorem dX2_putLiteral_31 : decode cX2_putLiteral 31 = .ok (.invokevirtual 30, 3) := by decide +kernel
theorem dX2_putLiteral_34 : decode cX2_putLiteral 34 = .ok (.return_, 1) := by decide +kernel
theorem dX2_put_0 : decode cX2_put 0 = .ok (.aload_n 0, 1) := by decide +kernel
theorem dX2_put_1 : decode cX2_put 1 = .ok (.getfield 15, 3) := by decide +kernel
theorem dX2_put_4 : decode cX2_put 4 = .ok (.sipush 2000, 3) := by decide +kernel
theorem dX2_put_7 : decode cX2_put 7 = .ok (.if_icmp .ge 23, 3) := by decide +kernel
theorem dX2_put_10 : decode cX2_put 10 = .ok (.aload_n 0, 1) := by decide +kernel
theorem dX2_put_11 : decode cX2_put 11 = .ok (.getfield 9, 3) := by decide +kernel
theorem dX2_put_14 : decode cX2_put 14 = .ok (.aload_n 0, 1) := by decide +kernel
theorem dX2_put_15 : decode cX2_put 15 = .ok (.getfield 15, 3) := by decide +kernel
theorem dX2_put_18 : decode cX2_put 18 = .ok (.iload_n 1, 1) := by decide +kernel
theorem dX2_put_19 : decode cX2_put 19 = .ok (.iastore, 1) := by decide +kernel
theorem dX2_put_20 : decode cX2_put 20 = .ok (.aload_n 0, 1) := by decide +kernel
theorem dX2_put_21 : decode cX2_put 21 = .ok (.dup, 1) := by decide +kernel
theorem dX2_put_22 : decode cX2_put 22 = .ok (.getfield 15, 3) := by decide +kernel
theorem dX2_put_25 : decode cX2_put 25 = .ok (.iconst 1, 1) := by decide +kernel
theorem dX2_put_26 : decode cX2_put 26 = .ok (.iadd, 1) := by decide +kernel
theorem dX2_put_27 : decode cX2_put 27 = .ok (.putfield 15, 3) := by decide +kernel
theorem dX2_put_30 : decode cX2_put 30 = .ok (.return_, 1) := by decide +kernel
set_option maxRecDepth 20000 in
theorem ggX3_init_X6_init : GoodIn wsX3_init wsX6_init := goodIn_r _ [13, 14, 2, 3, 8, 15, 16, 17, 18, 19, 20, 21, 22, 23, 24, 25, 26, 27, 28, 29, 30, 31, 32, 33, 34, 35, 36, 37, 38] (by decide +kernel) (by decide +kernel)
set_option maxRecDepth 20000 in
theorem gX3_init_X6_init_n11 : GoodIn wsX3_init (wsX6_init) := ggX3_init_X6_init
theorem dX3_init_0 : decode cX3_init 0 = .ok (.aload_n 0, 1) := by decide +kernel
theorem dX3_init_1 : decode cX3_init 1 = .ok (.invokespecial 3, 3) := by decide +kernel
theorem dX3_init_4 : decode cX3_init 4 = .ok (.aload_n 0, 1) := by decide +kernel
theorem dX3_init_5 : decode cX3_init 5 = .ok (.new 9, 3) := by decide +kernel
theorem dX3_init_8 : decode cX3_init 8 = .ok (.dup, 1) := by decide +kernel
theorem dX3_init_9 : decode cX3_init 9 = .ok (.invokespecial 11, 3) := by decide +kernel
theorem dX3_init_12 : decode cX3_init 12 = .ok (.putfield 12, 3) := by decide +kernel
theorem dX3_init_15 : decode cX3_init 15 = .ok (.aload_n 0, 1) := by decide +kernel
theorem dX3_init_16 : decode cX3_init 16 = .ok (.iconst 4, 1) := by decide +kernel
theorem dX3_init_17 : decode cX3_init 17 = .ok (.newarray .int, 2) := by decide +kernel
theorem dX3_init_19 : decode cX3_init 19 = .ok (.putfield 18, 3) := by decide +kernel
theorem dX3_init_22 : decode cX3_init 22 = .ok (.aload_n 0, 1) := by decide +kernel
theorem dX3_init_23 : decode cX3_init 23 = .ok (.bipush 80, 2) := by decide +kernel
theorem dX3_init_25 : decode cX3_init 25 = .ok (.newarray .int, 2) := by decide +kernel
theorem dX3_init_27 : decode cX3_init 27 = .ok (.putfield 22, 3) := by decide +kernel
theorem dX3_init_30 : decode cX3_init 30 = .ok (.aload_n 0, 1) := by decide +kernel
theorem dX3_init_31 : decode cX3_init 31 = .ok (.iconst 0, 1) := by decide +kernel
theorem dX3_init_32 : decode cX3_init 32 = .ok (.putfield 25, 3) := by decide +kernel
theorem dX3_init_35 : decode cX3_init 35 = .ok (.return_, 1) := by decide +kernel
set_option maxRecDepth 20000 in
theorem ggX3_build_X4_roundOf : GoodIn wsX3_build wsX4_roundOf := goodIn_r _ [8, 9, 157, 158, 159] (by decide +kernel) (by decide +kernel)
set_option maxRecDepth 20000 in
theorem gX3_build_X4_roundOf : GoodIn wsX3_build (wsV RX3 29 RX4 yX4_roundOf wsX4_roundOf) := goodIn_app (goodIn_of _ (by decide +kernel)) ggX3_build_X4_roundOf
set_option maxRecDepth 20000 in
theorem ggX3_build_J7_fill_53178 : GoodIn wsX3_build wsJ7_fill_53178 := goodIn_r _ [13] (by decide +kernel) (by decide +kernel)
set_option maxRecDepth 20000 in
theorem gX3_build_J7_fill_53178 : GoodIn wsX3_build (va_wsS RX3 35 yJ7_fill_53178 wsJ7_fill_53178) := goodIn_app (goodIn_of _ (by decide +kernel)) ggX3_build_J7_fill_53178
set_option maxRecDepth 20000 in
theorem ggX3_build_X6_enter : GoodIn wsX3_build wsX6_enter := goodIn_r _ [18, 19, 20, 21, 22, 23, 24, 25, 26, 27, 28, 29, 30, 11, 12, 13, 31, 32, 33, 34, 35, 36, 37, 38, 39, 40, 41, 42, 43, 44, 45, 46, 47, 48, 17, 49, 160, 161, 162, 163, 164, 165, 166, 167, 168, 169, 170, 171, 172, 173, 174, 175, 176, 177, 178, 179, 180] (by decide +kernel) (by decide +kernel)
set_option maxRecDepth 20000 in
theorem gX3_build_X6_enter : GoodIn wsX3_build (wsV RX3 41 RX6 yX6_enter wsX6_enter) := goodIn_app (goodIn_of _ (by decide +kernel)) ggX3_build_X6_enter
set_option maxRecDepth 20000 in
theorem ggX3_build_X3_lookAheadOf : GoodIn wsX3_build wsX3_lookAheadOf := goodIn_r _ [54, 2, 55, 56, 57, 58, 7, 59, 60, 5, 6, 8, 9, 61, 62, 63, 17, 64, 65, 66, 67, 68, 26, 69, 70, 71, 72, 73, 74, 19, 153, 154, 155, 156, 160, 161, 162, 163, 164, 165, 166, 167, 168, 169, 170, 171, 157, 158, 159, 172, 173, 174, 175, 176, 177, 178, 179, 180] (by decide +kernel) (by decide +kernel)
set_option maxRecDepth 20000 in
theorem gX3_build_X3_lookAheadOf : GoodIn wsX3_build (wsV RX3 45 RX3 yX3_lookAheadOf wsX3_lookAheadOf) := goodIn_app (goodIn_of _ (by decide +kernel)) ggX3_build_X3_lookAheadOf
set_option maxRecDepth 20000 in
theorem ggX3_build_X3_wantNeeds : GoodIn wsX3_build wsX3_wantNeeds := goodIn_r _ [78, 79, 80, 81, 53, 82, 1, 43, 44, 45, 4, 5, 6, 7, 8, 9, 83, 84, 85, 86, 2, 87, 88, 89, 90, 91, 92, 93, 94, 95, 96, 97, 55, 98, 99, 100, 101, 102, 103, 104, 105, 106, 107, 108, 109, 110, 17, 111, 21, 65, 112, 113, 114, 115, 116, 117, 118, 119, 120, 121, 122, 123, 124, 125, 126, 127, 128, 129, 130, 131, 132, 133, 134, 66, 135, 136, 137, 138, 139, 140, 141, 142, 22, 143, 144, 145, 146, 147, 23, 153, 154, 155, 156, 157, 158, 159, 160, 161, 162, 163, 164, 165, 166, 167, 168, 169, 170, 171, 172, 173, 174, 175, 176, 177, 178, 179, 180] (by decide +kernel) (by decide +kernel)
set_option maxRecDepth 20000 in
theorem gX3_build_X3_wantNeeds : GoodIn wsX3_build (wsV RX3 49 RX3 yX3_wantNeeds wsX3_wantNeeds) := goodIn_app (goodIn_of _ (by decide +kernel)) ggX3_build_X3_wantNeeds
set_option maxRecDepth 20000 in
theorem ggX3_build_X3_listRound : GoodIn wsX3_build wsX3_listRound := goodIn_r _ [151, 3, 152, 79, 80, 81, 53, 82, 1, 43, 44, 45, 4, 5, 6, 7, 8, 9, 153, 154, 155, 156, 157, 158, 159] (by decide +kernel) (by decide +kernel)
set_option maxRecDepth 20000 in
theorem gX3_build_X3_listRound : GoodIn wsX3_build (wsV RX3 52 RX3 yX3_listRound wsX3_listRound) := goodIn_app (goodIn_of _ (by decide +kernel)) ggX3_build_X3_listRound
theorem dX3_build_0 : decode cX3_build 0 = .ok (.aload_n 2, 1) := by decide +kernel
theorem dX3_build_1 : decode cX3_build 1 = .ok (.iload_n 3, 1) := by decide +kernel
theorem dX3_build_2 : decode cX3_build 2 = .ok (.iload 4, 2) := by decide +kernel
theorem dX3_build_4 : decode cX3_build 4 = .ok (.invokevirtual 29, 3) := by decide +kernel
theorem dX3_build_7 : decode cX3_build 7 = .ok (.istore 5, 2) := by decide +kernel
theorem dX3_build_9 : decode cX3_build 9 = .ok (.aload_n 0, 1) := by decide +kernel
theorem dX3_build_10 : decode cX3_build 10 = .ok (.getfield 18, 3) := by decide +kernel
theorem dX3_build_13 : decode cX3_build 13 = .ok (.iconst 0, 1) := by decide +kernel
theorem dX3_build_14 : decode cX3_build 14 = .ok (.invokestatic 35, 3) := by decide +kernel
theorem dX3_build_17 : decode cX3_build 17 = .ok (.aload_n 0, 1) := by decide +kernel
theorem dX3_build_18 : decode cX3_build 18 = .ok (.getfield 18, 3) := by decide +kernel
theorem dX3_build_21 : decode cX3_build 21 = .ok (.iload_n 3, 1) := by decide +kernel
theorem dX3_build_22 : decode cX3_build 22 = .ok (.iconst 1, 1) := by decide +kernel
theorem dX3_build_23 : decode cX3_build 23 = .ok (.iload 4, 2) := by decide +kernel
theorem dX3_build_25 : decode cX3_build 25 = .ok (.ishl, 1) := by decide +kernel
theorem dX3_build_26 : decode cX3_build 26 = .ok (.iastore, 1) := by decide +kernel
theorem dX3_build_27 : decode cX3_build 27 = .ok (.aload_n 0, 1) := by decide +kernel
theorem dX3_build_28 : decode cX3_build 28 = .ok (.getfield 12, 3) := by decide +kernel
theorem dX3_build_31 : decode cX3_build 31 = .ok (.aload_n 1, 1) := by decide +kernel
theorem dX3_build_32 : decode cX3_build 32 = .ok (.invokevirtual 41, 3) := by decide +kernel
theorem dX3_build_35 : decode cX3_build 35 = .ok (.iload 5, 2) := by decide +kernel
theorem dX3_build_37 : decode cX3_build 37 = .ok (.istore 6, 2) := by decide +kernel
theorem dX3_build_39 : decode cX3_build 39 = .ok (.iload 6, 2) := by decide +kernel
theorem dX3_build_41 : decode cX3_build 41 = .ok (.ifCond .le 25, 3) := by decide +kernel
theorem dX3_build_44 : decode cX3_build 44 = .ok (.aload_n 0, 1) := by decide +kernel
theorem dX3_build_45 : decode cX3_build 45 = .ok (.iload 6, 2) := by decide +kernel
theorem dX3_build_47 : decode cX3_build 47 = .ok (.aload_n 1, 1) := by decide +kernel
theorem dX3_build_48 : decode cX3_build 48 = .ok (.aload_n 2, 1) := by decide +kernel
theorem dX3_build_49 : decode cX3_build 49 = .ok (.invokevirtual 45, 3) := by decide +kernel
theorem dX3_build_52 : decode cX3_build 52 = .ok (.aload_n 0, 1) := by decide +kernel
theorem dX3_build_53 : decode cX3_build 53 = .ok (.iload 6, 2) := by decide +kernel
theorem dX3_build_55 : decode cX3_build 55 = .ok (.aload_n 1, 1) := by decide +kernel
theorem dX3_build_56 : decode cX3_build 56 = .ok (.aload_n 2, 1) := by decide +kernel
theorem dX3_build_57 : decode cX3_build 57 = .ok (.invokevirtual 49, 3) := by decide +kernel
theorem dX3_build_60 : decode cX3_build 60 = .ok (.iinc 6 (-1), 3) := by decide +kernel
theorem dX3_build_63 : decode cX3_build 63 = .ok (.goto (-24), 3) := by decide +kernel
theorem dX3_build_66 : decode cX3_build 66 = .ok (.aload_n 0, 1) := by decide +kernel
theorem dX3_build_67 : decode cX3_build 67 = .ok (.iconst 0, 1) := by decide +kernel
theorem dX3_build_68 : decode cX3_build 68 = .ok (.putfield 25, 3) := by decide +kernel
theorem dX3_build_71 : decode cX3_build 71 = .ok (.iconst 1, 1) := by decide +kernel
theorem dX3_build_72 : decode cX3_build 72 = .ok (.istore 6, 2) := by decide +kernel
theorem dX3_build_74 : decode cX3_build 74 = .ok (.iload 6, 2) := by decide +kernel
theorem dX3_build_76 : decode cX3_build 76 = .ok (.iload 5, 2) := by decide +kernel
theorem dX3_build_78 : decode cX3_build 78 = .ok (.if_icmp .gt 16, 3) := by decide +kernel
theorem dX3_build_81 : decode cX3_build 81 = .ok (.aload_n 0, 1) := by decide +kernel
theorem dX3_build_82 : decode cX3_build 82 = .ok (.iload 6, 2) := by decide +kernel
theorem dX3_build_84 : decode cX3_build 84 = .ok (.aload_n 2, 1) := by decide +kernel
theorem dX3_build_85 : decode cX3_build 85 = .ok (.invokevirtual 52, 3) := by decide +kernel
theorem dX3_build_88 : decode cX3_build 88 = .ok (.iinc 6 1, 3) := by decide +kernel
theorem dX3_build_91 : decode cX3_build 91 = .ok (.goto (-17), 3) := by decide +kernel
theorem dX3_build_94 : decode cX3_build 94 = .ok (.return_, 1) := by decide +kernel
set_option maxRecDepth 20000 in
theorem ggX3_lookAheadOf_X4_broughtAheadOf : GoodIn wsX3_lookAheadOf wsX4_broughtAheadOf := goodIn_r _ [7, 8, 9, 10, 6, 11, 12, 46, 47, 48] (by decide +kernel) (by decide +kernel)
set_option maxRecDepth 20000 in
theorem gX3_lookAheadOf_X4_broughtAheadOf : GoodIn wsX3_lookAheadOf (wsV RX3 59 RX4 yX4_broughtAheadOf wsX4_broughtAheadOf) := goodIn_app (goodIn_of _ (by decide +kernel)) ggX3_lookAheadOf_X4_broughtAheadOf
set_option maxRecDepth 20000 in
theorem ggX3_lookAheadOf_X6_weigh : GoodIn wsX3_lookAheadOf wsX6_weigh := goodIn_r _ [17, 18, 19, 20, 21, 22, 23, 24, 25, 26, 27, 16, 28, 29, 34, 35, 36, 37, 38, 39, 40, 41, 42, 43, 44, 45, 49, 50, 51, 52, 53, 54, 55, 56, 57] (by decide +kernel) (by decide +kernel)
set_option maxRecDepth 20000 in
theorem gX3_lookAheadOf_X6_weigh : GoodIn wsX3_lookAheadOf (wsV RX3 62 RX6 yX6_weigh wsX6_weigh) := goodIn_app (goodIn_of _ (by decide +kernel)) ggX3_lookAheadOf_X6_weigh
theorem dX3_lookAheadOf_0 : decode cX3_lookAheadOf 0 = .ok (.iconst 0, 1) := by decide +kernel
theorem dX3_lookAheadOf_1 : decode cX3_lookAheadOf 1 = .ok (.istore 4, 2) := by decide +kernel
theorem dX3_lookAheadOf_3 : decode cX3_lookAheadOf 3 = .ok (.iload 4, 2) := by decide +kernel
theorem dX3_lookAheadOf_5 : decode cX3_lookAheadOf 5 = .ok (.iconst 4, 1) := by decide +kernel
theorem dX3_lookAheadOf_6 : decode cX3_lookAheadOf 6 = .ok (.if_icmp .ge 26, 3) := by decide +kernel
theorem dX3_lookAheadOf_9 : decode cX3_lookAheadOf 9 = .ok (.aload_n 0, 1) := by decide +kernel
theorem dX3_lookAheadOf_10 : decode cX3_lookAheadOf 10 = .ok (.getfield 12, 3) := by decide +kernel
theorem dX3_lookAheadOf_13 : decode cX3_lookAheadOf 13 = .ok (.getfield 56, 3) := by decide +kernel
theorem dX3_lookAheadOf_16 : decode cX3_lookAheadOf 16 = .ok (.iload 4, 2) := by decide +kernel
theorem dX3_lookAheadOf_18 : decode cX3_lookAheadOf 18 = .ok (.aload_n 3, 1) := by decide +kernel
theorem dX3_lookAheadOf_19 : decode cX3_lookAheadOf 19 = .ok (.iload 4, 2) := by decide +kernel
theorem dX3_lookAheadOf_21 : decode cX3_lookAheadOf 21 = .ok (.iload_n 1, 1) := by decide +kernel
theorem dX3_lookAheadOf_22 : decode cX3_lookAheadOf 22 = .ok (.invokevirtual 59, 3) := by decide +kernel
theorem dX3_lookAheadOf_25 : decode cX3_lookAheadOf 25 = .ok (.iastore, 1) := by decide +kernel
theorem dX3_lookAheadOf_26 : decode cX3_lookAheadOf 26 = .ok (.iinc 4 1, 3) := by decide +kernel
theorem dX3_lookAheadOf_29 : decode cX3_lookAheadOf 29 = .ok (.goto (-26), 3) := by decide +kernel
theorem dX3_lookAheadOf_32 : decode cX3_lookAheadOf 32 = .ok (.aload_n 0, 1) := by decide +kernel
theorem dX3_lookAheadOf_33 : decode cX3_lookAheadOf 33 = .ok (.getfield 12, 3) := by decide +kernel
theorem dX3_lookAheadOf_36 : decode cX3_lookAheadOf 36 = .ok (.aload_n 2, 1) := by decide +kernel
theorem dX3_lookAheadOf_37 : decode cX3_lookAheadOf 37 = .ok (.invokevirtual 62, 3) := by decide +kernel
theorem dX3_lookAheadOf_40 : decode cX3_lookAheadOf 40 = .ok (.return_, 1) := by decide +kernel
set_option maxRecDepth 20000 in
theorem ggX3_wantNeeds_X3_isWanted : GoodIn wsX3_wantNeeds wsX3_isWanted := goodIn_r _ [5, 6, 7, 8, 9, 10, 11, 12, 13, 14, 15, 89, 90, 91, 92, 93, 94, 95] (by decide +kernel) (by decide +kernel)
set_option maxRecDepth 20000 in
theorem gX3_wantNeeds_X3_isWanted : GoodIn wsX3_wantNeeds (wsV RX3 65 RX3 yX3_isWanted wsX3_isWanted) := goodIn_app (goodIn_of _ (by decide +kernel)) ggX3_wantNeeds_X3_isWanted
set_option maxRecDepth 20000 in
theorem ggX3_wantNeeds_X3_wantForSure : GoodIn wsX3_wantNeeds wsX3_wantForSure := goodIn_r _ [19, 20, 21, 22, 23, 6, 24, 25, 8, 26, 27, 7, 9, 89, 90, 91, 92, 96, 97, 98, 99, 100, 101, 102, 103, 104, 105, 106, 107, 108, 109, 110, 111, 112, 113, 114, 115, 116] (by decide +kernel) (by decide +kernel)
set_option maxRecDepth 20000 in
theorem gX3_wantNeeds_X3_wantForSure : GoodIn wsX3_wantNeeds (wsV RX3 69 RX3 yX3_wantForSure wsX3_wantForSure) := goodIn_app (goodIn_of _ (by decide +kernel)) ggX3_wantNeeds_X3_wantForSure
set_option maxRecDepth 20000 in
theorem ggX3_wantNeeds_X3_wantForNever : GoodIn wsX3_wantNeeds wsX3_wantForNever := goodIn_r _ [31, 20, 21, 6, 24, 32, 7, 8, 9, 33, 34, 89, 90, 91, 92, 96, 97, 98, 99, 100, 101, 102, 103, 104, 105, 106, 107, 108, 109, 110, 111, 112, 113, 114, 115, 116] (by decide +kernel) (by decide +kernel)
set_option maxRecDepth 20000 in
theorem gX3_wantNeeds_X3_wantForNever : GoodIn wsX3_wantNeeds (wsV RX3 73 RX3 yX3_wantForNever wsX3_wantForNever) := goodIn_app (goodIn_of _ (by decide +kernel)) ggX3_wantNeeds_X3_wantForNever
set_option maxRecDepth 20000 in
theorem ggX3_wantNeeds_X3_wantForLikely : GoodIn wsX3_wantNeeds wsX3_wantForLikely := goodIn_r _ [38, 20, 32, 6, 39, 40, 7, 8, 9, 41, 42, 43, 44, 45, 46, 47, 48, 49, 25, 26, 27, 50, 51, 52, 4, 53, 24, 54, 55, 56, 57, 58, 33, 34, 59, 60, 61, 62, 63, 89, 90, 91, 92, 96, 97, 98, 99, 100, 101, 102, 103, 104, 105, 106, 107, 108, 109, 110, 111, 112, 113, 114, 115, 116] (by decide +kernel) (by decide +kernel)
set_option maxRecDepth 20000 in
theorem gX3_wantNeeds_X3_wantForLikely : GoodIn wsX3_wantNeeds (wsV RX3 76 RX3 yX3_wantForLikely wsX3_wantForLikely) := goodIn_app (goodIn_of _ (by decide +kernel)) ggX3_wantNeeds_X3_wantForLikely
set_option maxRecDepth 20000 in
theorem ggX3_wantNeeds_X3_wantForUnlikely : GoodIn wsX3_wantNeeds wsX3_wantForUnlikely := goodIn_r _ [67, 6, 20, 68, 32, 69, 70, 71, 46, 72, 48, 73, 74, 75, 76, 4, 77, 7, 8, 9, 55, 56, 57, 58, 24, 54, 33, 34, 41, 42, 78, 79, 80, 81, 82, 49, 83, 84, 85, 86, 87, 88, 25, 26, 27, 50, 51, 52, 53, 59, 60, 61, 62, 63, 89, 90, 91, 92, 96, 97, 98, 99, 100, 101, 102, 103, 104, 105, 106, 107, 108, 109, 110, 111, 112, 113, 114, 115, 116] (by decide +kernel) (by decide +kernel)
set_option maxRecDepth 20000 in
theorem gX3_wantNeeds_X3_wantForUnlikely : GoodIn wsX3_wantNeeds (wsV RX3 79 RX3 yX3_wantForUnlikely wsX3_wantForUnlikely) := goodIn_app (goodIn_of _ (by decide +kernel)) ggX3_wantNeeds_X3_wantForUnlikely
theorem dX3_wantNeeds_0 : decode cX3_wantNeeds 0 = .ok (.iconst 0, 1) := by decide +kernel
theorem dX3_wantNeeds_1 : decode cX3_wantNeeds 1 = .ok (.istore 4, 2) := by decide +kernel
theorem dX3_wantNeeds_3 : decode cX3_wantNeeds 3 = .ok (.iload 4, 2) := by decide +kernel
theorem dX3_wantNeeds_5 : decode cX3_wantNeeds 5 = .ok (.bipush 20, 2) := by decide +kernel
theorem dX3_wantNeeds_7 : decode cX3_wantNeeds 7 = .ok (.if_icmp .ge 85, 3) := by decide +kernel
theorem dX3_wantNeeds_10 : decode cX3_wantNeeds 10 = .ok (.aload_n 0, 1) := by decide +kernel
theorem dX3_wantNeeds_11 : decode cX3_wantNeeds 11 = .ok (.iconst 0, 1) := by decide +kernel
theorem dX3_wantNeeds_12 : decode cX3_wantNeeds 12 = .ok (.iload 4, 2) := by decide +kernel
theorem dX3_wantNeeds_14 : decode cX3_wantNeeds 14 = .ok (.iload_n 1, 1) := by decide +kernel
theorem dX3_wantNeeds_15 : decode cX3_wantNeeds 15 = .ok (.aload_n 3, 1) := by decide +kernel
theorem dX3_wantNeeds_16 : decode cX3_wantNeeds 16 = .ok (.invokevirtual 65, 3) := by decide +kernel
theorem dX3_wantNeeds_19 : decode cX3_wantNeeds 19 = .ok (.ifCond .eq 10, 3) := by decide +kernel
theorem dX3_wantNeeds_22 : decode cX3_wantNeeds 22 = .ok (.aload_n 0, 1) := by decide +kernel
theorem dX3_wantNeeds_23 : decode cX3_wantNeeds 23 = .ok (.iload 4, 2) := by decide +kernel
theorem dX3_wantNeeds_25 : decode cX3_wantNeeds 25 = .ok (.aload_n 2, 1) := by decide +kernel
theorem dX3_wantNeeds_26 : decode cX3_wantNeeds 26 = .ok (.invokevirtual 69, 3) := by decide +kernel
theorem dX3_wantNeeds_29 : decode cX3_wantNeeds 29 = .ok (.aload_n 0, 1) := by decide +kernel
theorem dX3_wantNeeds_30 : decode cX3_wantNeeds 30 = .ok (.iconst 1, 1) := by decide +kernel
theorem dX3_wantNeeds_31 : decode cX3_wantNeeds 31 = .ok (.iload 4, 2) := by decide +kernel
theorem dX3_wantNeeds_33 : decode cX3_wantNeeds 33 = .ok (.iload_n 1, 1) := by decide +kernel
theorem dX3_wantNeeds_34 : decode cX3_wantNeeds 34 = .ok (.aload_n 3, 1) := by decide +kernel
theorem dX3_wantNeeds_35 : decode cX3_wantNeeds 35 = .ok (.invokevirtual 65, 3) := by decide +kernel
theorem dX3_wantNeeds_38 : decode cX3_wantNeeds 38 = .ok (.ifCond .eq 10, 3) := by decide +kernel
theorem dX3_wantNeeds_41 : decode cX3_wantNeeds 41 = .ok (.aload_n 0, 1) := by decide +kernel
theorem dX3_wantNeeds_42 : decode cX3_wantNeeds 42 = .ok (.iload 4, 2) := by decide +kernel
theorem dX3_wantNeeds_44 : decode cX3_wantNeeds 44 = .ok (.aload_n 2, 1) := by decide +kernel
theorem dX3_wantNeeds_45 : decode cX3_wantNeeds 45 = .ok (.invokevirtual 73, 3) := by decide +kernel
theorem dX3_wantNeeds_48 : decode cX3_wantNeeds 48 = .ok (.aload_n 0, 1) := by decide +kernel
theorem dX3_wantNeeds_49 : decode cX3_wantNeeds 49 = .ok (.iconst 2, 1) := by decide +kernel
theorem dX3_wantNeeds_50 : decode cX3_wantNeeds 50 = .ok (.iload 4, 2) := by decide +kernel
theorem dX3_wantNeeds_52 : decode cX3_wantNeeds 52 = .ok (.iload_n 1, 1) := by decide +kernel
theorem dX3_wantNeeds_53 : decode cX3_wantNeeds 53 = .ok (.aload_n 3, 1) := by decide +kernel
theorem dX3_wantNeeds_54 : decode cX3_wantNeeds 54 = .ok (.invokevirtual 65, 3) := by decide +kernel
theorem dX3_wantNeeds_57 : decode cX3_wantNeeds 57 = .ok (.ifCond .eq 10, 3) := by decide +kernel
theorem dX3_wantNeeds_60 : decode cX3_wantNeeds 60 = .ok (.aload_n 0, 1) := by decide +kernel
theorem dX3_wantNeeds_61 : decode cX3_wantNeeds 61 = .ok (.iload 4, 2) := by decide +kernel
theorem dX3_wantNeeds_63 : decode cX3_wantNeeds 63 = .ok (.aload_n 2, 1) := by decide +kernel
theorem dX3_wantNeeds_64 : decode cX3_wantNeeds 64 = .ok (.invokevirtual 76, 3) := by decide +kernel
theorem dX3_wantNeeds_67 : decode cX3_wantNeeds 67 = .ok (.aload_n 0, 1) := by decide +kernel
theorem dX3_wantNeeds_68 : decode cX3_wantNeeds 68 = .ok (.iconst 3, 1) := by decide +kernel
theorem dX3_wantNeeds_69 : decode cX3_wantNeeds 69 = .ok (.iload 4, 2) := by decide +kernel
theorem dX3_wantNeeds_71 : decode cX3_wantNeeds 71 = .ok (.iload_n 1, 1) := by decide +kernel
theorem dX3_wantNeeds_72 : decode cX3_wantNeeds 72 = .ok (.aload_n 3, 1) := by decide +kernel
theorem dX3_wantNeeds_73 : decode cX3_wantNeeds 73 = .ok (.invokevirtual 65, 3) := by decide +kernel
theorem dX3_wantNeeds_76 : decode cX3_wantNeeds 76 = .ok (.ifCond .eq 10, 3) := by decide +kernel
theorem dX3_wantNeeds_79 : decode cX3_wantNeeds 79 = .ok (.aload_n 0, 1) := by decide +kernel
theorem dX3_wantNeeds_80 : decode cX3_wantNeeds 80 = .ok (.iload 4, 2) := by decide +kernel
theorem dX3_wantNeeds_82 : decode cX3_wantNeeds 82 = .ok (.aload_n 2, 1) := by decide +kernel
theorem dX3_wantNeeds_83 : decode cX3_wantNeeds 83 = .ok (.invokevirtual 79, 3) := by decide +kernel
theorem dX3_wantNeeds_86 : decode cX3_wantNeeds 86 = .ok (.iinc 4 1, 3) := by decide +kernel
theorem dX3_wantNeeds_89 : decode cX3_wantNeeds 89 = .ok (.goto (-86), 3) := by decide +kernel
theorem dX3_wantNeeds_92 : decode cX3_wantNeeds 92 = .ok (.return_, 1) := by decide +kernel
set_option maxRecDepth 20000 in
theorem ggX3_isWanted_X8_has : GoodIn wsX3_isWanted wsX8_has := goodIn_r _ [4] (by decide +kernel) (by decide +kernel)
set_option maxRecDepth 20000 in
theorem gX3_isWanted_X8_has_n82 : GoodIn wsX3_isWanted (wsX8_has) := ggX3_isWanted_X8_has
set_option maxRecDepth 20000 in
theorem ggX3_isWanted_X4_roundOf : GoodIn wsX3_isWanted wsX4_roundOf := goodIn_r _ [9, 10, 15, 16, 17] (by decide +kernel) (by decide +kernel)
set_option maxRecDepth 20000 in
theorem gX3_isWanted_X4_roundOf : GoodIn wsX3_isWanted (wsV RX3 29 RX4 yX4_roundOf wsX4_roundOf) := goodIn_app (goodIn_of _ (by decide +kernel)) ggX3_isWanted_X4_roundOf
theorem dX3_isWanted_0 : decode cX3_isWanted 0 = .ok (.aload_n 0, 1) := by decide +kernel
theorem dX3_isWanted_1 : decode cX3_isWanted 1 = .ok (.getfield 18, 3) := by decide +kernel
theorem dX3_isWanted_4 : decode cX3_isWanted 4 = .ok (.iload_n 1, 1) := by decide +kernel
theorem dX3_isWanted_5 : decode cX3_isWanted 5 = .ok (.iaload, 1) := by decide +kernel
theorem dX3_isWanted_6 : decode cX3_isWanted 6 = .ok (.iload_n 2, 1) := by decide +kernel
theorem dX3_isWanted_7 : decode cX3_isWanted 7 = .ok (.invokestatic 82, 3) := by decide +kernel
theorem dX3_isWanted_10 : decode cX3_isWanted 10 = .ok (.ifCond .eq 18, 3) := by decide +kernel
theorem dX3_isWanted_13 : decode cX3_isWanted 13 = .ok (.aload 4, 2) := by decide +kernel
theorem dX3_isWanted_15 : decode cX3_isWanted 15 = .ok (.iload_n 1, 1) := by decide +kernel
theorem dX3_isWanted_16 : decode cX3_isWanted 16 = .ok (.iload_n 2, 1) := by decide +kernel
theorem dX3_isWanted_17 : decode cX3_isWanted 17 = .ok (.invokevirtual 29, 3) := by decide +kernel
theorem dX3_isWanted_20 : decode cX3_isWanted 20 = .ok (.iload_n 3, 1) := by decide +kernel
theorem dX3_isWanted_21 : decode cX3_isWanted 21 = .ok (.if_icmp .ne 7, 3) := by decide +kernel
theorem dX3_isWanted_24 : decode cX3_isWanted 24 = .ok (.iconst 1, 1) := by decide +kernel
theorem dX3_isWanted_25 : decode cX3_isWanted 25 = .ok (.goto 4, 3) := by decide +kernel
theorem dX3_isWanted_28 : decode cX3_isWanted 28 = .ok (.iconst 0, 1) := by decide +kernel
theorem dX3_isWanted_29 : decode cX3_isWanted 29 = .ok (.ireturn, 1) := by decide +kernel
set_option maxRecDepth 20000 in
theorem ggX3_wantForSure_X8_firstRule : GoodIn wsX3_wantForSure wsX8_firstRule := goodIn_r _ [9, 10, 11, 8, 12] (by decide +kernel) (by decide +kernel)
set_option maxRecDepth 20000 in
theorem gX3_wantForSure_X8_firstRule_n92 : GoodIn wsX3_wantForSure (wsX8_firstRule) := ggX3_wantForSure_X8_firstRule
set_option maxRecDepth 20000 in
theorem ggX3_wantForSure_X8_has : GoodIn wsX3_wantForSure wsX8_has := goodIn_r _ [12] (by decide +kernel) (by decide +kernel)
set_option maxRecDepth 20000 in
theorem gX3_wantForSure_X8_has_n82 : GoodIn wsX3_wantForSure (wsX8_has) := ggX3_wantForSure_X8_has
theorem dX3_wantForSure_0 : decode cX3_wantForSure 0 = .ok (.aload_n 0, 1) := by decide +kernel
theorem dX3_wantForSure_1 : decode cX3_wantForSure 1 = .ok (.getfield 12, 3) := by decide +kernel
theorem dX3_wantForSure_4 : decode cX3_wantForSure 4 = .ok (.getfield 86, 3) := by decide +kernel
theorem dX3_wantForSure_7 : decode cX3_wantForSure 7 = .ok (.iload_n 1, 1) := by decide +kernel
theorem dX3_wantForSure_8 : decode cX3_wantForSure 8 = .ok (.iaload, 1) := by decide +kernel
theorem dX3_wantForSure_9 : decode cX3_wantForSure 9 = .ok (.aload_n 0, 1) := by decide +kernel
theorem dX3_wantForSure_10 : decode cX3_wantForSure 10 = .ok (.getfield 12, 3) := by decide +kernel
theorem dX3_wantForSure_13 : decode cX3_wantForSure 13 = .ok (.getfield 89, 3) := by decide +kernel
theorem dX3_wantForSure_16 : decode cX3_wantForSure 16 = .ok (.iand, 1) := by decide +kernel
theorem dX3_wantForSure_17 : decode cX3_wantForSure 17 = .ok (.invokestatic 92, 3) := by decide +kernel
theorem dX3_wantForSure_20 : decode cX3_wantForSure 20 = .ok (.istore_n 3, 1) := by decide +kernel
theorem dX3_wantForSure_21 : decode cX3_wantForSure 21 = .ok (.aload_n 0, 1) := by decide +kernel
theorem dX3_wantForSure_22 : decode cX3_wantForSure 22 = .ok (.getfield 12, 3) := by decide +kernel
theorem dX3_wantForSure_25 : decode cX3_wantForSure 25 = .ok (.getfield 96, 3) := by decide +kernel
theorem dX3_wantForSure_28 : decode cX3_wantForSure 28 = .ok (.iload_n 1, 1) := by decide +kernel
theorem dX3_wantForSure_29 : decode cX3_wantForSure 29 = .ok (.invokestatic 82, 3) := by decide +kernel
theorem dX3_wantForSure_32 : decode cX3_wantForSure 32 = .ok (.ifCond .ne 24, 3) := by decide +kernel
theorem dX3_wantForSure_35 : decode cX3_wantForSure 35 = .ok (.iload_n 3, 1) := by decide +kernel
theorem dX3_wantForSure_36 : decode cX3_wantForSure 36 = .ok (.bipush 16, 2) := by decide +kernel
theorem dX3_wantForSure_38 : decode cX3_wantForSure 38 = .ok (.if_icmp .ge 18, 3) := by decide +kernel
theorem dX3_wantForSure_41 : decode cX3_wantForSure 41 = .ok (.aload_n 0, 1) := by decide +kernel
theorem dX3_wantForSure_42 : decode cX3_wantForSure 42 = .ok (.getfield 18, 3) := by decide +kernel
theorem dX3_wantForSure_45 : decode cX3_wantForSure 45 = .ok (.iconst 0, 1) := by decide +kernel
theorem dX3_wantForSure_46 : decode cX3_wantForSure 46 = .ok (.dup2, 1) := by decide +kernel
theorem dX3_wantForSure_47 : decode cX3_wantForSure 47 = .ok (.iaload, 1) := by decide +kernel
theorem dX3_wantForSure_48 : decode cX3_wantForSure 48 = .ok (.aload_n 2, 1) := by decide +kernel
theorem dX3_wantForSure_49 : decode cX3_wantForSure 49 = .ok (.getfield 99, 3) := by decide +kernel
theorem dX3_wantForSure_52 : decode cX3_wantForSure 52 = .ok (.iload_n 3, 1) := by decide +kernel
theorem dX3_wantForSure_53 : decode cX3_wantForSure 53 = .ok (.iaload, 1) := by decide +kernel
theorem dX3_wantForSure_54 : decode cX3_wantForSure 54 = .ok (.ior, 1) := by decide +kernel
theorem dX3_wantForSure_55 : decode cX3_wantForSure 55 = .ok (.iastore, 1) := by decide +kernel
theorem dX3_wantForSure_56 : decode cX3_wantForSure 56 = .ok (.return_, 1) := by decide +kernel
set_option maxRecDepth 20000 in
theorem ggX3_wantForNever_X8_has : GoodIn wsX3_wantForNever wsX8_has := goodIn_r _ [8] (by decide +kernel) (by decide +kernel)
set_option maxRecDepth 20000 in
theorem gX3_wantForNever_X8_has_n82 : GoodIn wsX3_wantForNever (wsX8_has) := ggX3_wantForNever_X8_has
set_option maxRecDepth 20000 in
theorem ggX3_wantForNever_X8_lowestBit : GoodIn wsX3_wantForNever wsX8_lowestBit := goodIn_r _ [10] (by decide +kernel) (by decide +kernel)
set_option maxRecDepth 20000 in
theorem gX3_wantForNever_X8_lowestBit_n104 : GoodIn wsX3_wantForNever (wsX8_lowestBit) := ggX3_wantForNever_X8_lowestBit
theorem dX3_wantForNever_0 : decode cX3_wantForNever 0 = .ok (.iconst 0, 1) := by decide +kernel
theorem dX3_wantForNever_1 : decode cX3_wantForNever 1 = .ok (.istore_n 3, 1) := by decide +kernel
theorem dX3_wantForNever_2 : decode cX3_wantForNever 2 = .ok (.iload_n 3, 1) := by decide +kernel
theorem dX3_wantForNever_3 : decode cX3_wantForNever 3 = .ok (.bipush 16, 2) := by decide +kernel
theorem dX3_wantForNever_5 : decode cX3_wantForNever 5 = .ok (.if_icmp .ge 53, 3) := by decide +kernel
theorem dX3_wantForNever_8 : decode cX3_wantForNever 8 = .ok (.aload_n 0, 1) := by decide +kernel
theorem dX3_wantForNever_9 : decode cX3_wantForNever 9 = .ok (.getfield 12, 3) := by decide +kernel
theorem dX3_wantForNever_12 : decode cX3_wantForNever 12 = .ok (.getfield 86, 3) := by decide +kernel
theorem dX3_wantForNever_15 : decode cX3_wantForNever 15 = .ok (.iload_n 1, 1) := by decide +kernel
theorem dX3_wantForNever_16 : decode cX3_wantForNever 16 = .ok (.iaload, 1) := by decide +kernel
theorem dX3_wantForNever_17 : decode cX3_wantForNever 17 = .ok (.iload_n 3, 1) := by decide +kernel
theorem dX3_wantForNever_18 : decode cX3_wantForNever 18 = .ok (.invokestatic 82, 3) := by decide +kernel
theorem dX3_wantForNever_21 : decode cX3_wantForNever 21 = .ok (.ifCond .eq 31, 3) := by decide +kernel
theorem dX3_wantForNever_24 : decode cX3_wantForNever 24 = .ok (.aload_n 0, 1) := by decide +kernel
theorem dX3_wantForNever_25 : decode cX3_wantForNever 25 = .ok (.getfield 18, 3) := by decide +kernel
theorem dX3_wantForNever_28 : decode cX3_wantForNever 28 = .ok (.iconst 1, 1) := by decide +kernel
theorem dX3_wantForNever_29 : decode cX3_wantForNever 29 = .ok (.dup2, 1) := by decide +kernel
theorem dX3_wantForNever_30 : decode cX3_wantForNever 30 = .ok (.iaload, 1) := by decide +kernel
theorem dX3_wantForNever_31 : decode cX3_wantForNever 31 = .ok (.aload_n 2, 1) := by decide +kernel
theorem dX3_wantForNever_32 : decode cX3_wantForNever 32 = .ok (.getfield 99, 3) := by decide +kernel
theorem dX3_wantForNever_35 : decode cX3_wantForNever 35 = .ok (.iload_n 3, 1) := by decide +kernel
theorem dX3_wantForNever_36 : decode cX3_wantForNever 36 = .ok (.iaload, 1) := by decide +kernel
theorem dX3_wantForNever_37 : decode cX3_wantForNever 37 = .ok (.aload_n 0, 1) := by decide +kernel
theorem dX3_wantForNever_38 : decode cX3_wantForNever 38 = .ok (.getfield 12, 3) := by decide +kernel
theorem dX3_wantForNever_41 : decode cX3_wantForNever 41 = .ok (.getfield 56, 3) := by decide +kernel
theorem dX3_wantForNever_44 : decode cX3_wantForNever 44 = .ok (.iconst 1, 1) := by decide +kernel
theorem dX3_wantForNever_45 : decode cX3_wantForNever 45 = .ok (.iaload, 1) := by decide +kernel
theorem dX3_wantForNever_46 : decode cX3_wantForNever 46 = .ok (.iand, 1) := by decide +kernel
theorem dX3_wantForNever_47 : decode cX3_wantForNever 47 = .ok (.invokestatic 104, 3) := by decide +kernel
theorem dX3_wantForNever_50 : decode cX3_wantForNever 50 = .ok (.ior, 1) := by decide +kernel
theorem dX3_wantForNever_51 : decode cX3_wantForNever 51 = .ok (.iastore, 1) := by decide +kernel
theorem dX3_wantForNever_52 : decode cX3_wantForNever 52 = .ok (.iinc 3 1, 3) := by decide +kernel
theorem dX3_wantForNever_55 : decode cX3_wantForNever 55 = .ok (.goto (-53), 3) := by decide +kernel
theorem dX3_wantForNever_58 : decode cX3_wantForNever 58 = .ok (.return_, 1) := by decide +kernel
set_option maxRecDepth 20000 in
theorem ggX3_wantForLikely_X8_has : GoodIn wsX3_wantForLikely wsX8_has := goodIn_r _ [8] (by decide +kernel) (by decide +kernel)
set_option maxRecDepth 20000 in
theorem gX3_wantForLikely_X8_has_n82 : GoodIn wsX3_wantForLikely (wsX8_has) := ggX3_wantForLikely_X8_has
set_option maxRecDepth 20000 in
theorem ggX3_wantForLikely_X8_otherOf : GoodIn wsX3_wantForLikely wsX8_otherOf := goodIn_r _ [10] (by decide +kernel) (by decide +kernel)
set_option maxRecDepth 20000 in
theorem gX3_wantForLikely_X8_otherOf_n107 : GoodIn wsX3_wantForLikely (wsX8_otherOf) := ggX3_wantForLikely_X8_otherOf
set_option maxRecDepth 20000 in
theorem ggX3_wantForLikely_X6_team : GoodIn wsX3_wantForLikely wsX6_team := goodIn_r _ [15, 16, 17, 43, 44, 45, 46, 47, 48, 49, 50, 51, 52, 53, 54] (by decide +kernel) (by decide +kernel)
set_option maxRecDepth 20000 in
theorem gX3_wantForLikely_X6_team : GoodIn wsX3_wantForLikely (wsV RX3 110 RX6 yX6_team wsX6_team) := goodIn_app (goodIn_of _ (by decide +kernel)) ggX3_wantForLikely_X6_team
set_option maxRecDepth 20000 in
theorem ggX3_wantForLikely_X8_firstRule : GoodIn wsX3_wantForLikely wsX8_firstRule := goodIn_r _ [19, 20, 6, 7, 8] (by decide +kernel) (by decide +kernel)
set_option maxRecDepth 20000 in
theorem gX3_wantForLikely_X8_firstRule_n92 : GoodIn wsX3_wantForLikely (wsX8_firstRule) := ggX3_wantForLikely_X8_firstRule
set_option maxRecDepth 20000 in
theorem ggX3_wantForLikely_X3_wantForce : GoodIn wsX3_wantForLikely wsX3_wantForce := goodIn_r _ [25, 3, 26, 27, 39, 40, 41, 42, 55, 56, 57, 58, 59, 60, 61, 62, 63] (by decide +kernel) (by decide +kernel)
set_option maxRecDepth 20000 in
theorem gX3_wantForLikely_X3_wantForce : GoodIn wsX3_wantForLikely (wsV RX3 113 RX3 yX3_wantForce wsX3_wantForce) := goodIn_app (goodIn_of _ (by decide +kernel)) ggX3_wantForLikely_X3_wantForce
set_option maxRecDepth 20000 in
theorem ggX3_wantForLikely_X3_wantFall : GoodIn wsX3_wantForLikely wsX3_wantFall := goodIn_r _ [31, 26, 1, 2, 3, 27, 32, 7, 33, 55, 56, 57, 58, 59, 60, 61, 62, 63, 39, 40, 41, 42, 43, 44, 45, 46, 47, 48, 49, 50, 51, 52, 53, 54] (by decide +kernel) (by decide +kernel)
set_option maxRecDepth 20000 in
theorem gX3_wantForLikely_X3_wantFall : GoodIn wsX3_wantForLikely (wsV RX3 122 RX3 yX3_wantFall wsX3_wantFall) := goodIn_app (goodIn_of _ (by decide +kernel)) ggX3_wantForLikely_X3_wantFall
set_option maxRecDepth 20000 in
theorem ggX3_wantForLikely_X3_allAbove : GoodIn wsX3_wantForLikely wsX3_allAbove := goodIn_r _ [37, 1, 38, 6, 7, 8, 39, 40, 41, 42, 43, 44, 45, 46, 47, 48, 49, 50, 51, 52, 53, 54] (by decide +kernel) (by decide +kernel)
set_option maxRecDepth 20000 in
theorem gX3_wantForLikely_X3_allAbove : GoodIn wsX3_wantForLikely (wsV RX3 125 RX3 yX3_allAbove wsX3_allAbove) := goodIn_app (goodIn_of _ (by decide +kernel)) ggX3_wantForLikely_X3_allAbove
theorem dX3_wantForLikely_0 : decode cX3_wantForLikely 0 = .ok (.aload_n 0, 1) := by decide +kernel
theorem dX3_wantForLikely_1 : decode cX3_wantForLikely 1 = .ok (.getfield 12, 3) := by decide +kernel
theorem dX3_wantForLikely_4 : decode cX3_wantForLikely 4 = .ok (.getfield 56, 3) := by decide +kernel
theorem dX3_wantForLikely_7 : decode cX3_wantForLikely 7 = .ok (.iconst 0, 1) := by decide +kernel
theorem dX3_wantForLikely_8 : decode cX3_wantForLikely 8 = .ok (.iaload, 1) := by decide +kernel
theorem dX3_wantForLikely_9 : decode cX3_wantForLikely 9 = .ok (.iload_n 1, 1) := by decide +kernel
theorem dX3_wantForLikely_10 : decode cX3_wantForLikely 10 = .ok (.invokestatic 82, 3) := by decide +kernel
theorem dX3_wantForLikely_13 : decode cX3_wantForLikely 13 = .ok (.ifCond .eq 16, 3) := by decide +kernel
theorem dX3_wantForLikely_16 : decode cX3_wantForLikely 16 = .ok (.aload_n 0, 1) := by decide +kernel
theorem dX3_wantForLikely_17 : decode cX3_wantForLikely 17 = .ok (.getfield 18, 3) := by decide +kernel
theorem dX3_wantForLikely_20 : decode cX3_wantForLikely 20 = .ok (.iconst 0, 1) := by decide +kernel
theorem dX3_wantForLikely_21 : decode cX3_wantForLikely 21 = .ok (.dup2, 1) := by decide +kernel
theorem dX3_wantForLikely_22 : decode cX3_wantForLikely 22 = .ok (.iaload, 1) := by decide +kernel
theorem dX3_wantForLikely_23 : decode cX3_wantForLikely 23 = .ok (.iconst 1, 1) := by decide +kernel
theorem dX3_wantForLikely_24 : decode cX3_wantForLikely 24 = .ok (.iload_n 1, 1) := by decide +kernel
theorem dX3_wantForLikely_25 : decode cX3_wantForLikely 25 = .ok (.ishl, 1) := by decide +kernel
