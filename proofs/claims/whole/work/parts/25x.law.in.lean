/-! the words of the law lie in the tables -/
theorem zapp_in {α : Type} {a b c : List α} (h1 : ∀ w ∈ a, w ∈ c) (h2 : ∀ w ∈ b, w ∈ c) : ∀ w ∈ a ++ b, w ∈ c := fun w h => (List.mem_append.mp h).elim (h1 w) (h2 w)
theorem wsL_in_1 : ∀ w ∈ wsL_law_r1, w ∈ lw_tbl := fun w h => (goodIn_p wsL_law_r1 [120, 123] (by decide +kernel) (by decide +kernel) w h).1
theorem wsL_in_2 : ∀ w ∈ wsL_law_r2, w ∈ lw_tbl := fun w h => (goodIn_p wsL_law_r2 [128] (by decide +kernel) (by decide +kernel) w h).1
theorem wsL_in_3 : ∀ w ∈ wsL_law_r3, w ∈ lw_tbl := fun w h => (goodIn_p wsL_law_r3 [189, 195] (by decide +kernel) (by decide +kernel) w h).1
theorem wsL_in_4 : ∀ w ∈ wsL_law_r4, w ∈ lw_tbl := fun w h => (goodIn_p wsL_law_r4 [264, 287] (by decide +kernel) (by decide +kernel) w h).1
theorem wsL_in_5 : ∀ w ∈ wsL_law_r5, w ∈ lw_tbl := fun w h => (goodIn_p wsL_law_r5 [308, 349, 364] (by decide +kernel) (by decide +kernel) w h).1
theorem wsL_in_6 : ∀ w ∈ wsL_law_r6, w ∈ lw_tbl := fun w h => (goodIn_p wsL_law_r6 [975] (by decide +kernel) (by decide +kernel) w h).1
theorem wsL_in_7 : ∀ w ∈ wsL_law_r7, w ∈ lw_tbl := fun w h => (goodIn_p wsL_law_r7 [416, 420, 424, 428, 432] (by decide +kernel) (by decide +kernel) w h).1
theorem wsL_in_8 : ∀ w ∈ wsL_law_r8, w ∈ lw_tbl := fun w h => (goodIn_p wsL_law_r8 [1113, 439, 442, 445] (by decide +kernel) (by decide +kernel) w h).1
theorem wsL_in_9 : ∀ w ∈ wsL_law_r9, w ∈ lw_tbl := fun w h => (goodIn_p wsL_law_r9 [448, 451, 455, 459, 463, 1117, 1120] (by decide +kernel) (by decide +kernel) w h).1
theorem wsL_in_10 : ∀ w ∈ wsL_law_r10, w ∈ lw_tbl := fun w h => (goodIn_p wsL_law_r10 [1123, 1126, 1130, 1105, 1134, 467] (by decide +kernel) (by decide +kernel) w h).1
theorem wsL_in_11 : ∀ w ∈ wsL_law_r11, w ∈ lw_tbl := fun w h => (goodIn_p wsL_law_r11 [470, 473, 478, 1138, 1143, 482] (by decide +kernel) (by decide +kernel) w h).1
theorem wsL_in_12 : ∀ w ∈ wsL_law_r12, w ∈ lw_tbl := fun w h => (goodIn_p wsL_law_r12 [486, 1147, 1151, 490, 1155, 494] (by decide +kernel) (by decide +kernel) w h).1
theorem wsL_in_13 : ∀ w ∈ wsL_law_r13, w ∈ lw_tbl := fun w h => (goodIn_p wsL_law_r13 [497, 1159, 1162, 501, 505, 1422] (by decide +kernel) (by decide +kernel) w h).1
theorem wsL_in_14 : ∀ w ∈ wsL_law_r14, w ∈ lw_tbl := fun w h => (goodIn_p wsL_law_r14 [509, 513, 517, 521, 525] (by decide +kernel) (by decide +kernel) w h).1
theorem wsL_in_15 : ∀ w ∈ wsL_law_r15, w ∈ lw_tbl := fun w h => (goodIn_p wsL_law_r15 [529, 533, 536, 539, 543, 547] (by decide +kernel) (by decide +kernel) w h).1
theorem wsL_in_16 : ∀ w ∈ wsL_law_r16, w ∈ lw_tbl := fun w h => (goodIn_p wsL_law_r16 [551, 555, 559, 563, 567, 572] (by decide +kernel) (by decide +kernel) w h).1
theorem wsL_in_17 : ∀ w ∈ wsL_law_r17, w ∈ lw_tbl := fun w h => (goodIn_p wsL_law_r17 [576, 581, 586, 591, 1426] (by decide +kernel) (by decide +kernel) w h).1
theorem wsL_in_18 : ∀ w ∈ wsL_law_r18, w ∈ lw_tbl := fun w h => (goodIn_p wsL_law_r18 [1430, 1434, 1438, 1442, 1446] (by decide +kernel) (by decide +kernel) w h).1
theorem wsL_in_19 : ∀ w ∈ wsL_law_r19, w ∈ lw_tbl := fun w h => (goodIn_p wsL_law_r19 [1450, 1454, 1458, 1462, 1466] (by decide +kernel) (by decide +kernel) w h).1
theorem wsL_in_20 : ∀ w ∈ wsL_law_r20, w ∈ lw_tbl := fun w h => (goodIn_p wsL_law_r20 [1470, 1474, 1478, 1482, 1489] (by decide +kernel) (by decide +kernel) w h).1
theorem wsL_in_21 : ∀ w ∈ wsL_law_r21, w ∈ lw_tbl := fun w h => (goodIn_p wsL_law_r21 [596, 600, 1166, 1170, 1174] (by decide +kernel) (by decide +kernel) w h).1
theorem wsL_in_22 : ∀ w ∈ wsL_law_r22, w ∈ lw_tbl := fun w h => (goodIn_p wsL_law_r22 [605, 609, 613, 616, 620] (by decide +kernel) (by decide +kernel) w h).1
theorem wsL_in_23 : ∀ w ∈ wsL_law_r23, w ∈ lw_tbl := fun w h => (goodIn_p wsL_law_r23 [627, 631, 635, 639] (by decide +kernel) (by decide +kernel) w h).1
theorem wsL_in_24 : ∀ w ∈ wsL_law_r24, w ∈ lw_tbl := fun w h => (goodIn_p wsL_law_r24 [643, 647, 651, 655, 660, 664] (by decide +kernel) (by decide +kernel) w h).1
theorem wsL_in_25 : ∀ w ∈ wsL_law_r25, w ∈ lw_tbl := fun w h => (goodIn_p wsL_law_r25 [668, 672, 676, 680, 1178] (by decide +kernel) (by decide +kernel) w h).1
theorem wsL_in_26 : ∀ w ∈ wsL_law_r26, w ∈ lw_tbl := fun w h => (goodIn_p wsL_law_r26 [1182, 685, 689, 694, 699] (by decide +kernel) (by decide +kernel) w h).1
theorem wsL_in_27 : ∀ w ∈ wsL_law_r27, w ∈ lw_tbl := fun w h => (goodIn_p wsL_law_r27 [703, 706, 713, 1343, 1347] (by decide +kernel) (by decide +kernel) w h).1
theorem wsL_in_28 : ∀ w ∈ wsL_law_r28, w ∈ lw_tbl := fun w h => (goodIn_p wsL_law_r28 [1351, 1193, 1197, 1201, 1205] (by decide +kernel) (by decide +kernel) w h).1
theorem wsL_in_29 : ∀ w ∈ wsL_law_r29, w ∈ lw_tbl := fun w h => (goodIn_p wsL_law_r29 [1209, 1212, 1216, 1220, 1224, 1228, 1232] (by decide +kernel) (by decide +kernel) w h).1
theorem wsL_in_30 : ∀ w ∈ wsL_law_r30, w ∈ lw_tbl := fun w h => (goodIn_p wsL_law_r30 [1236, 1240, 1244, 1355, 1359] (by decide +kernel) (by decide +kernel) w h).1
theorem wsL_in_31 : ∀ w ∈ wsL_law_r31, w ∈ lw_tbl := fun w h => (goodIn_p wsL_law_r31 [1364, 1368, 718, 721, 725, 1186, 1189] (by decide +kernel) (by decide +kernel) w h).1
theorem wsL_in_32 : ∀ w ∈ wsL_law_r32, w ∈ lw_tbl := fun w h => (goodIn_p wsL_law_r32 [729, 733, 1248, 1252, 738] (by decide +kernel) (by decide +kernel) w h).1
theorem wsL_in_33 : ∀ w ∈ wsL_law_r33, w ∈ lw_tbl := fun w h => (goodIn_p wsL_law_r33 [1256, 742, 1260, 1264, 1268] (by decide +kernel) (by decide +kernel) w h).1
theorem wsL_in_34 : ∀ w ∈ wsL_law_r34, w ∈ lw_tbl := fun w h => (goodIn_p wsL_law_r34 [748, 752, 759, 763, 768] (by decide +kernel) (by decide +kernel) w h).1
theorem wsL_in_35 : ∀ w ∈ wsL_law_r35, w ∈ lw_tbl := fun w h => (goodIn_p wsL_law_r35 [774, 778, 781, 785, 788, 792] (by decide +kernel) (by decide +kernel) w h).1
theorem wsL_in_36 : ∀ w ∈ wsL_law_r36, w ∈ lw_tbl := fun w h => (goodIn_p wsL_law_r36 [798, 802, 806, 810] (by decide +kernel) (by decide +kernel) w h).1
theorem wsL_in_37 : ∀ w ∈ wsL_law_r37, w ∈ lw_tbl := fun w h => (goodIn_p wsL_law_r37 [815, 820, 824, 828, 1272] (by decide +kernel) (by decide +kernel) w h).1
theorem wsL_in_38 : ∀ w ∈ wsL_law_r38, w ∈ lw_tbl := fun w h => (goodIn_p wsL_law_r38 [1276, 1280, 1284, 1288, 1291, 1294, 1299] (by decide +kernel) (by decide +kernel) w h).1
theorem wsL_in_39 : ∀ w ∈ wsL_law_r39, w ∈ lw_tbl := fun w h => (goodIn_p wsL_law_r39 [1303, 1307, 1311, 832, 836] (by decide +kernel) (by decide +kernel) w h).1
theorem wsL_in_40 : ∀ w ∈ wsL_law_r40, w ∈ lw_tbl := fun w h => (goodIn_p wsL_law_r40 [840, 845, 849, 856] (by decide +kernel) (by decide +kernel) w h).1
theorem wsL_in_41 : ∀ w ∈ wsL_law_r41, w ∈ lw_tbl := fun w h => (goodIn_p wsL_law_r41 [1315, 1319, 1323, 1327, 1331, 1335] (by decide +kernel) (by decide +kernel) w h).1
theorem wsL_in_42 : ∀ w ∈ wsL_law_r42, w ∈ lw_tbl := fun w h => (goodIn_p wsL_law_r42 [864, 1339, 868, 872, 1372, 1375] (by decide +kernel) (by decide +kernel) w h).1
theorem wsL_in_43 : ∀ w ∈ wsL_law_r43, w ∈ lw_tbl := fun w h => (goodIn_p wsL_law_r43 [876, 880, 1379, 1383, 884, 1387] (by decide +kernel) (by decide +kernel) w h).1
theorem wsL_in_44 : ∀ w ∈ wsL_law_r44, w ∈ lw_tbl := fun w h => (goodIn_p wsL_law_r44 [888, 1391, 892, 895, 899, 904] (by decide +kernel) (by decide +kernel) w h).1
theorem wsL_in_45 : ∀ w ∈ wsL_law_r45, w ∈ lw_tbl := fun w h => (goodIn_p wsL_law_r45 [1395, 909, 912, 916, 920] (by decide +kernel) (by decide +kernel) w h).1
theorem wsL_in_46 : ∀ w ∈ wsL_law_r46, w ∈ lw_tbl := fun w h => (goodIn_p wsL_law_r46 [1402, 1405, 924, 928, 1409, 933] (by decide +kernel) (by decide +kernel) w h).1
theorem wsL_in_47 : ∀ w ∈ wsL_law_r47, w ∈ lw_tbl := fun w h => (goodIn_p wsL_law_r47 [937, 941, 1413, 945, 1417] (by decide +kernel) (by decide +kernel) w h).1
theorem wsL_in_48 : ∀ w ∈ wsL_law_r48, w ∈ lw_tbl := fun w h => (goodIn_p wsL_law_r48 [950, 954, 1101, 958, 962, 1109] (by decide +kernel) (by decide +kernel) w h).1
theorem wsL_in_49 : ∀ w ∈ wsL_law_r49, w ∈ lw_tbl := fun w h => (goodIn_p wsL_law_r49 [966, 1493, 970, 1497] (by decide +kernel) (by decide +kernel) w h).1
theorem wsL_in_wsX80 : ∀ w ∈ wsX80, w ∈ lw_tbl := fun w h => (goodIn_p wsX80 [] (by decide +kernel) (by decide +kernel) w h).1
theorem wsL_in_wsX90 : ∀ w ∈ wsX90, w ∈ lw_tbl := fun w h => (goodIn_p wsX90 [] (by decide +kernel) (by decide +kernel) w h).1
theorem wsL_in_wsX00 : ∀ w ∈ wsX00, w ∈ lw_tbl := fun w h => (goodIn_p wsX00 [] (by decide +kernel) (by decide +kernel) w h).1
theorem wsL_in_wsX40 : ∀ w ∈ wsX40, w ∈ lw_tbl := fun w h => (goodIn_p wsX40 [] (by decide +kernel) (by decide +kernel) w h).1
theorem wsL_in_wsX30 : ∀ w ∈ wsX30, w ∈ lw_tbl := fun w h => (goodIn_p wsX30 [] (by decide +kernel) (by decide +kernel) w h).1
theorem wsL_in_wsX10 : ∀ w ∈ wsX10, w ∈ lw_tbl := fun w h => (goodIn_p wsX10 [] (by decide +kernel) (by decide +kernel) w h).1
theorem wsL_in_wsX70 : ∀ w ∈ wsX70, w ∈ lw_tbl := fun w h => (goodIn_p wsX70 [] (by decide +kernel) (by decide +kernel) w h).1
theorem wsL_in_wsX20 : ∀ w ∈ wsX20, w ∈ lw_tbl := fun w h => (goodIn_p wsX20 [] (by decide +kernel) (by decide +kernel) w h).1
theorem wsL_in_wsX50 : ∀ w ∈ wsX50, w ∈ lw_tbl := fun w h => (goodIn_p wsX50 [] (by decide +kernel) (by decide +kernel) w h).1
theorem wsL_in_wsX60 : ∀ w ∈ wsX60, w ∈ lw_tbl := fun w h => (goodIn_p wsX60 [] (by decide +kernel) (by decide +kernel) w h).1
theorem wsL_in : ∀ w ∈ wsL_law, w ∈ lw_tbl := (zapp_in (zapp_in (zapp_in (zapp_in (zapp_in (zapp_in (zapp_in (zapp_in (zapp_in (zapp_in (zapp_in (zapp_in wsL_in_1 (zapp_in wsL_in_2 (zapp_in wsL_in_3 (zapp_in wsL_in_4 (zapp_in wsL_in_5 (zapp_in wsL_in_6 (zapp_in wsL_in_7 (zapp_in wsL_in_8 (zapp_in wsL_in_9 (zapp_in wsL_in_10 (zapp_in wsL_in_11 (zapp_in wsL_in_12 (zapp_in wsL_in_13 (zapp_in wsL_in_14 (zapp_in wsL_in_15 (zapp_in wsL_in_16 (zapp_in wsL_in_17 (zapp_in wsL_in_18 (zapp_in wsL_in_19 (zapp_in wsL_in_20 (zapp_in wsL_in_21 (zapp_in wsL_in_22 (zapp_in wsL_in_23 (zapp_in wsL_in_24 (zapp_in wsL_in_25 (zapp_in wsL_in_26 (zapp_in wsL_in_27 (zapp_in wsL_in_28 (zapp_in wsL_in_29 (zapp_in wsL_in_30 (zapp_in wsL_in_31 (zapp_in wsL_in_32 (zapp_in wsL_in_33 (zapp_in wsL_in_34 (zapp_in wsL_in_35 (zapp_in wsL_in_36 (zapp_in wsL_in_37 (zapp_in wsL_in_38 (zapp_in wsL_in_39 (zapp_in wsL_in_40 (zapp_in wsL_in_41 (zapp_in wsL_in_42 (zapp_in wsL_in_43 (zapp_in wsL_in_44 (zapp_in wsL_in_45 (zapp_in wsL_in_46 (zapp_in wsL_in_47 (zapp_in wsL_in_48 wsL_in_49)))))))))))))))))))))))))))))))))))))))))))))))) wsL_in_wsX80) wsL_in_wsX90) wsL_in_wsX00) wsL_in_wsX40) wsL_in_wsX30) wsL_in_wsX10) wsL_in_wsX70) wsL_in_wsX20) wsL_in_wsX50) wsL_in_wsX60) (fun w h => by cases h))
