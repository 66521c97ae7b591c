/-! the words of the law lie in the tables -/
theorem zapp_in {α : Type} {a b c : List α} (h1 : ∀ w ∈ a, w ∈ c) (h2 : ∀ w ∈ b, w ∈ c) : ∀ w ∈ a ++ b, w ∈ c := fun w h => (List.mem_append.mp h).elim (h1 w) (h2 w)
theorem wsL_in_1 : ∀ w ∈ wsL_law_r1, w ∈ lw_tbl := fun w h => (goodIn_p wsL_law_r1 [120, 123] (by decide +kernel) (by decide +kernel) w h).1
theorem wsL_in_2 : ∀ w ∈ wsL_law_r2, w ∈ lw_tbl := fun w h => (goodIn_p wsL_law_r2 [128] (by decide +kernel) (by decide +kernel) w h).1
theorem wsL_in_3 : ∀ w ∈ wsL_law_r3, w ∈ lw_tbl := fun w h => (goodIn_p wsL_law_r3 [189, 195] (by decide +kernel) (by decide +kernel) w h).1
theorem wsL_in_4 : ∀ w ∈ wsL_law_r4, w ∈ lw_tbl := fun w h => (goodIn_p wsL_law_r4 [264, 287] (by decide +kernel) (by decide +kernel) w h).1
theorem wsL_in_5 : ∀ w ∈ wsL_law_r5, w ∈ lw_tbl := fun w h => (goodIn_p wsL_law_r5 [308, 349, 364] (by decide +kernel) (by decide +kernel) w h).1
theorem wsL_in_6 : ∀ w ∈ wsL_law_r6, w ∈ lw_tbl := fun w h => (goodIn_p wsL_law_r6 [974] (by decide +kernel) (by decide +kernel) w h).1
theorem wsL_in_7 : ∀ w ∈ wsL_law_r7, w ∈ lw_tbl := fun w h => (goodIn_p wsL_law_r7 [416, 420, 424, 428, 432] (by decide +kernel) (by decide +kernel) w h).1
theorem wsL_in_8 : ∀ w ∈ wsL_law_r8, w ∈ lw_tbl := fun w h => (goodIn_p wsL_law_r8 [1112, 439, 442, 445] (by decide +kernel) (by decide +kernel) w h).1
theorem wsL_in_9 : ∀ w ∈ wsL_law_r9, w ∈ lw_tbl := fun w h => (goodIn_p wsL_law_r9 [448, 451, 455, 459, 463, 1116, 1119] (by decide +kernel) (by decide +kernel) w h).1
theorem wsL_in_10 : ∀ w ∈ wsL_law_r10, w ∈ lw_tbl := fun w h => (goodIn_p wsL_law_r10 [1122, 1125, 1129, 1104, 1133, 467] (by decide +kernel) (by decide +kernel) w h).1
theorem wsL_in_11 : ∀ w ∈ wsL_law_r11, w ∈ lw_tbl := fun w h => (goodIn_p wsL_law_r11 [470, 473, 478, 1137, 1142, 482] (by decide +kernel) (by decide +kernel) w h).1
theorem wsL_in_12 : ∀ w ∈ wsL_law_r12, w ∈ lw_tbl := fun w h => (goodIn_p wsL_law_r12 [486, 1146, 1150, 490, 1154, 494] (by decide +kernel) (by decide +kernel) w h).1
theorem wsL_in_13 : ∀ w ∈ wsL_law_r13, w ∈ lw_tbl := fun w h => (goodIn_p wsL_law_r13 [497, 1158, 1161, 501, 505, 1421] (by decide +kernel) (by decide +kernel) w h).1
theorem wsL_in_14 : ∀ w ∈ wsL_law_r14, w ∈ lw_tbl := fun w h => (goodIn_p wsL_law_r14 [509, 513, 517, 521, 525] (by decide +kernel) (by decide +kernel) w h).1
theorem wsL_in_15 : ∀ w ∈ wsL_law_r15, w ∈ lw_tbl := fun w h => (goodIn_p wsL_law_r15 [529, 533, 536, 539, 543, 547] (by decide +kernel) (by decide +kernel) w h).1
theorem wsL_in_16 : ∀ w ∈ wsL_law_r16, w ∈ lw_tbl := fun w h => (goodIn_p wsL_law_r16 [551, 555, 559, 563, 567, 572] (by decide +kernel) (by decide +kernel) w h).1
theorem wsL_in_17 : ∀ w ∈ wsL_law_r17, w ∈ lw_tbl := fun w h => (goodIn_p wsL_law_r17 [576, 581, 586, 591, 1425] (by decide +kernel) (by decide +kernel) w h).1
theorem wsL_in_18 : ∀ w ∈ wsL_law_r18, w ∈ lw_tbl := fun w h => (goodIn_p wsL_law_r18 [1429, 1433, 1437, 1441, 1445] (by decide +kernel) (by decide +kernel) w h).1
theorem wsL_in_19 : ∀ w ∈ wsL_law_r19, w ∈ lw_tbl := fun w h => (goodIn_p wsL_law_r19 [1449, 1453, 1457, 1461, 1465] (by decide +kernel) (by decide +kernel) w h).1
theorem wsL_in_20 : ∀ w ∈ wsL_law_r20, w ∈ lw_tbl := fun w h => (goodIn_p wsL_law_r20 [1469, 1473, 1477, 1481, 1488] (by decide +kernel) (by decide +kernel) w h).1
theorem wsL_in_21 : ∀ w ∈ wsL_law_r21, w ∈ lw_tbl := fun w h => (goodIn_p wsL_law_r21 [596, 600, 1165, 1169, 1173] (by decide +kernel) (by decide +kernel) w h).1
theorem wsL_in_22 : ∀ w ∈ wsL_law_r22, w ∈ lw_tbl := fun w h => (goodIn_p wsL_law_r22 [605, 609, 613, 616, 620] (by decide +kernel) (by decide +kernel) w h).1
theorem wsL_in_23 : ∀ w ∈ wsL_law_r23, w ∈ lw_tbl := fun w h => (goodIn_p wsL_law_r23 [627, 631, 635, 639] (by decide +kernel) (by decide +kernel) w h).1
theorem wsL_in_24 : ∀ w ∈ wsL_law_r24, w ∈ lw_tbl := fun w h => (goodIn_p wsL_law_r24 [643, 647, 651, 655, 660, 664] (by decide +kernel) (by decide +kernel) w h).1
theorem wsL_in_25 : ∀ w ∈ wsL_law_r25, w ∈ lw_tbl := fun w h => (goodIn_p wsL_law_r25 [668, 672, 676, 680, 1177] (by decide +kernel) (by decide +kernel) w h).1
theorem wsL_in_26 : ∀ w ∈ wsL_law_r26, w ∈ lw_tbl := fun w h => (goodIn_p wsL_law_r26 [1181, 685, 689, 694, 699] (by decide +kernel) (by decide +kernel) w h).1
theorem wsL_in_27 : ∀ w ∈ wsL_law_r27, w ∈ lw_tbl := fun w h => (goodIn_p wsL_law_r27 [703, 706, 713, 1342, 1346] (by decide +kernel) (by decide +kernel) w h).1
theorem wsL_in_28 : ∀ w ∈ wsL_law_r28, w ∈ lw_tbl := fun w h => (goodIn_p wsL_law_r28 [1350, 1192, 1196, 1200, 1204] (by decide +kernel) (by decide +kernel) w h).1
theorem wsL_in_29 : ∀ w ∈ wsL_law_r29, w ∈ lw_tbl := fun w h => (goodIn_p wsL_law_r29 [1208, 1211, 1215, 1219, 1223, 1227, 1231] (by decide +kernel) (by decide +kernel) w h).1
theorem wsL_in_30 : ∀ w ∈ wsL_law_r30, w ∈ lw_tbl := fun w h => (goodIn_p wsL_law_r30 [1235, 1239, 1243, 1354, 1358] (by decide +kernel) (by decide +kernel) w h).1
theorem wsL_in_31 : ∀ w ∈ wsL_law_r31, w ∈ lw_tbl := fun w h => (goodIn_p wsL_law_r31 [1363, 1367, 718, 721, 725, 1185, 1188] (by decide +kernel) (by decide +kernel) w h).1
theorem wsL_in_32 : ∀ w ∈ wsL_law_r32, w ∈ lw_tbl := fun w h => (goodIn_p wsL_law_r32 [729, 733, 1247, 1251, 738] (by decide +kernel) (by decide +kernel) w h).1
theorem wsL_in_33 : ∀ w ∈ wsL_law_r33, w ∈ lw_tbl := fun w h => (goodIn_p wsL_law_r33 [1255, 742, 1259, 1263, 1267] (by decide +kernel) (by decide +kernel) w h).1
theorem wsL_in_34 : ∀ w ∈ wsL_law_r34, w ∈ lw_tbl := fun w h => (goodIn_p wsL_law_r34 [748, 752, 759, 763, 768] (by decide +kernel) (by decide +kernel) w h).1
theorem wsL_in_35 : ∀ w ∈ wsL_law_r35, w ∈ lw_tbl := fun w h => (goodIn_p wsL_law_r35 [772, 777, 780, 784, 787, 791] (by decide +kernel) (by decide +kernel) w h).1
theorem wsL_in_36 : ∀ w ∈ wsL_law_r36, w ∈ lw_tbl := fun w h => (goodIn_p wsL_law_r36 [797, 801, 805, 809] (by decide +kernel) (by decide +kernel) w h).1
theorem wsL_in_37 : ∀ w ∈ wsL_law_r37, w ∈ lw_tbl := fun w h => (goodIn_p wsL_law_r37 [814, 819, 823, 827, 1271, 1275] (by decide +kernel) (by decide +kernel) w h).1
theorem wsL_in_38 : ∀ w ∈ wsL_law_r38, w ∈ lw_tbl := fun w h => (goodIn_p wsL_law_r38 [1279, 1283, 1287, 1290, 1293, 1298] (by decide +kernel) (by decide +kernel) w h).1
theorem wsL_in_39 : ∀ w ∈ wsL_law_r39, w ∈ lw_tbl := fun w h => (goodIn_p wsL_law_r39 [1302, 1306, 1310, 831, 835] (by decide +kernel) (by decide +kernel) w h).1
theorem wsL_in_40 : ∀ w ∈ wsL_law_r40, w ∈ lw_tbl := fun w h => (goodIn_p wsL_law_r40 [839, 844, 848, 855] (by decide +kernel) (by decide +kernel) w h).1
theorem wsL_in_41 : ∀ w ∈ wsL_law_r41, w ∈ lw_tbl := fun w h => (goodIn_p wsL_law_r41 [1314, 1318, 1322, 1326, 1330, 1334] (by decide +kernel) (by decide +kernel) w h).1
theorem wsL_in_42 : ∀ w ∈ wsL_law_r42, w ∈ lw_tbl := fun w h => (goodIn_p wsL_law_r42 [863, 1338, 867, 871, 1371, 1374] (by decide +kernel) (by decide +kernel) w h).1
theorem wsL_in_43 : ∀ w ∈ wsL_law_r43, w ∈ lw_tbl := fun w h => (goodIn_p wsL_law_r43 [875, 879, 1378, 1382, 883, 1386] (by decide +kernel) (by decide +kernel) w h).1
theorem wsL_in_44 : ∀ w ∈ wsL_law_r44, w ∈ lw_tbl := fun w h => (goodIn_p wsL_law_r44 [887, 1390, 891, 894, 898, 903] (by decide +kernel) (by decide +kernel) w h).1
theorem wsL_in_45 : ∀ w ∈ wsL_law_r45, w ∈ lw_tbl := fun w h => (goodIn_p wsL_law_r45 [1394, 908, 911, 915, 919] (by decide +kernel) (by decide +kernel) w h).1
theorem wsL_in_46 : ∀ w ∈ wsL_law_r46, w ∈ lw_tbl := fun w h => (goodIn_p wsL_law_r46 [1401, 1404, 923, 927, 1408, 932] (by decide +kernel) (by decide +kernel) w h).1
theorem wsL_in_47 : ∀ w ∈ wsL_law_r47, w ∈ lw_tbl := fun w h => (goodIn_p wsL_law_r47 [936, 940, 1412, 944, 1416, 949] (by decide +kernel) (by decide +kernel) w h).1
theorem wsL_in_48 : ∀ w ∈ wsL_law_r48, w ∈ lw_tbl := fun w h => (goodIn_p wsL_law_r48 [953, 1100, 957, 961, 1108, 965] (by decide +kernel) (by decide +kernel) w h).1
theorem wsL_in_49 : ∀ w ∈ wsL_law_r49, w ∈ lw_tbl := fun w h => (goodIn_p wsL_law_r49 [1492, 969, 1496] (by decide +kernel) (by decide +kernel) w h).1
theorem wsL_in_wsX80 : ∀ w ∈ wsX80, w ∈ lw_tbl := fun w h => (goodIn_p wsX80 [] (by decide +kernel) (by decide +kernel) w h).1
theorem wsL_in_wsX90 : ∀ w ∈ wsX90, w ∈ lw_tbl := fun w h => (goodIn_p wsX90 [] (by decide +kernel) (by decide +kernel) w h).1
theorem wsL_in_wsX00 : ∀ w ∈ wsX00, w ∈ lw_tbl := fun w h => (goodIn_p wsX00 [] (by decide +kernel) (by decide +kernel) w h).1
theorem wsL_in_wsX40 : ∀ w ∈ wsX40, w ∈ lw_tbl := fun w h => (goodIn_p wsX40 [] (by decide +kernel) (by decide +kernel) w h).1
theorem wsL_in_wsX30 : ∀ w ∈ wsX30, w ∈ lw_tbl := fun w h => (goodIn_p wsX30 [] (by decide +kernel) (by decide +kernel) w h).1
theorem wsL_in_wsX10 : ∀ w ∈ wsX10, w ∈ lw_tbl := fun w h => (goodIn_p wsX10 [] (by decide +kernel) (by decide +kernel) w h).1
theorem wsL_in_wsX70 : ∀ w ∈ wsX70, w ∈ lw_tbl := fun w h => (goodIn_p wsX70 [] (by decide +kernel) (by decide +kernel) w h).1
theorem wsL_in_wsX20 : ∀ w ∈ wsX20, w ∈ lw_tbl := fun w h => (goodIn_p wsX20 [] (by decide +kernel) (by decide +kernel) w h).1
theorem wsL_in_wsX50 : ∀ w ∈ wsX50, w ∈ lw_tbl := fun w h => (goodIn_p wsX50 [] (by decide +kernel) (by decide +kernel) w h).1
theorem wsL_in_wsX60 : ∀ w ∈ wsX60, w ∈ lw_tbl := fun w h => (goodIn_p wsX60 [] (by decide +kernel) (by decide +kernel) w h).1
theorem wsL_in : ∀ w ∈ wsL_law, w ∈ lw_tbl := (zapp_in (zapp_in (zapp_in (zapp_in (zapp_in (zapp_in (zapp_in (zapp_in (zapp_in (zapp_in (zapp_in (zapp_in wsL_in_1 (zapp_in wsL_in_2 (zapp_in wsL_in_3 (zapp_in wsL_in_4 (zapp_in wsL_in_5 (zapp_in wsL_in_6 (zapp_in wsL_in_7 (zapp_in wsL_in_8 (zapp_in wsL_in_9 (zapp_in wsL_in_10 (zapp_in wsL_in_11 (zapp_in wsL_in_12 (zapp_in wsL_in_13 (zapp_in wsL_in_14 (zapp_in wsL_in_15 (zapp_in wsL_in_16 (zapp_in wsL_in_17 (zapp_in wsL_in_18 (zapp_in wsL_in_19 (zapp_in wsL_in_20 (zapp_in wsL_in_21 (zapp_in wsL_in_22 (zapp_in wsL_in_23 (zapp_in wsL_in_24 (zapp_in wsL_in_25 (zapp_in wsL_in_26 (zapp_in wsL_in_27 (zapp_in wsL_in_28 (zapp_in wsL_in_29 (zapp_in wsL_in_30 (zapp_in wsL_in_31 (zapp_in wsL_in_32 (zapp_in wsL_in_33 (zapp_in wsL_in_34 (zapp_in wsL_in_35 (zapp_in wsL_in_36 (zapp_in wsL_in_37 (zapp_in wsL_in_38 (zapp_in wsL_in_39 (zapp_in wsL_in_40 (zapp_in wsL_in_41 (zapp_in wsL_in_42 (zapp_in wsL_in_43 (zapp_in wsL_in_44 (zapp_in wsL_in_45 (zapp_in wsL_in_46 (zapp_in wsL_in_47 (zapp_in wsL_in_48 wsL_in_49)))))))))))))))))))))))))))))))))))))))))))))))) wsL_in_wsX80) wsL_in_wsX90) wsL_in_wsX00) wsL_in_wsX40) wsL_in_wsX30) wsL_in_wsX10) wsL_in_wsX70) wsL_in_wsX20) wsL_in_wsX50) wsL_in_wsX60) (fun w h => by cases h))
