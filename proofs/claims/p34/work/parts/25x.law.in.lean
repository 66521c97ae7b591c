/-! the words of the law lie in the tables -/
theorem zapp_in {α : Type} {a b c : List α} (h1 : ∀ w ∈ a, w ∈ c) (h2 : ∀ w ∈ b, w ∈ c) : ∀ w ∈ a ++ b, w ∈ c := fun w h => (List.mem_append.mp h).elim (h1 w) (h2 w)
theorem wsL_in_1 : ∀ w ∈ wsL_law_r1, w ∈ lw_tbl := fun w h => (goodIn_p wsL_law_r1 [204, 211, 215] (by decide +kernel) (by decide +kernel) w h).1
theorem wsL_in_2 : ∀ w ∈ wsL_law_r2, w ∈ lw_tbl := fun w h => (goodIn_p wsL_law_r2 [218] (by decide +kernel) (by decide +kernel) w h).1
theorem wsL_in_3 : ∀ w ∈ wsL_law_r3, w ∈ lw_tbl := fun w h => (goodIn_p wsL_law_r3 [223, 273] (by decide +kernel) (by decide +kernel) w h).1
theorem wsL_in_4 : ∀ w ∈ wsL_law_r4, w ∈ lw_tbl := fun w h => (goodIn_p wsL_law_r4 [278, 339] (by decide +kernel) (by decide +kernel) w h).1
theorem wsL_in_5 : ∀ w ∈ wsL_law_r5, w ∈ lw_tbl := fun w h => (goodIn_p wsL_law_r5 [360, 381] (by decide +kernel) (by decide +kernel) w h).1
theorem wsL_in_6 : ∀ w ∈ wsL_law_r6, w ∈ lw_tbl := fun w h => (goodIn_p wsL_law_r6 [419, 433, 483, 487] (by decide +kernel) (by decide +kernel) w h).1
theorem wsL_in_7 : ∀ w ∈ wsL_law_r7, w ∈ lw_tbl := fun w h => (goodIn_p wsL_law_r7 [52, 490, 493, 498, 502, 506, 510] (by decide +kernel) (by decide +kernel) w h).1
theorem wsL_in_8 : ∀ w ∈ wsL_law_r8, w ∈ lw_tbl := fun w h => (goodIn_p wsL_law_r8 [514, 519, 31, 199, 34] (by decide +kernel) (by decide +kernel) w h).1
theorem wsL_in_9 : ∀ w ∈ wsL_law_r9, w ∈ lw_tbl := fun w h => (goodIn_p wsL_law_r9 [522, 526, 45, 531, 137] (by decide +kernel) (by decide +kernel) w h).1
theorem wsL_in_10 : ∀ w ∈ wsL_law_r10, w ∈ lw_tbl := fun w h => (goodIn_p wsL_law_r10 [57, 61, 64, 68] (by decide +kernel) (by decide +kernel) w h).1
theorem wsL_in_11 : ∀ w ∈ wsL_law_r11, w ∈ lw_tbl := fun w h => (goodIn_p wsL_law_r11 [38, 42, 76, 80, 84] (by decide +kernel) (by decide +kernel) w h).1
theorem wsL_in_12 : ∀ w ∈ wsL_law_r12, w ∈ lw_tbl := fun w h => (goodIn_p wsL_law_r12 [88, 92, 96, 100, 104, 107, 111] (by decide +kernel) (by decide +kernel) w h).1
theorem wsL_in_13 : ∀ w ∈ wsL_law_r13, w ∈ lw_tbl := fun w h => (goodIn_p wsL_law_r13 [115, 119, 123, 127, 132] (by decide +kernel) (by decide +kernel) w h).1
theorem wsL_in_14 : ∀ w ∈ wsL_law_r14, w ∈ lw_tbl := fun w h => (goodIn_p wsL_law_r14 [141, 148, 153, 157, 160] (by decide +kernel) (by decide +kernel) w h).1
theorem wsL_in_15 : ∀ w ∈ wsL_law_r15, w ∈ lw_tbl := fun w h => (goodIn_p wsL_law_r15 [167, 208, 540, 49, 27] (by decide +kernel) (by decide +kernel) w h).1
theorem wsL_in_16 : ∀ w ∈ wsL_law_r16, w ∈ lw_tbl := fun w h => (goodIn_p wsL_law_r16 [534, 537, 172, 175, 179, 183] (by decide +kernel) (by decide +kernel) w h).1
theorem wsL_in_17 : ∀ w ∈ wsL_law_r17, w ∈ lw_tbl := fun w h => (goodIn_p wsL_law_r17 [187, 192, 196] (by decide +kernel) (by decide +kernel) w h).1
theorem wsL_in_wsX80 : ∀ w ∈ wsX80, w ∈ lw_tbl := fun w h => (goodIn_p wsX80 [] (by decide +kernel) (by decide +kernel) w h).1
theorem wsL_in_wsX00 : ∀ w ∈ wsX00, w ∈ lw_tbl := fun w h => (goodIn_p wsX00 [] (by decide +kernel) (by decide +kernel) w h).1
theorem wsL_in_wsX40 : ∀ w ∈ wsX40, w ∈ lw_tbl := fun w h => (goodIn_p wsX40 [] (by decide +kernel) (by decide +kernel) w h).1
theorem wsL_in_wsX30 : ∀ w ∈ wsX30, w ∈ lw_tbl := fun w h => (goodIn_p wsX30 [] (by decide +kernel) (by decide +kernel) w h).1
theorem wsL_in_wsX10 : ∀ w ∈ wsX10, w ∈ lw_tbl := fun w h => (goodIn_p wsX10 [] (by decide +kernel) (by decide +kernel) w h).1
theorem wsL_in_wsX70 : ∀ w ∈ wsX70, w ∈ lw_tbl := fun w h => (goodIn_p wsX70 [] (by decide +kernel) (by decide +kernel) w h).1
theorem wsL_in_wsX20 : ∀ w ∈ wsX20, w ∈ lw_tbl := fun w h => (goodIn_p wsX20 [] (by decide +kernel) (by decide +kernel) w h).1
theorem wsL_in_wsX50 : ∀ w ∈ wsX50, w ∈ lw_tbl := fun w h => (goodIn_p wsX50 [] (by decide +kernel) (by decide +kernel) w h).1
theorem wsL_in_wsX60 : ∀ w ∈ wsX60, w ∈ lw_tbl := fun w h => (goodIn_p wsX60 [] (by decide +kernel) (by decide +kernel) w h).1
theorem wsL_in : ∀ w ∈ wsL_law, w ∈ lw_tbl := (zapp_in (zapp_in (zapp_in (zapp_in (zapp_in (zapp_in (zapp_in (zapp_in (zapp_in (zapp_in (zapp_in wsL_in_1 (zapp_in wsL_in_2 (zapp_in wsL_in_3 (zapp_in wsL_in_4 (zapp_in wsL_in_5 (zapp_in wsL_in_6 (zapp_in wsL_in_7 (zapp_in wsL_in_8 (zapp_in wsL_in_9 (zapp_in wsL_in_10 (zapp_in wsL_in_11 (zapp_in wsL_in_12 (zapp_in wsL_in_13 (zapp_in wsL_in_14 (zapp_in wsL_in_15 (zapp_in wsL_in_16 wsL_in_17)))))))))))))))) wsL_in_wsX80) wsL_in_wsX00) wsL_in_wsX40) wsL_in_wsX30) wsL_in_wsX10) wsL_in_wsX70) wsL_in_wsX20) wsL_in_wsX50) wsL_in_wsX60) (fun w h => by cases h))
