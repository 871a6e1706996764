set_option maxRecDepth 20000 in
theorem wsL_in_1 : GoodIn lw_tbl wsL_law_r1 := goodIn_p wsL_law_r1 [45, 48] (by decide +kernel) (by decide +kernel)
set_option maxRecDepth 20000 in
theorem wsL_in_2 : GoodIn lw_tbl wsL_law_r2 := goodIn_p wsL_law_r2 [53, 80, 101] (by decide +kernel) (by decide +kernel)
set_option maxRecDepth 20000 in
theorem wsL_in_3 : GoodIn lw_tbl wsL_law_r3 := goodIn_p wsL_law_r3 [105, 294] (by decide +kernel) (by decide +kernel)
set_option maxRecDepth 20000 in
theorem wsL_in_4 : GoodIn lw_tbl wsL_law_r4 := goodIn_p wsL_law_r4 [158, 408, 411] (by decide +kernel) (by decide +kernel)
set_option maxRecDepth 20000 in
theorem wsL_in_5 : GoodIn lw_tbl wsL_law_r5 := goodIn_p wsL_law_r5 [163, 415, 167, 171, 175, 178] (by decide +kernel) (by decide +kernel)
set_option maxRecDepth 20000 in
theorem wsL_in_6 : GoodIn lw_tbl wsL_law_r6 := goodIn_p wsL_law_r6 [182, 419, 423, 186, 427, 190] (by decide +kernel) (by decide +kernel)
set_option maxRecDepth 20000 in
theorem wsL_in_7 : GoodIn lw_tbl wsL_law_r7 := goodIn_p wsL_law_r7 [194, 198, 202, 206] (by decide +kernel) (by decide +kernel)
set_option maxRecDepth 20000 in
theorem wsL_in_8 : GoodIn lw_tbl wsL_law_r8 := goodIn_p wsL_law_r8 [212, 209, 215, 219, 223, 227, 231] (by decide +kernel) (by decide +kernel)
set_option maxRecDepth 20000 in
theorem wsL_in_9 : GoodIn lw_tbl wsL_law_r9 := goodIn_p wsL_law_r9 [235, 239, 243, 247, 251] (by decide +kernel) (by decide +kernel)
set_option maxRecDepth 20000 in
theorem wsL_in_10 : GoodIn lw_tbl wsL_law_r10 := goodIn_p wsL_law_r10 [256, 262, 265, 269, 431] (by decide +kernel) (by decide +kernel)
set_option maxRecDepth 20000 in
theorem wsL_in_11 : GoodIn lw_tbl wsL_law_r11 := goodIn_p wsL_law_r11 [435, 439, 443, 447] (by decide +kernel) (by decide +kernel)
set_option maxRecDepth 20000 in
theorem wsL_in_12 : GoodIn lw_tbl wsL_law_r12 := goodIn_p wsL_law_r12 [451, 455, 459, 463, 467, 471] (by decide +kernel) (by decide +kernel)
set_option maxRecDepth 20000 in
theorem wsL_in_13 : GoodIn lw_tbl wsL_law_r13 := goodIn_p wsL_law_r13 [475, 479, 483, 487, 491, 497] (by decide +kernel) (by decide +kernel)
set_option maxRecDepth 20000 in
theorem wsL_in_14 : GoodIn lw_tbl wsL_law_r14 := goodIn_p wsL_law_r14 [501, 505, 273, 509, 277] (by decide +kernel) (by decide +kernel)
set_option maxRecDepth 20000 in
theorem wsL_in_15 : GoodIn lw_tbl wsL_law_r15 := goodIn_p wsL_law_r15 [513, 281, 517, 285, 521, 289] (by decide +kernel) (by decide +kernel)
set_option maxRecDepth 20000 in
theorem wsL_in_16 : GoodIn lw_tbl wsL_law_r16 := goodIn_p wsL_law_r16 [525] (by decide +kernel) (by decide +kernel)
set_option maxRecDepth 20000 in
theorem wsL_in_X2 : GoodIn lw_tbl wsX20 := goodIn_p wsX20 [] (by decide +kernel) (by decide +kernel)
set_option maxRecDepth 20000 in
theorem wsL_in_X3 : GoodIn lw_tbl wsX30 := goodIn_p wsX30 [] (by decide +kernel) (by decide +kernel)
set_option maxRecDepth 20000 in
theorem wsL_in_X1 : GoodIn lw_tbl wsX10 := goodIn_p wsX10 [] (by decide +kernel) (by decide +kernel)
set_option maxRecDepth 20000 in
theorem wsL_in_X0 : GoodIn lw_tbl wsX00 := goodIn_p wsX00 [] (by decide +kernel) (by decide +kernel)
theorem wsL_law_in : ∀ w ∈ wsL_law, w ∈ lw_tbl := fun w h => ((goodIn_app (goodIn_app (goodIn_app (goodIn_app (goodIn_app (goodIn_app wsL_in_1 (goodIn_app wsL_in_2 (goodIn_app wsL_in_3 (goodIn_app wsL_in_4 (goodIn_app wsL_in_5 (goodIn_app wsL_in_6 (goodIn_app wsL_in_7 (goodIn_app wsL_in_8 (goodIn_app wsL_in_9 (goodIn_app wsL_in_10 (goodIn_app wsL_in_11 (goodIn_app wsL_in_12 (goodIn_app wsL_in_13 (goodIn_app wsL_in_14 (goodIn_app wsL_in_15 wsL_in_16))))))))))))))) wsL_in_X2) wsL_in_X3) wsL_in_X1) wsL_in_X0) (fun _ h => absurd h List.not_mem_nil)) w h).1
theorem inlX0 : ∀ w ∈ wsX00, w ∈ wsL_law := fun _ h => List.mem_append_left _ (List.mem_append_right _ h)
theorem inX0 : ∀ w ∈ wsX00, w ∈ lw_tbl := fun w h => wsL_law_in w (inlX0 w h)
theorem inlX1 : ∀ w ∈ wsX10, w ∈ wsL_law := fun _ h => List.mem_append_left _ (List.mem_append_left _ (List.mem_append_right _ h))
theorem inX1 : ∀ w ∈ wsX10, w ∈ lw_tbl := fun w h => wsL_law_in w (inlX1 w h)
theorem inlX2 : ∀ w ∈ wsX20, w ∈ wsL_law := fun _ h => List.mem_append_left _ (List.mem_append_left _ (List.mem_append_left _ (List.mem_append_left _ (List.mem_append_right _ h))))
theorem inX2 : ∀ w ∈ wsX20, w ∈ lw_tbl := fun w h => wsL_law_in w (inlX2 w h)
theorem inlX3 : ∀ w ∈ wsX30, w ∈ wsL_law := fun _ h => List.mem_append_left _ (List.mem_append_left _ (List.mem_append_left _ (List.mem_append_right _ h)))
theorem inX3 : ∀ w ∈ wsX30, w ∈ lw_tbl := fun w h => wsL_law_in w (inlX3 w h)
theorem inJ9 : ∀ w ∈ wsJ90, w ∈ lw_tbl := by decide +kernel
theorem inJ7 : ∀ w ∈ wsJ70, w ∈ lw_tbl := by decide +kernel
