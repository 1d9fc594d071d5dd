set_option maxRecDepth 20000 in
theorem wsL_law_r1_g : GoodIn lw_tbl wsL_law_r1 := goodIn_p wsL_law_r1 [40, 43] (by decide +kernel) (by decide +kernel)
set_option maxRecDepth 20000 in
theorem wsL_law_r2_g : GoodIn lw_tbl wsL_law_r2 := goodIn_p wsL_law_r2 [48] (by decide +kernel) (by decide +kernel)
set_option maxRecDepth 20000 in
theorem wsL_law_r3_g : GoodIn lw_tbl wsL_law_r3 := goodIn_p wsL_law_r3 [64, 69, 73, 174] (by decide +kernel) (by decide +kernel)
set_option maxRecDepth 20000 in
theorem wsL_law_r4_g : GoodIn lw_tbl wsL_law_r4 := goodIn_p wsL_law_r4 [196, 218, 531] (by decide +kernel) (by decide +kernel)
set_option maxRecDepth 20000 in
theorem wsL_law_r5_g : GoodIn lw_tbl wsL_law_r5 := goodIn_p wsL_law_r5 [537, 541, 545] (by decide +kernel) (by decide +kernel)
set_option maxRecDepth 20000 in
theorem wsL_law_r6_g : GoodIn lw_tbl wsL_law_r6 := goodIn_p wsL_law_r6 [249, 252, 256, 271, 260] (by decide +kernel) (by decide +kernel)
set_option maxRecDepth 20000 in
theorem wsL_law_r7_g : GoodIn lw_tbl wsL_law_r7 := goodIn_p wsL_law_r7 [264, 275, 280] (by decide +kernel) (by decide +kernel)
set_option maxRecDepth 20000 in
theorem wsL_law_r8_g : GoodIn lw_tbl wsL_law_r8 := goodIn_p wsL_law_r8 [614, 598, 606, 618, 610, 284] (by decide +kernel) (by decide +kernel)
set_option maxRecDepth 20000 in
theorem wsL_law_r9_g : GoodIn lw_tbl wsL_law_r9 := goodIn_p wsL_law_r9 [288, 293, 297, 301, 622, 626] (by decide +kernel) (by decide +kernel)
set_option maxRecDepth 20000 in
theorem wsL_law_r10_g : GoodIn lw_tbl wsL_law_r10 := goodIn_p wsL_law_r10 [630, 634, 638, 305, 309, 313] (by decide +kernel) (by decide +kernel)
set_option maxRecDepth 20000 in
theorem wsL_law_r11_g : GoodIn lw_tbl wsL_law_r11 := goodIn_p wsL_law_r11 [642, 646, 317, 650, 321] (by decide +kernel) (by decide +kernel)
set_option maxRecDepth 20000 in
theorem wsL_law_r12_g : GoodIn lw_tbl wsL_law_r12 := goodIn_p wsL_law_r12 [654, 325, 658, 329, 333] (by decide +kernel) (by decide +kernel)
set_option maxRecDepth 20000 in
theorem wsL_law_r13_g : GoodIn lw_tbl wsL_law_r13 := goodIn_p wsL_law_r13 [662, 666, 337, 670, 345] (by decide +kernel) (by decide +kernel)
set_option maxRecDepth 20000 in
theorem wsL_law_r14_g : GoodIn lw_tbl wsL_law_r14 := goodIn_p wsL_law_r14 [348, 675, 679, 356, 683] (by decide +kernel) (by decide +kernel)
set_option maxRecDepth 20000 in
theorem wsL_law_r15_g : GoodIn lw_tbl wsL_law_r15 := goodIn_p wsL_law_r15 [360, 364, 368, 372, 376] (by decide +kernel) (by decide +kernel)
set_option maxRecDepth 20000 in
theorem wsL_law_r16_g : GoodIn lw_tbl wsL_law_r16 := goodIn_p wsL_law_r16 [380, 385, 389, 392, 395, 398] (by decide +kernel) (by decide +kernel)
set_option maxRecDepth 20000 in
theorem wsL_law_r17_g : GoodIn lw_tbl wsL_law_r17 := goodIn_p wsL_law_r17 [404, 687, 691, 695] (by decide +kernel) (by decide +kernel)
set_option maxRecDepth 20000 in
theorem wsL_law_r18_g : GoodIn lw_tbl wsL_law_r18 := goodIn_p wsL_law_r18 [699, 703, 707, 711, 714, 718, 412] (by decide +kernel) (by decide +kernel)
set_option maxRecDepth 20000 in
theorem wsL_law_r19_g : GoodIn lw_tbl wsL_law_r19 := goodIn_p wsL_law_r19 [725, 416, 420, 424, 729] (by decide +kernel) (by decide +kernel)
set_option maxRecDepth 20000 in
theorem wsL_law_r20_g : GoodIn lw_tbl wsL_law_r20 := goodIn_p wsL_law_r20 [428, 733, 432, 436, 439] (by decide +kernel) (by decide +kernel)
set_option maxRecDepth 20000 in
theorem wsL_law_r21_g : GoodIn lw_tbl wsL_law_r21 := goodIn_p wsL_law_r21 [447, 737, 740, 451, 455, 591] (by decide +kernel) (by decide +kernel)
set_option maxRecDepth 20000 in
theorem wsL_law_r22_g : GoodIn lw_tbl wsL_law_r22 := goodIn_p wsL_law_r22 [459, 595, 464, 602, 468] (by decide +kernel) (by decide +kernel)
set_option maxRecDepth 20000 in
theorem wsL_law_r23_g : GoodIn lw_tbl wsL_law_r23 := goodIn_p wsL_law_r23 [473, 477, 480, 744, 748] (by decide +kernel) (by decide +kernel)
set_option maxRecDepth 20000 in
theorem wsL_law_r24_g : GoodIn lw_tbl wsL_law_r24 := goodIn_p wsL_law_r24 [752, 756, 484, 760, 488] (by decide +kernel) (by decide +kernel)
set_option maxRecDepth 20000 in
theorem wsL_law_r25_g : GoodIn lw_tbl wsL_law_r25 := goodIn_p wsL_law_r25 [764, 768, 494, 497, 772, 503] (by decide +kernel) (by decide +kernel)
set_option maxRecDepth 20000 in
theorem wsL_law_r26_g : GoodIn lw_tbl wsL_law_r26 := goodIn_p wsL_law_r26 [776, 507, 780, 513, 785] (by decide +kernel) (by decide +kernel)
set_option maxRecDepth 20000 in
theorem wsL_law_r27_g : GoodIn lw_tbl wsL_law_r27 := goodIn_p wsL_law_r27 [517, 521, 789, 793, 525] (by decide +kernel) (by decide +kernel)
set_option maxRecDepth 20000 in
theorem wsL_law_r28_g : GoodIn lw_tbl wsL_law_r28 := goodIn_p wsL_law_r28 [797] (by decide +kernel) (by decide +kernel)
set_option maxRecDepth 20000 in
theorem wsX50_g : GoodIn lw_tbl wsX50 := goodIn_p wsX50 [] (by decide +kernel) (by decide +kernel)
set_option maxRecDepth 20000 in
theorem wsX60_g : GoodIn lw_tbl wsX60 := goodIn_p wsX60 [] (by decide +kernel) (by decide +kernel)
set_option maxRecDepth 20000 in
theorem wsX30_g : GoodIn lw_tbl wsX30 := goodIn_p wsX30 [] (by decide +kernel) (by decide +kernel)
set_option maxRecDepth 20000 in
theorem wsX10_g : GoodIn lw_tbl wsX10 := goodIn_p wsX10 [] (by decide +kernel) (by decide +kernel)
set_option maxRecDepth 20000 in
theorem wsX40_g : GoodIn lw_tbl wsX40 := goodIn_p wsX40 [] (by decide +kernel) (by decide +kernel)
set_option maxRecDepth 20000 in
theorem wsX20_g : GoodIn lw_tbl wsX20 := goodIn_p wsX20 [] (by decide +kernel) (by decide +kernel)
set_option maxRecDepth 20000 in
theorem wsX00_g : GoodIn lw_tbl wsX00 := goodIn_p wsX00 [] (by decide +kernel) (by decide +kernel)
theorem wsN_g : GoodIn lw_tbl ([] : List Cond) := fun _ h => absurd h List.not_mem_nil
theorem wsL_law_g : GoodIn lw_tbl wsL_law := (goodIn_app (goodIn_app (goodIn_app (goodIn_app (goodIn_app (goodIn_app (goodIn_app (goodIn_app (goodIn_app wsL_law_r1_g (goodIn_app wsL_law_r2_g (goodIn_app wsL_law_r3_g (goodIn_app wsL_law_r4_g (goodIn_app wsL_law_r5_g (goodIn_app wsL_law_r6_g (goodIn_app wsL_law_r7_g (goodIn_app wsL_law_r8_g (goodIn_app wsL_law_r9_g (goodIn_app wsL_law_r10_g (goodIn_app wsL_law_r11_g (goodIn_app wsL_law_r12_g (goodIn_app wsL_law_r13_g (goodIn_app wsL_law_r14_g (goodIn_app wsL_law_r15_g (goodIn_app wsL_law_r16_g (goodIn_app wsL_law_r17_g (goodIn_app wsL_law_r18_g (goodIn_app wsL_law_r19_g (goodIn_app wsL_law_r20_g (goodIn_app wsL_law_r21_g (goodIn_app wsL_law_r22_g (goodIn_app wsL_law_r23_g (goodIn_app wsL_law_r24_g (goodIn_app wsL_law_r25_g (goodIn_app wsL_law_r26_g (goodIn_app wsL_law_r27_g wsL_law_r28_g))))))))))))))))))))))))))) wsX50_g) wsX60_g) wsX30_g) wsX10_g) wsX40_g) wsX20_g) wsX00_g) wsN_g)
theorem wsL_law_in : ∀ w ∈ wsL_law, w ∈ lw_tbl := fun w h => (wsL_law_g w h).1
theorem inlX0 : ∀ w ∈ wsX00, w ∈ wsL_law := fun _ h => List.mem_append_left _ (List.mem_append_right _ h)
theorem inX0 : ∀ w ∈ wsX00, w ∈ lw_tbl := fun w h => wsL_law_in w (inlX0 w h)
theorem inlX1 : ∀ w ∈ wsX10, w ∈ wsL_law := fun _ h => List.mem_append_left _ (List.mem_append_left _ (List.mem_append_left _ (List.mem_append_left _ (List.mem_append_right _ h))))
theorem inX1 : ∀ w ∈ wsX10, w ∈ lw_tbl := fun w h => wsL_law_in w (inlX1 w h)
theorem inlX2 : ∀ w ∈ wsX20, w ∈ wsL_law := fun _ h => List.mem_append_left _ (List.mem_append_left _ (List.mem_append_right _ h))
theorem inX2 : ∀ w ∈ wsX20, w ∈ lw_tbl := fun w h => wsL_law_in w (inlX2 w h)
theorem inlX3 : ∀ w ∈ wsX30, w ∈ wsL_law := fun _ h => List.mem_append_left _ (List.mem_append_left _ (List.mem_append_left _ (List.mem_append_left _ (List.mem_append_left _ (List.mem_append_right _ h)))))
theorem inX3 : ∀ w ∈ wsX30, w ∈ lw_tbl := fun w h => wsL_law_in w (inlX3 w h)
theorem inlX4 : ∀ w ∈ wsX40, w ∈ wsL_law := fun _ h => List.mem_append_left _ (List.mem_append_left _ (List.mem_append_left _ (List.mem_append_right _ h)))
theorem inX4 : ∀ w ∈ wsX40, w ∈ lw_tbl := fun w h => wsL_law_in w (inlX4 w h)
theorem inlX5 : ∀ w ∈ wsX50, w ∈ wsL_law := fun _ h => List.mem_append_left _ (List.mem_append_left _ (List.mem_append_left _ (List.mem_append_left _ (List.mem_append_left _ (List.mem_append_left _ (List.mem_append_left _ (List.mem_append_right _ h)))))))
theorem inX5 : ∀ w ∈ wsX50, w ∈ lw_tbl := fun w h => wsL_law_in w (inlX5 w h)
theorem inlX6 : ∀ w ∈ wsX60, w ∈ wsL_law := fun _ h => List.mem_append_left _ (List.mem_append_left _ (List.mem_append_left _ (List.mem_append_left _ (List.mem_append_left _ (List.mem_append_left _ (List.mem_append_right _ h))))))
theorem inX6 : ∀ w ∈ wsX60, w ∈ lw_tbl := fun w h => wsL_law_in w (inlX6 w h)
