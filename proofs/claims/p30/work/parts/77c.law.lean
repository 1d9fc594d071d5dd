set_option maxRecDepth 20000 in
theorem wsL_law_r12_g0 : GoodIn lw_tbl [Cond.fieldLink RX5 99 "ScannedDigits" "MOST_SETTINGS" "[I", Cond.methodLink RL 23 yL_bits, Cond.static yL_bits] := goodIn_p _ [] (by decide +kernel) (by decide +kernel)
set_option maxRecDepth 20000 in
theorem wsL_law_r12_g1 : GoodIn lw_tbl [Cond.code yL_bits cL_bits 3 (some .int)] := by
  intro w h
  obtain rfl := List.mem_singleton.mp h
  exact ⟨List.mem_of_getElem? (i := 427) rfl, Or.inl rfl⟩
set_option maxRecDepth 20000 in
theorem wsL_law_r12_g2 : GoodIn lw_tbl [Cond.methodLink RL 91 yX5_replace, Cond.instanceMethod yX5_replace, Cond.selects RX5 yX5_replace yX5_replace] := goodIn_p _ [] (by decide +kernel) (by decide +kernel)
set_option maxRecDepth 20000 in
theorem wsL_law_r12_g3 : GoodIn lw_tbl [Cond.code yX5_replace cX5_replace 4 (some .int)] := by
  intro w h
  obtain rfl := List.mem_singleton.mp h
  exact ⟨List.mem_of_getElem? (i := 319) rfl, Or.inl rfl⟩
set_option maxRecDepth 20000 in
theorem wsL_law_r12_g4 : GoodIn lw_tbl [Cond.methodLink RX5 108 yJ6_bitCount_0f7a4, Cond.methodLink RX5 113 yX0_renewSegments, Cond.methodLink RL 94 yX5_test, Cond.instanceMethod yX5_test, Cond.selects RX5 yX5_test yX5_test] := goodIn_p _ [] (by decide +kernel) (by decide +kernel)
set_option maxRecDepth 20000 in
theorem wsL_law_r12_g5 : GoodIn lw_tbl [Cond.code yX5_test cX5_test 3 (some .int)] := by
  intro w h
  obtain rfl := List.mem_singleton.mp h
  exact ⟨List.mem_of_getElem? (i := 330) rfl, Or.inl rfl⟩
set_option maxRecDepth 20000 in
theorem wsL_law_r12_g6 : GoodIn lw_tbl [Cond.methodLink RL 108 yL_ticks, Cond.static yL_ticks] := goodIn_p _ [] (by decide +kernel) (by decide +kernel)
set_option maxRecDepth 20000 in
theorem wsL_law_r12_g7 : GoodIn lw_tbl [Cond.code yL_ticks cL_ticks 16 (some .boolean)] := by
  intro w h
  obtain rfl := List.mem_singleton.mp h
  exact ⟨List.mem_of_getElem? (i := 440) rfl, Or.inl rfl⟩
set_option maxRecDepth 20000 in
theorem wsL_law_r12_g8 : GoodIn lw_tbl [Cond.methodLink RL 31 yL_lit, Cond.static yL_lit] := goodIn_p _ [] (by decide +kernel) (by decide +kernel)
set_option maxRecDepth 20000 in
theorem wsL_law_r12_g9 : GoodIn lw_tbl [Cond.code yL_lit cL_lit 6 (some .int)] := by
  intro w h
  obtain rfl := List.mem_singleton.mp h
  exact ⟨List.mem_of_getElem? (i := 443) rfl, Or.inl rfl⟩
set_option maxRecDepth 20000 in
theorem wsL_law_r12_g10 : GoodIn lw_tbl [Cond.methodLink RL 35 yX5_litIn, Cond.instanceMethod yX5_litIn, Cond.selects RX5 yX5_litIn yX5_litIn] := goodIn_p _ [] (by decide +kernel) (by decide +kernel)
set_option maxRecDepth 20000 in
theorem wsL_law_r12_g11 : GoodIn lw_tbl [Cond.code yX5_litIn cX5_litIn 3 (some .int)] := by
  intro w h
  obtain rfl := List.mem_singleton.mp h
  exact ⟨List.mem_of_getElem? (i := 447) rfl, Or.inl rfl⟩
theorem wsL_law_r12_g : GoodIn lw_tbl wsL_law_r12 := (goodIn_app wsL_law_r12_g0 (goodIn_app wsL_law_r12_g1 (goodIn_app wsL_law_r12_g2 (goodIn_app wsL_law_r12_g3 (goodIn_app wsL_law_r12_g4 (goodIn_app wsL_law_r12_g5 (goodIn_app wsL_law_r12_g6 (goodIn_app wsL_law_r12_g7 (goodIn_app wsL_law_r12_g8 (goodIn_app wsL_law_r12_g9 (goodIn_app wsL_law_r12_g10 wsL_law_r12_g11)))))))))))
set_option maxRecDepth 20000 in
theorem wsL_law_r13_g : GoodIn lw_tbl wsL_law_r13 := goodIn_p wsL_law_r13 [338, 342, 350, 354] (by decide +kernel) (by decide +kernel)
