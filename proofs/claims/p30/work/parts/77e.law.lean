set_option maxRecDepth 20000 in
theorem wsL_law_r18_g0 : GoodIn lw_tbl [Cond.fieldLink RX5 142 "ScannedDigits$Text" "patterns" "[I", Cond.fieldLink RX5 149 "ScannedDigits$Text" "needed" "I", Cond.methodLink RX5 139 yX4_layOut, Cond.instanceMethod yX4_layOut, Cond.selects RX4 yX4_layOut yX4_layOut] := goodIn_p _ [] (by decide +kernel) (by decide +kernel)
set_option maxRecDepth 20000 in
theorem wsL_law_r18_g1 : GoodIn lw_tbl [Cond.code yX4_layOut cX4_layOut 6 (some .int)] := by
  intro w h
  obtain rfl := List.mem_singleton.mp h
  exact ⟨List.mem_of_getElem? (i := 515) rfl, Or.inl rfl⟩
set_option maxRecDepth 20000 in
theorem wsL_law_r18_g2 : GoodIn lw_tbl [Cond.fieldLink RX4 23 "ScannedDigits$Text" "needed" "I", Cond.static yX5_patternOf] := goodIn_p _ [] (by decide +kernel) (by decide +kernel)
set_option maxRecDepth 20000 in
theorem wsL_law_r18_g3 : GoodIn lw_tbl [Cond.code yX5_patternOf cX5_patternOf 2 (some .int)] := by
  intro w h
  obtain rfl := List.mem_singleton.mp h
  exact ⟨List.mem_of_getElem? (i := 518) rfl, Or.inl rfl⟩
set_option maxRecDepth 20000 in
theorem wsL_law_r18_g4 : GoodIn lw_tbl [Cond.methodLink RX5 145 yX3_takePatterns, Cond.instanceMethod yX3_takePatterns, Cond.selects RX3 yX3_takePatterns yX3_takePatterns] := goodIn_p _ [] (by decide +kernel) (by decide +kernel)
set_option maxRecDepth 20000 in
theorem wsL_law_r18_g5 : GoodIn lw_tbl [Cond.code yX3_takePatterns cX3_takePatterns 3 none] := by
  intro w h
  obtain rfl := List.mem_singleton.mp h
  exact ⟨List.mem_of_getElem? (i := 522) rfl, Or.inl rfl⟩
set_option maxRecDepth 20000 in
theorem wsL_law_r18_g6 : GoodIn lw_tbl [Cond.methodLink RL 126 yL_digits, Cond.static yL_digits] := goodIn_p _ [] (by decide +kernel) (by decide +kernel)
set_option maxRecDepth 20000 in
theorem wsL_law_r18_g7 : GoodIn lw_tbl [Cond.code yL_digits cL_digits 12 (some .boolean)] := by
  intro w h
  obtain rfl := List.mem_singleton.mp h
  exact ⟨List.mem_of_getElem? (i := 430) rfl, Or.inl rfl⟩
set_option maxRecDepth 20000 in
theorem wsL_law_r18_g8 : GoodIn lw_tbl [Cond.methodLink RL 129 yL_groups, Cond.static yL_groups] := goodIn_p _ [] (by decide +kernel) (by decide +kernel)
set_option maxRecDepth 20000 in
theorem wsL_law_r18_g9 : GoodIn lw_tbl [Cond.code yL_groups cL_groups 6 (some .boolean)] := by
  intro w h
  obtain rfl := List.mem_singleton.mp h
  exact ⟨List.mem_of_getElem? (i := 437) rfl, Or.inl rfl⟩
set_option maxRecDepth 20000 in
theorem wsL_law_r18_g10 : GoodIn lw_tbl [Cond.methodLink RL 132 yL_errors, Cond.static yL_errors] := goodIn_p _ [] (by decide +kernel) (by decide +kernel)
set_option maxRecDepth 20000 in
theorem wsL_law_r18_g11 : GoodIn lw_tbl [Cond.code yL_errors cL_errors 3 (some .boolean)] := by
  intro w h
  obtain rfl := List.mem_singleton.mp h
  exact ⟨List.mem_of_getElem? (i := 525) rfl, Or.inl rfl⟩
set_option maxRecDepth 20000 in
theorem wsL_law_r18_g12 : GoodIn lw_tbl [Cond.methodLink RL 97 yX5_keep, Cond.instanceMethod yX5_keep] := goodIn_p _ [] (by decide +kernel) (by decide +kernel)
theorem wsL_law_r18_g : GoodIn lw_tbl wsL_law_r18 := (goodIn_app wsL_law_r18_g0 (goodIn_app wsL_law_r18_g1 (goodIn_app wsL_law_r18_g2 (goodIn_app wsL_law_r18_g3 (goodIn_app wsL_law_r18_g4 (goodIn_app wsL_law_r18_g5 (goodIn_app wsL_law_r18_g6 (goodIn_app wsL_law_r18_g7 (goodIn_app wsL_law_r18_g8 (goodIn_app wsL_law_r18_g9 (goodIn_app wsL_law_r18_g10 (goodIn_app wsL_law_r18_g11 wsL_law_r18_g12))))))))))))
