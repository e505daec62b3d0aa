set_option maxRecDepth 20000 in
theorem ggL_law_X9_year_r2 : GoodIn wsL_law wsX9_year_r2 := goodIn_r _ [625] (by decide +kernel) (by decide +kernel)
set_option maxRecDepth 20000 in
theorem ggL_law_X9_year_wsX90 : GoodIn wsL_law wsX90 := goodIn_sub inlX9 (by decide +kernel)
set_option maxRecDepth 20000 in
theorem ggL_law_X9_year_wsX20 : GoodIn wsL_law wsX20 := goodIn_sub inlX2 (by decide +kernel)
set_option maxRecDepth 20000 in
theorem ggL_law_X9_year_wsX30 : GoodIn wsL_law wsX30 := goodIn_sub inlX3 (by decide +kernel)
set_option maxRecDepth 20000 in
theorem ggL_law_X9_year : GoodIn wsL_law wsX9_year := fun w h => (List.mem_cons.mp h).elim (fun e => ggL_law_X9_year_h w (List.mem_cons.mpr (Or.inl e))) (fun h => (goodIn_app (goodIn_app (goodIn_app (goodIn_app ggL_law_X9_year_r1 (ggL_law_X9_year_r2)) ggL_law_X9_year_wsX90) ggL_law_X9_year_wsX20) ggL_law_X9_year_wsX30) w h)
set_option maxRecDepth 20000 in
theorem gL_law_X9_year : GoodIn wsL_law (wsV RL 56 RX9 yX9_year wsX9_year) := goodIn_app (goodIn_of _ (by decide +kernel)) ggL_law_X9_year
set_option maxRecDepth 20000 in
theorem ggL_law_X10_year_h : GoodIn wsL_law [Cond.code yX10_year cX10_year 3 (some .int)] := goodIn_r _ [642] (by decide +kernel) (by decide +kernel)
set_option maxRecDepth 20000 in
theorem ggL_law_X10_year_p0 : GoodIn wsL_law [Cond.fieldLink RX10 33 "HalfLaddersModel" "trees" "[I", Cond.fieldLink RX10 45 "HalfLaddersModel" "now" "[I", Cond.constant RX10 151 (1103515245), Cond.fieldLink RX10 42 "HalfLaddersModel" "hangs" "[I", Cond.methodLink RX10 119 yX10_begin, Cond.instanceMethod yX10_begin, Cond.selects RX10 yX10_begin yX10_begin, Cond.initialized RX10, Cond.code yX10_begin cX10_begin 1 none] := goodIn_r _ [273, 277, 643, 276, 491, 492, 493, 5, 494] (by decide +kernel) (by decide +kernel)
set_option maxRecDepth 20000 in
theorem ggL_law_X10_year_wsX100 : GoodIn wsL_law wsX100 := goodIn_sub inlX10 (by decide +kernel)
set_option maxRecDepth 20000 in
theorem ggL_law_X10_year : GoodIn wsL_law wsX10_year := fun w h => (List.mem_cons.mp h).elim (fun e => ggL_law_X10_year_h w (List.mem_cons.mpr (Or.inl e))) (fun h => (goodIn_app (show GoodIn wsL_law [Cond.fieldLink RX10 33 "HalfLaddersModel" "trees" "[I", Cond.fieldLink RX10 45 "HalfLaddersModel" "now" "[I", Cond.constant RX10 151 (1103515245), Cond.fieldLink RX10 42 "HalfLaddersModel" "hangs" "[I", Cond.methodLink RX10 119 yX10_begin, Cond.instanceMethod yX10_begin, Cond.selects RX10 yX10_begin yX10_begin, Cond.initialized RX10, Cond.code yX10_begin cX10_begin 1 none] from ggL_law_X10_year_p0) ggL_law_X10_year_wsX100) w h)
set_option maxRecDepth 20000 in
theorem gL_law_X10_year : GoodIn wsL_law (wsV RL 59 RX10 yX10_year wsX10_year) := goodIn_app (goodIn_of _ (by decide +kernel)) ggL_law_X10_year
set_option maxRecDepth 20000 in
theorem ggL_law_X9_lot_h : GoodIn wsL_law [Cond.code yX9_lot cX9_lot 3 (some .int)] := goodIn_r _ [647] (by decide +kernel) (by decide +kernel)
set_option maxRecDepth 20000 in
theorem ggL_law_X9_lot_p0 : GoodIn wsL_law [Cond.fieldLink RX9 73 "HalfLadders" "present" "LHalfLadders$Now;", Cond.fieldLink RX9 92 "HalfLadders$Now" "theLot" "I"] := goodIn_r _ [49, 55] (by decide +kernel) (by decide +kernel)
set_option maxRecDepth 20000 in
theorem ggL_law_X9_lot_wsX90 : GoodIn wsL_law wsX90 := goodIn_sub inlX9 (by decide +kernel)
