set_option maxRecDepth 20000 in
theorem ggL_law_X9_whose_wsX40 : GoodIn wsL_law wsX40 := goodIn_sub inlX4 (by decide +kernel)
set_option maxRecDepth 20000 in
theorem ggL_law_X9_whose : GoodIn wsL_law wsX9_whose := fun w h => (List.mem_cons.mp h).elim (fun e => ggL_law_X9_whose_h w (List.mem_cons.mpr (Or.inl e))) (fun h => (goodIn_app (goodIn_app (show GoodIn wsL_law [Cond.fieldLink RX9 38 "HalfLadders" "pairs" "LHalfLadders$Pairs;", Cond.methodLink RX9 242 yX4_howMany, Cond.instanceMethod yX4_howMany, Cond.selects RX4 yX4_howMany yX4_howMany, Cond.initialized RX4, Cond.code yX4_howMany cX4_howMany 5 (some .int), Cond.fieldLink RX4 9 "HalfLadders$Pairs" "count" "I", Cond.methodLink RX4 66 yX4_leavesMarks, Cond.instanceMethod yX4_leavesMarks, Cond.selects RX4 yX4_leavesMarks yX4_leavesMarks, Cond.code yX4_leavesMarks cX4_leavesMarks 4 (some .boolean), Cond.fieldLink RX4 28 "HalfLadders$Pairs" "gaps" "[I", Cond.fieldLink RX4 31 "HalfLadders$Pairs" "ladders" "[I", Cond.methodLink RX9 245 yX4_firstOf, Cond.instanceMethod yX4_firstOf, Cond.selects RX4 yX4_firstOf yX4_firstOf, Cond.code yX4_firstOf cX4_firstOf 4 (some .int), Cond.methodLink RX4 70 yX4_numberOf, Cond.instanceMethod yX4_numberOf, Cond.selects RX4 yX4_numberOf yX4_numberOf, Cond.code yX4_numberOf cX4_numberOf 2 (some .int), Cond.fieldLink RX4 18 "HalfLadders$Pairs" "lefts" "[I", Cond.fieldLink RX4 22 "HalfLadders$Pairs" "rights" "[I"] from goodIn_app ggL_law_X9_whose_p0 (ggL_law_X9_whose_p1)) ggL_law_X9_whose_wsX90) ggL_law_X9_whose_wsX40) w h)
set_option maxRecDepth 20000 in
theorem gL_law_X9_whose : GoodIn wsL_law (wsV RL 92 RX9 yX9_whose wsX9_whose) := goodIn_app (goodIn_of _ (by decide +kernel)) ggL_law_X9_whose
set_option maxRecDepth 20000 in
theorem ggL_law_X10_whose_h : GoodIn wsL_law [Cond.code yX10_whose cX10_whose 8 (some .int)] := goodIn_r _ [849] (by decide +kernel) (by decide +kernel)
set_option maxRecDepth 20000 in
theorem ggL_law_X10_whose_p0 : GoodIn wsL_law [Cond.fieldLink RX10 13 "HalfLaddersModel" "people" "[I", Cond.fieldLink RX10 17 "HalfLaddersModel" "side" "[I", Cond.fieldLink RX10 20 "HalfLaddersModel" "gap" "[I", Cond.methodLink RX10 72 yX10_in, Cond.static yX10_in, Cond.initialized RX10, Cond.code yX10_in cX10_in 3 (some .boolean), Cond.methodLink RX10 129 yX10_fits, Cond.instanceMethod yX10_fits, Cond.selects RX10 yX10_fits yX10_fits, Cond.code yX10_fits cX10_fits 3 (some .boolean), Cond.fieldLink RX10 29 "HalfLaddersModel" "quarrel" "[Z", Cond.methodLink RX10 133 yX10_ladder, Cond.instanceMethod yX10_ladder, Cond.selects RX10 yX10_ladder yX10_ladder, Cond.code yX10_ladder cX10_ladder 3 (some .int), Cond.fieldLink RX10 23 "HalfLaddersModel" "tall" "[I"] := goodIn_r _ [267, 268, 269, 305, 306, 5, 307, 547, 548, 549, 550, 272, 586, 587, 588, 589, 270] (by decide +kernel) (by decide +kernel)
set_option maxRecDepth 20000 in
theorem ggL_law_X10_whose_wsX100 : GoodIn wsL_law wsX100 := goodIn_sub inlX10 (by decide +kernel)
set_option maxRecDepth 20000 in
theorem ggL_law_X10_whose : GoodIn wsL_law wsX10_whose := fun w h => (List.mem_cons.mp h).elim (fun e => ggL_law_X10_whose_h w (List.mem_cons.mpr (Or.inl e))) (fun h => (goodIn_app (show GoodIn wsL_law [Cond.fieldLink RX10 13 "HalfLaddersModel" "people" "[I", Cond.fieldLink RX10 17 "HalfLaddersModel" "side" "[I", Cond.fieldLink RX10 20 "HalfLaddersModel" "gap" "[I", Cond.methodLink RX10 72 yX10_in, Cond.static yX10_in, Cond.initialized RX10, Cond.code yX10_in cX10_in 3 (some .boolean), Cond.methodLink RX10 129 yX10_fits, Cond.instanceMethod yX10_fits, Cond.selects RX10 yX10_fits yX10_fits, Cond.code yX10_fits cX10_fits 3 (some .boolean), Cond.fieldLink RX10 29 "HalfLaddersModel" "quarrel" "[Z", Cond.methodLink RX10 133 yX10_ladder, Cond.instanceMethod yX10_ladder, Cond.selects RX10 yX10_ladder yX10_ladder, Cond.code yX10_ladder cX10_ladder 3 (some .int), Cond.fieldLink RX10 23 "HalfLaddersModel" "tall" "[I"] from ggL_law_X10_whose_p0) ggL_law_X10_whose_wsX100) w h)
set_option maxRecDepth 20000 in
theorem gL_law_X10_whose : GoodIn wsL_law (wsV RL 95 RX10 yX10_whose wsX10_whose) := goodIn_app (goodIn_of _ (by decide +kernel)) ggL_law_X10_whose
set_option maxRecDepth 20000 in
theorem ggL_law_X9_mark_h : GoodIn wsL_law [Cond.code yX9_mark cX9_mark 3 (some .int)] := goodIn_r _ [853] (by decide +kernel) (by decide +kernel)
set_option maxRecDepth 20000 in
theorem ggL_law_X9_mark_r1 : GoodIn wsL_law wsX9_mark_r1 := goodIn_r _ [24, 854, 504, 163, 164, 23, 165, 77, 855, 856, 2, 857, 54, 858, 501, 859, 500, 502, 29, 49, 602, 860, 861, 862] (by decide +kernel) (by decide +kernel)
set_option maxRecDepth 20000 in
theorem ggL_law_X9_mark_r2 : GoodIn wsL_law wsX9_mark_r2 := goodIn_r _ [28, 863, 90, 94] (by decide +kernel) (by decide +kernel)
set_option maxRecDepth 20000 in
theorem ggL_law_X9_mark_wsX90 : GoodIn wsL_law wsX90 := goodIn_sub inlX9 (by decide +kernel)
set_option maxRecDepth 20000 in
theorem ggL_law_X9_mark_wsX30 : GoodIn wsL_law wsX30 := goodIn_sub inlX3 (by decide +kernel)
set_option maxRecDepth 20000 in
theorem ggL_law_X9_mark_wsX20 : GoodIn wsL_law wsX20 := goodIn_sub inlX2 (by decide +kernel)
