set_option maxRecDepth 20000 in
theorem gL_law_X10_ends : GoodIn wsL_law (wsV RL 50 RX10 yX10_ends wsX10_ends) := goodIn_app (goodIn_of _ (by decide +kernel)) ggL_law_X10_ends
set_option maxRecDepth 20000 in
theorem ggL_law_X9_now_h : GoodIn wsL_law [Cond.code yX9_now cX9_now 2 (some .int)] := goodIn_r _ [619] (by decide +kernel) (by decide +kernel)
set_option maxRecDepth 20000 in
theorem ggL_law_X9_now_p0 : GoodIn wsL_law [Cond.fieldLink RX9 73 "HalfLadders" "present" "LHalfLadders$Now;", Cond.fieldLink RX9 174 "HalfLadders$Now" "day" "I", Cond.fieldLink RX9 180 "HalfLadders$Now" "picked" "I", Cond.fieldLink RX9 183 "HalfLadders$Now" "fallen" "I", Cond.fieldLink RX9 28 "HalfLadders" "told" "LHalfLadders$Orchard;", Cond.fieldLink RX9 131 "HalfLadders$Now" "climbers" "I", Cond.methodLink RX9 186 yX2_leftOnAll, Cond.instanceMethod yX2_leftOnAll, Cond.selects RX2 yX2_leftOnAll yX2_leftOnAll, Cond.initialized RX2, Cond.code yX2_leftOnAll cX2_leftOnAll 4 (some .int), Cond.fieldLink RX2 34 "HalfLadders$Orchard" "trees" "I", Cond.fieldLink RX2 30 "HalfLadders$Now" "left" "[I"] := goodIn_r _ [49, 602, 620, 621, 24, 503, 622, 623, 624, 48, 625, 260, 132] (by decide +kernel) (by decide +kernel)
set_option maxRecDepth 20000 in
theorem ggL_law_X9_now_wsX90 : GoodIn wsL_law wsX90 := goodIn_sub inlX9 (by decide +kernel)
set_option maxRecDepth 20000 in
theorem ggL_law_X9_now_wsX20 : GoodIn wsL_law wsX20 := goodIn_sub inlX2 (by decide +kernel)
set_option maxRecDepth 20000 in
theorem ggL_law_X9_now_wsX30 : GoodIn wsL_law wsX30 := goodIn_sub inlX3 (by decide +kernel)
set_option maxRecDepth 20000 in
theorem ggL_law_X9_now : GoodIn wsL_law wsX9_now := fun w h => (List.mem_cons.mp h).elim (fun e => ggL_law_X9_now_h w (List.mem_cons.mpr (Or.inl e))) (fun h => (goodIn_app (goodIn_app (goodIn_app (show GoodIn wsL_law [Cond.fieldLink RX9 73 "HalfLadders" "present" "LHalfLadders$Now;", Cond.fieldLink RX9 174 "HalfLadders$Now" "day" "I", Cond.fieldLink RX9 180 "HalfLadders$Now" "picked" "I", Cond.fieldLink RX9 183 "HalfLadders$Now" "fallen" "I", Cond.fieldLink RX9 28 "HalfLadders" "told" "LHalfLadders$Orchard;", Cond.fieldLink RX9 131 "HalfLadders$Now" "climbers" "I", Cond.methodLink RX9 186 yX2_leftOnAll, Cond.instanceMethod yX2_leftOnAll, Cond.selects RX2 yX2_leftOnAll yX2_leftOnAll, Cond.initialized RX2, Cond.code yX2_leftOnAll cX2_leftOnAll 4 (some .int), Cond.fieldLink RX2 34 "HalfLadders$Orchard" "trees" "I", Cond.fieldLink RX2 30 "HalfLadders$Now" "left" "[I"] from ggL_law_X9_now_p0) ggL_law_X9_now_wsX90) ggL_law_X9_now_wsX20) ggL_law_X9_now_wsX30) w h)
set_option maxRecDepth 20000 in
theorem gL_law_X9_now : GoodIn wsL_law (wsV RL 51 RX9 yX9_now wsX9_now) := goodIn_app (goodIn_of _ (by decide +kernel)) ggL_law_X9_now
set_option maxRecDepth 20000 in
theorem ggL_law_X10_now_h : GoodIn wsL_law [Cond.code yX10_now cX10_now 4 (some .int)] := goodIn_r _ [629] (by decide +kernel) (by decide +kernel)
set_option maxRecDepth 20000 in
theorem ggL_law_X10_now_p0 : GoodIn wsL_law [Cond.fieldLink RX10 33 "HalfLaddersModel" "trees" "[I", Cond.fieldLink RX10 45 "HalfLaddersModel" "now" "[I"] := goodIn_r _ [273, 277] (by decide +kernel) (by decide +kernel)
set_option maxRecDepth 20000 in
theorem ggL_law_X10_now_wsX100 : GoodIn wsL_law wsX100 := goodIn_sub inlX10 (by decide +kernel)
set_option maxRecDepth 20000 in
theorem ggL_law_X10_now : GoodIn wsL_law wsX10_now := fun w h => (List.mem_cons.mp h).elim (fun e => ggL_law_X10_now_h w (List.mem_cons.mpr (Or.inl e))) (fun h => (goodIn_app (show GoodIn wsL_law [Cond.fieldLink RX10 33 "HalfLaddersModel" "trees" "[I", Cond.fieldLink RX10 45 "HalfLaddersModel" "now" "[I"] from ggL_law_X10_now_p0) ggL_law_X10_now_wsX100) w h)
set_option maxRecDepth 20000 in
theorem gL_law_X10_now : GoodIn wsL_law (wsV RL 55 RX10 yX10_now wsX10_now) := goodIn_app (goodIn_of _ (by decide +kernel)) ggL_law_X10_now
set_option maxRecDepth 20000 in
theorem ggL_law_X9_year_h : GoodIn wsL_law [Cond.code yX9_year cX9_year 1 (some .int)] := goodIn_r _ [633] (by decide +kernel) (by decide +kernel)
set_option maxRecDepth 20000 in
theorem ggL_law_X9_year_r1 : GoodIn wsL_law wsX9_year_r1 := goodIn_r _ [49, 24, 252, 253, 254, 48, 255, 126, 127, 128, 129, 130, 634, 635, 636, 637, 260, 131, 638, 132, 261, 622, 623, 624] (by decide +kernel) (by decide +kernel)
