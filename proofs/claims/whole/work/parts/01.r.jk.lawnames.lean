set_option maxRecDepth 20000 in
theorem ggL_law_X10_season_r2 : GoodIn wsL_law wsX10_season_r2 := goodIn_r _ [512, 267, 582, 583, 584, 585, 275, 274, 547, 548, 549, 550, 269, 272, 586, 587, 588, 589, 270, 709, 710, 711, 594, 595] (by decide +kernel) (by decide +kernel)
set_option maxRecDepth 20000 in
theorem ggL_law_X10_season_r3 : GoodIn wsL_law wsX10_season_r3 := goodIn_r _ [596, 597, 271, 590, 591, 592, 593, 612, 613, 614, 615] (by decide +kernel) (by decide +kernel)
set_option maxRecDepth 20000 in
theorem ggL_law_X10_season_wsX100 : GoodIn wsL_law wsX100 := goodIn_sub inlX10 (by decide +kernel)
set_option maxRecDepth 20000 in
theorem ggL_law_X10_season : GoodIn wsL_law wsX10_season := fun w h => (List.mem_cons.mp h).elim (fun e => ggL_law_X10_season_h w (List.mem_cons.mpr (Or.inl e))) (fun h => (goodIn_app (goodIn_app ggL_law_X10_season_r1 (goodIn_app ggL_law_X10_season_r2 (ggL_law_X10_season_r3))) ggL_law_X10_season_wsX100) w h)
set_option maxRecDepth 20000 in
theorem gL_law_X10_season : GoodIn wsL_law (wsV RL 71 RX10 yX10_season wsX10_season) := goodIn_app (goodIn_of _ (by decide +kernel)) ggL_law_X10_season
set_option maxRecDepth 20000 in
theorem ggL_law_X9_whole_h : GoodIn wsL_law [Cond.code yX9_whole cX9_whole 2 (some .int)] := goodIn_r _ [736] (by decide +kernel) (by decide +kernel)
set_option maxRecDepth 20000 in
theorem ggL_law_X9_whole_p0 : GoodIn wsL_law [Cond.fieldLink RX9 45 "HalfLadders" "sums" "LHalfLadders$Sums;", Cond.fieldLink RX9 214 "HalfLadders$Sums" "wholes" "[I", Cond.fieldLink RX9 28 "HalfLadders" "told" "LHalfLadders$Orchard;", Cond.methodLink RX9 217 yX3_everybody, Cond.instanceMethod yX3_everybody, Cond.selects RX3 yX3_everybody yX3_everybody, Cond.initialized RX3, Cond.code yX3_everybody cX3_everybody 1 (some .int), Cond.fieldLink RX3 9 "HalfLadders$Orchard" "people" "I"] := goodIn_r _ [33, 737, 24, 738, 171, 172, 23, 173, 77] (by decide +kernel) (by decide +kernel)
set_option maxRecDepth 20000 in
theorem ggL_law_X9_whole_wsX90 : GoodIn wsL_law wsX90 := goodIn_sub inlX9 (by decide +kernel)
set_option maxRecDepth 20000 in
theorem ggL_law_X9_whole_wsX70 : GoodIn wsL_law wsX70 := goodIn_sub inlX7 (by decide +kernel)
set_option maxRecDepth 20000 in
theorem ggL_law_X9_whole_wsX30 : GoodIn wsL_law wsX30 := goodIn_sub inlX3 (by decide +kernel)
set_option maxRecDepth 20000 in
theorem ggL_law_X9_whole : GoodIn wsL_law wsX9_whole := fun w h => (List.mem_cons.mp h).elim (fun e => ggL_law_X9_whole_h w (List.mem_cons.mpr (Or.inl e))) (fun h => (goodIn_app (goodIn_app (goodIn_app (show GoodIn wsL_law [Cond.fieldLink RX9 45 "HalfLadders" "sums" "LHalfLadders$Sums;", Cond.fieldLink RX9 214 "HalfLadders$Sums" "wholes" "[I", Cond.fieldLink RX9 28 "HalfLadders" "told" "LHalfLadders$Orchard;", Cond.methodLink RX9 217 yX3_everybody, Cond.instanceMethod yX3_everybody, Cond.selects RX3 yX3_everybody yX3_everybody, Cond.initialized RX3, Cond.code yX3_everybody cX3_everybody 1 (some .int), Cond.fieldLink RX3 9 "HalfLadders$Orchard" "people" "I"] from ggL_law_X9_whole_p0) ggL_law_X9_whole_wsX90) ggL_law_X9_whole_wsX70) ggL_law_X9_whole_wsX30) w h)
set_option maxRecDepth 20000 in
theorem gL_law_X9_whole : GoodIn wsL_law (wsV RL 72 RX9 yX9_whole wsX9_whole) := goodIn_app (goodIn_of _ (by decide +kernel)) ggL_law_X9_whole
set_option maxRecDepth 20000 in
theorem ggL_law_X10_whole_h : GoodIn wsL_law [Cond.code yX10_whole cX10_whole 2 (some .int)] := goodIn_r _ [742] (by decide +kernel) (by decide +kernel)
set_option maxRecDepth 20000 in
theorem ggL_law_X10_whole_p0 : GoodIn wsL_law [Cond.fieldLink RX10 57 "HalfLaddersModel" "wholes" "[I", Cond.fieldLink RX10 13 "HalfLaddersModel" "people" "[I", Cond.methodLink RX10 166 yX10_findWholes, Cond.instanceMethod yX10_findWholes, Cond.selects RX10 yX10_findWholes yX10_findWholes, Cond.initialized RX10, Cond.code yX10_findWholes cX10_findWholes 7 none, Cond.fieldLink RX10 26 "HalfLaddersModel" "pace" "[I", Cond.methodLink RX10 129 yX10_fits, Cond.instanceMethod yX10_fits, Cond.selects RX10 yX10_fits yX10_fits, Cond.code yX10_fits cX10_fits 3 (some .boolean), Cond.fieldLink RX10 17 "HalfLaddersModel" "side" "[I", Cond.fieldLink RX10 20 "HalfLaddersModel" "gap" "[I", Cond.fieldLink RX10 29 "HalfLaddersModel" "quarrel" "[Z"] := goodIn_r _ [281, 267, 743, 744, 745, 5, 746, 271, 547, 548, 549, 550, 268, 269, 272] (by decide +kernel) (by decide +kernel)
