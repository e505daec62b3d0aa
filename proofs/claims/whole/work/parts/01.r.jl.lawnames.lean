set_option maxRecDepth 20000 in
theorem ggL_law_X10_whole_wsX100 : GoodIn wsL_law wsX100 := goodIn_sub inlX10 (by decide +kernel)
set_option maxRecDepth 20000 in
theorem ggL_law_X10_whole : GoodIn wsL_law wsX10_whole := fun w h => (List.mem_cons.mp h).elim (fun e => ggL_law_X10_whole_h w (List.mem_cons.mpr (Or.inl e))) (fun h => (goodIn_app (show GoodIn wsL_law [Cond.fieldLink RX10 57 "HalfLaddersModel" "wholes" "[I", Cond.fieldLink RX10 13 "HalfLaddersModel" "people" "[I", Cond.methodLink RX10 166 yX10_findWholes, Cond.instanceMethod yX10_findWholes, Cond.selects RX10 yX10_findWholes yX10_findWholes, Cond.initialized RX10, Cond.code yX10_findWholes cX10_findWholes 7 none, Cond.fieldLink RX10 26 "HalfLaddersModel" "pace" "[I", Cond.methodLink RX10 129 yX10_fits, Cond.instanceMethod yX10_fits, Cond.selects RX10 yX10_fits yX10_fits, Cond.code yX10_fits cX10_fits 3 (some .boolean), Cond.fieldLink RX10 17 "HalfLaddersModel" "side" "[I", Cond.fieldLink RX10 20 "HalfLaddersModel" "gap" "[I", Cond.fieldLink RX10 29 "HalfLaddersModel" "quarrel" "[Z"] from ggL_law_X10_whole_p0) ggL_law_X10_whole_wsX100) w h)
set_option maxRecDepth 20000 in
theorem gL_law_X10_whole : GoodIn wsL_law (wsV RL 75 RX10 yX10_whole wsX10_whole) := goodIn_app (goodIn_of _ (by decide +kernel)) ggL_law_X10_whole
set_option maxRecDepth 20000 in
theorem ggL_law_X9_worth_h : GoodIn wsL_law [Cond.code yX9_worth cX9_worth 6 (some .int)] := goodIn_r _ [750] (by decide +kernel) (by decide +kernel)
set_option maxRecDepth 20000 in
theorem ggL_law_X9_worth_r1 : GoodIn wsL_law wsX9_worth_r1 := goodIn_r _ [24, 751, 752, 33, 504, 163, 164, 23, 165, 77, 753, 754, 755, 32, 756, 101, 757, 213, 204, 214, 215, 216, 217, 758] (by decide +kernel) (by decide +kernel)
set_option maxRecDepth 20000 in
theorem ggL_law_X9_worth_r2 : GoodIn wsL_law wsX9_worth_r2 := goodIn_r _ [759, 2, 760] (by decide +kernel) (by decide +kernel)
set_option maxRecDepth 20000 in
theorem ggL_law_X9_worth_wsX90 : GoodIn wsL_law wsX90 := goodIn_sub inlX9 (by decide +kernel)
set_option maxRecDepth 20000 in
theorem ggL_law_X9_worth_wsX30 : GoodIn wsL_law wsX30 := goodIn_sub inlX3 (by decide +kernel)
set_option maxRecDepth 20000 in
theorem ggL_law_X9_worth_wsX70 : GoodIn wsL_law wsX70 := goodIn_sub inlX7 (by decide +kernel)
set_option maxRecDepth 20000 in
theorem ggL_law_X9_worth : GoodIn wsL_law wsX9_worth := fun w h => (List.mem_cons.mp h).elim (fun e => ggL_law_X9_worth_h w (List.mem_cons.mpr (Or.inl e))) (fun h => (goodIn_app (goodIn_app (goodIn_app (goodIn_app ggL_law_X9_worth_r1 (ggL_law_X9_worth_r2)) ggL_law_X9_worth_wsX90) ggL_law_X9_worth_wsX30) ggL_law_X9_worth_wsX70) w h)
set_option maxRecDepth 20000 in
theorem gL_law_X9_worth : GoodIn wsL_law (wsV RL 76 RX9 yX9_worth wsX9_worth) := goodIn_app (goodIn_of _ (by decide +kernel)) ggL_law_X9_worth
set_option maxRecDepth 20000 in
theorem ggL_law_X10_worth_h : GoodIn wsL_law [Cond.code yX10_worth cX10_worth 7 (some .int)] := goodIn_r _ [764] (by decide +kernel) (by decide +kernel)
set_option maxRecDepth 20000 in
theorem ggL_law_X10_worth_r1 : GoodIn wsL_law wsX10_worth_r1 := goodIn_r _ [267, 281, 509, 510, 511, 5, 512, 305, 306, 307, 743, 744, 745, 746, 271, 547, 548, 549, 550, 268, 269, 272, 765, 766] (by decide +kernel) (by decide +kernel)
set_option maxRecDepth 20000 in
theorem ggL_law_X10_worth_r2 : GoodIn wsL_law wsX10_worth_r2 := goodIn_r _ [767, 768, 769, 770, 771, 772, 773] (by decide +kernel) (by decide +kernel)
