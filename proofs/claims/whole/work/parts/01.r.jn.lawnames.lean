set_option maxRecDepth 20000 in
theorem ggL_law_X10_asked : GoodIn wsL_law wsX10_asked := fun w h => (List.mem_cons.mp h).elim (fun e => ggL_law_X10_asked_h w (List.mem_cons.mpr (Or.inl e))) (fun h => (goodIn_app (goodIn_app ggL_law_X10_asked_r1 (ggL_law_X10_asked_r2)) ggL_law_X10_asked_wsX100) w h)
set_option maxRecDepth 20000 in
theorem gL_law_X10_asked : GoodIn wsL_law (wsV RL 83 RX10 yX10_asked wsX10_asked) := goodIn_app (goodIn_of _ (by decide +kernel)) ggL_law_X10_asked
set_option maxRecDepth 20000 in
theorem ggL_law_X9_rests_h : GoodIn wsL_law [Cond.code yX9_rests cX9_rests 1 (some .int)] := goodIn_r _ [798] (by decide +kernel) (by decide +kernel)
set_option maxRecDepth 20000 in
theorem ggL_law_X9_rests_p0 : GoodIn wsL_law [Cond.fieldLink RX9 59 "HalfLadders" "liking" "LHalfLadders$Liking;", Cond.fieldLink RX9 236 "HalfLadders$Liking" "restCount" "I"] := goodIn_r _ [41, 799] (by decide +kernel) (by decide +kernel)
set_option maxRecDepth 20000 in
theorem ggL_law_X9_rests_wsX90 : GoodIn wsL_law wsX90 := goodIn_sub inlX9 (by decide +kernel)
set_option maxRecDepth 20000 in
theorem ggL_law_X9_rests_wsX10 : GoodIn wsL_law wsX10 := goodIn_sub inlX1 (by decide +kernel)
set_option maxRecDepth 20000 in
theorem ggL_law_X9_rests : GoodIn wsL_law wsX9_rests := fun w h => (List.mem_cons.mp h).elim (fun e => ggL_law_X9_rests_h w (List.mem_cons.mpr (Or.inl e))) (fun h => (goodIn_app (goodIn_app (show GoodIn wsL_law [Cond.fieldLink RX9 59 "HalfLadders" "liking" "LHalfLadders$Liking;", Cond.fieldLink RX9 236 "HalfLadders$Liking" "restCount" "I"] from ggL_law_X9_rests_p0) ggL_law_X9_rests_wsX90) ggL_law_X9_rests_wsX10) w h)
set_option maxRecDepth 20000 in
theorem gL_law_X9_rests : GoodIn wsL_law (wsV RL 84 RX9 yX9_rests wsX9_rests) := goodIn_app (goodIn_of _ (by decide +kernel)) ggL_law_X9_rests
set_option maxRecDepth 20000 in
theorem ggL_law_X10_rests_h : GoodIn wsL_law [Cond.code yX10_rests cX10_rests 5 (some .int)] := goodIn_r _ [803] (by decide +kernel) (by decide +kernel)
set_option maxRecDepth 20000 in
theorem ggL_law_X10_rests_r1 : GoodIn wsL_law wsX10_rests_r1 := goodIn_r _ [267, 268, 804, 805, 806, 5, 807, 282, 808, 809, 810, 811, 547, 548, 549, 550, 269, 272, 812, 813, 814, 815, 791, 792] (by decide +kernel) (by decide +kernel)
set_option maxRecDepth 20000 in
theorem ggL_law_X10_rests_r2 : GoodIn wsL_law wsX10_rests_r2 := goodIn_r _ [793, 794, 271, 586, 587, 588, 589, 270] (by decide +kernel) (by decide +kernel)
set_option maxRecDepth 20000 in
theorem ggL_law_X10_rests_wsX100 : GoodIn wsL_law wsX100 := goodIn_sub inlX10 (by decide +kernel)
set_option maxRecDepth 20000 in
theorem ggL_law_X10_rests : GoodIn wsL_law wsX10_rests := fun w h => (List.mem_cons.mp h).elim (fun e => ggL_law_X10_rests_h w (List.mem_cons.mpr (Or.inl e))) (fun h => (goodIn_app (goodIn_app ggL_law_X10_rests_r1 (ggL_law_X10_rests_r2)) ggL_law_X10_rests_wsX100) w h)
set_option maxRecDepth 20000 in
theorem gL_law_X10_rests : GoodIn wsL_law (wsV RL 87 RX10 yX10_rests wsX10_rests) := goodIn_app (goodIn_of _ (by decide +kernel)) ggL_law_X10_rests
set_option maxRecDepth 20000 in
theorem ggL_law_X9_cuts_h : GoodIn wsL_law [Cond.code yX9_cuts cX9_cuts 2 (some .int)] := goodIn_r _ [819] (by decide +kernel) (by decide +kernel)
