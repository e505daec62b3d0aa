set_option maxRecDepth 20000 in
theorem ggL_law_X10_worth_wsX100 : GoodIn wsL_law wsX100 := goodIn_sub inlX10 (by decide +kernel)
set_option maxRecDepth 20000 in
theorem ggL_law_X10_worth : GoodIn wsL_law wsX10_worth := fun w h => (List.mem_cons.mp h).elim (fun e => ggL_law_X10_worth_h w (List.mem_cons.mpr (Or.inl e))) (fun h => (goodIn_app (goodIn_app ggL_law_X10_worth_r1 (ggL_law_X10_worth_r2)) ggL_law_X10_worth_wsX100) w h)
set_option maxRecDepth 20000 in
theorem gL_law_X10_worth : GoodIn wsL_law (wsV RL 79 RX10 yX10_worth wsX10_worth) := goodIn_app (goodIn_of _ (by decide +kernel)) ggL_law_X10_worth
set_option maxRecDepth 20000 in
theorem ggL_law_X9_asked_h : GoodIn wsL_law [Cond.code yX9_asked cX9_asked 2 (some .int)] := goodIn_r _ [777] (by decide +kernel) (by decide +kernel)
set_option maxRecDepth 20000 in
theorem ggL_law_X9_asked_p0 : GoodIn wsL_law [Cond.fieldLink RX9 28 "HalfLadders" "told" "LHalfLadders$Orchard;", Cond.fieldLink RX9 59 "HalfLadders" "liking" "LHalfLadders$Liking;", Cond.fieldLink RX9 233 "HalfLadders$Liking" "asked" "[I", Cond.methodLink RX9 114 yX3_hasHalf, Cond.instanceMethod yX3_hasHalf, Cond.selects RX3 yX3_hasHalf yX3_hasHalf, Cond.initialized RX3, Cond.code yX3_hasHalf cX3_hasHalf 2 (some .boolean), Cond.fieldLink RX3 9 "HalfLadders$Orchard" "people" "I"] := goodIn_r _ [24, 41, 778, 504, 163, 164, 23, 165, 77] (by decide +kernel) (by decide +kernel)
set_option maxRecDepth 20000 in
theorem ggL_law_X9_asked_wsX90 : GoodIn wsL_law wsX90 := goodIn_sub inlX9 (by decide +kernel)
set_option maxRecDepth 20000 in
theorem ggL_law_X9_asked_wsX10 : GoodIn wsL_law wsX10 := goodIn_sub inlX1 (by decide +kernel)
set_option maxRecDepth 20000 in
theorem ggL_law_X9_asked_wsX30 : GoodIn wsL_law wsX30 := goodIn_sub inlX3 (by decide +kernel)
set_option maxRecDepth 20000 in
theorem ggL_law_X9_asked : GoodIn wsL_law wsX9_asked := fun w h => (List.mem_cons.mp h).elim (fun e => ggL_law_X9_asked_h w (List.mem_cons.mpr (Or.inl e))) (fun h => (goodIn_app (goodIn_app (goodIn_app (show GoodIn wsL_law [Cond.fieldLink RX9 28 "HalfLadders" "told" "LHalfLadders$Orchard;", Cond.fieldLink RX9 59 "HalfLadders" "liking" "LHalfLadders$Liking;", Cond.fieldLink RX9 233 "HalfLadders$Liking" "asked" "[I", Cond.methodLink RX9 114 yX3_hasHalf, Cond.instanceMethod yX3_hasHalf, Cond.selects RX3 yX3_hasHalf yX3_hasHalf, Cond.initialized RX3, Cond.code yX3_hasHalf cX3_hasHalf 2 (some .boolean), Cond.fieldLink RX3 9 "HalfLadders$Orchard" "people" "I"] from ggL_law_X9_asked_p0) ggL_law_X9_asked_wsX90) ggL_law_X9_asked_wsX10) ggL_law_X9_asked_wsX30) w h)
set_option maxRecDepth 20000 in
theorem gL_law_X9_asked : GoodIn wsL_law (wsV RL 80 RX9 yX9_asked wsX9_asked) := goodIn_app (goodIn_of _ (by decide +kernel)) ggL_law_X9_asked
set_option maxRecDepth 20000 in
theorem ggL_law_X10_asked_h : GoodIn wsL_law [Cond.code yX10_asked cX10_asked 2 (some .int)] := goodIn_r _ [782] (by decide +kernel) (by decide +kernel)
set_option maxRecDepth 20000 in
theorem ggL_law_X10_asked_r1 : GoodIn wsL_law wsX10_asked_r1 := goodIn_r _ [282, 509, 510, 511, 5, 512, 267, 305, 306, 307, 783, 784, 785, 786, 283, 268, 787, 788, 789, 790, 547, 548, 549, 550] (by decide +kernel) (by decide +kernel)
set_option maxRecDepth 20000 in
theorem ggL_law_X10_asked_r2 : GoodIn wsL_law wsX10_asked_r2 := goodIn_r _ [269, 272, 791, 792, 793, 794, 271, 586, 587, 588, 589, 270] (by decide +kernel) (by decide +kernel)
set_option maxRecDepth 20000 in
theorem ggL_law_X10_asked_wsX100 : GoodIn wsL_law wsX100 := goodIn_sub inlX10 (by decide +kernel)
