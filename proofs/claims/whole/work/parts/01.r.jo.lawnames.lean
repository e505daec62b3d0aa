set_option maxRecDepth 20000 in
theorem ggL_law_X9_cuts_p0 : GoodIn wsL_law [Cond.fieldLink RX9 52 "HalfLadders" "cutting" "LHalfLadders$Cutting;", Cond.fieldLink RX9 239 "HalfLadders$Cutting" "fewest" "[I"] := goodIn_r _ [37, 820] (by decide +kernel) (by decide +kernel)
set_option maxRecDepth 20000 in
theorem ggL_law_X9_cuts_wsX90 : GoodIn wsL_law wsX90 := goodIn_sub inlX9 (by decide +kernel)
set_option maxRecDepth 20000 in
theorem ggL_law_X9_cuts_wsX00 : GoodIn wsL_law wsX00 := goodIn_sub inlX0 (by decide +kernel)
set_option maxRecDepth 20000 in
theorem ggL_law_X9_cuts : GoodIn wsL_law wsX9_cuts := fun w h => (List.mem_cons.mp h).elim (fun e => ggL_law_X9_cuts_h w (List.mem_cons.mpr (Or.inl e))) (fun h => (goodIn_app (goodIn_app (show GoodIn wsL_law [Cond.fieldLink RX9 52 "HalfLadders" "cutting" "LHalfLadders$Cutting;", Cond.fieldLink RX9 239 "HalfLadders$Cutting" "fewest" "[I"] from ggL_law_X9_cuts_p0) ggL_law_X9_cuts_wsX90) ggL_law_X9_cuts_wsX00) w h)
set_option maxRecDepth 20000 in
theorem gL_law_X9_cuts : GoodIn wsL_law (wsV RL 88 RX9 yX9_cuts wsX9_cuts) := goodIn_app (goodIn_of _ (by decide +kernel)) ggL_law_X9_cuts
set_option maxRecDepth 20000 in
theorem ggL_law_X10_cuts_h : GoodIn wsL_law [Cond.code yX10_cuts cX10_cuts 4 (some .int)] := goodIn_r _ [824] (by decide +kernel) (by decide +kernel)
set_option maxRecDepth 20000 in
theorem ggL_law_X10_cuts_p0 : GoodIn wsL_law [Cond.fieldLink RX10 66 "HalfLaddersModel" "fewest" "[I", Cond.fieldLink RX10 13 "HalfLaddersModel" "people" "[I", Cond.fieldLink RX10 17 "HalfLaddersModel" "side" "[I", Cond.fieldLink RX10 69 "HalfLaddersModel" "then" "[I", Cond.methodLink RX10 72 yX10_in, Cond.static yX10_in, Cond.initialized RX10, Cond.code yX10_in cX10_in 3 (some .boolean), Cond.methodLink RX10 197 yX10_cutOne, Cond.instanceMethod yX10_cutOne, Cond.selects RX10 yX10_cutOne yX10_cutOne, Cond.code yX10_cutOne cX10_cutOne 7 none, Cond.fieldLink RX10 29 "HalfLaddersModel" "quarrel" "[Z", Cond.fieldLink RX10 20 "HalfLaddersModel" "gap" "[I"] := goodIn_r _ [284, 267, 268, 285, 305, 306, 5, 307, 825, 826, 827, 828, 272, 269] (by decide +kernel) (by decide +kernel)
set_option maxRecDepth 20000 in
theorem ggL_law_X10_cuts_wsX100 : GoodIn wsL_law wsX100 := goodIn_sub inlX10 (by decide +kernel)
set_option maxRecDepth 20000 in
theorem ggL_law_X10_cuts : GoodIn wsL_law wsX10_cuts := fun w h => (List.mem_cons.mp h).elim (fun e => ggL_law_X10_cuts_h w (List.mem_cons.mpr (Or.inl e))) (fun h => (goodIn_app (show GoodIn wsL_law [Cond.fieldLink RX10 66 "HalfLaddersModel" "fewest" "[I", Cond.fieldLink RX10 13 "HalfLaddersModel" "people" "[I", Cond.fieldLink RX10 17 "HalfLaddersModel" "side" "[I", Cond.fieldLink RX10 69 "HalfLaddersModel" "then" "[I", Cond.methodLink RX10 72 yX10_in, Cond.static yX10_in, Cond.initialized RX10, Cond.code yX10_in cX10_in 3 (some .boolean), Cond.methodLink RX10 197 yX10_cutOne, Cond.instanceMethod yX10_cutOne, Cond.selects RX10 yX10_cutOne yX10_cutOne, Cond.code yX10_cutOne cX10_cutOne 7 none, Cond.fieldLink RX10 29 "HalfLaddersModel" "quarrel" "[Z", Cond.fieldLink RX10 20 "HalfLaddersModel" "gap" "[I"] from ggL_law_X10_cuts_p0) ggL_law_X10_cuts_wsX100) w h)
set_option maxRecDepth 20000 in
theorem gL_law_X10_cuts : GoodIn wsL_law (wsV RL 91 RX10 yX10_cuts wsX10_cuts) := goodIn_app (goodIn_of _ (by decide +kernel)) ggL_law_X10_cuts
set_option maxRecDepth 20000 in
theorem ggL_law_X9_whose_h : GoodIn wsL_law [Cond.code yX9_whose cX9_whose 4 (some .int)] := goodIn_r _ [832] (by decide +kernel) (by decide +kernel)
set_option maxRecDepth 20000 in
theorem ggL_law_X9_whose_p0 : GoodIn wsL_law [Cond.fieldLink RX9 38 "HalfLadders" "pairs" "LHalfLadders$Pairs;", Cond.methodLink RX9 242 yX4_howMany, Cond.instanceMethod yX4_howMany, Cond.selects RX4 yX4_howMany yX4_howMany, Cond.initialized RX4, Cond.code yX4_howMany cX4_howMany 5 (some .int), Cond.fieldLink RX4 9 "HalfLadders$Pairs" "count" "I", Cond.methodLink RX4 66 yX4_leavesMarks, Cond.instanceMethod yX4_leavesMarks, Cond.selects RX4 yX4_leavesMarks yX4_leavesMarks, Cond.code yX4_leavesMarks cX4_leavesMarks 4 (some .boolean), Cond.fieldLink RX4 28 "HalfLadders$Pairs" "gaps" "[I", Cond.fieldLink RX4 31 "HalfLadders$Pairs" "ladders" "[I", Cond.methodLink RX9 245 yX4_firstOf, Cond.instanceMethod yX4_firstOf, Cond.selects RX4 yX4_firstOf yX4_firstOf, Cond.code yX4_firstOf cX4_firstOf 4 (some .int), Cond.methodLink RX4 70 yX4_numberOf, Cond.instanceMethod yX4_numberOf, Cond.selects RX4 yX4_numberOf yX4_numberOf] := goodIn_r _ [29, 833, 834, 835, 28, 836, 90, 837, 838, 839, 840, 95, 96, 841, 842, 843, 844, 845, 694, 695] (by decide +kernel) (by decide +kernel)
set_option maxRecDepth 20000 in
theorem ggL_law_X9_whose_p1 : GoodIn wsL_law [Cond.code yX4_numberOf cX4_numberOf 2 (some .int), Cond.fieldLink RX4 18 "HalfLadders$Pairs" "lefts" "[I", Cond.fieldLink RX4 22 "HalfLadders$Pairs" "rights" "[I"] := goodIn_r _ [696, 92, 93] (by decide +kernel) (by decide +kernel)
set_option maxRecDepth 20000 in
theorem ggL_law_X9_whose_wsX90 : GoodIn wsL_law wsX90 := goodIn_sub inlX9 (by decide +kernel)
