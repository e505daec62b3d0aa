set_option maxRecDepth 20000 in
theorem ggL_law_X10_back : GoodIn wsL_law wsX10_back := fun w h => (List.mem_cons.mp h).elim (fun e => ggL_law_X10_back_h w (List.mem_cons.mpr (Or.inl e))) (fun h => (goodIn_app (show GoodIn wsL_law [Cond.fieldLink RX10 48 "HalfLaddersModel" "isKept" "[Z", Cond.fieldLink RX10 45 "HalfLaddersModel" "now" "[I", Cond.methodLink RX10 72 yX10_in, Cond.static yX10_in, Cond.initialized RX10, Cond.code yX10_in cX10_in 3 (some .boolean), Cond.methodLink RX10 162 yX10_copy, Cond.instanceMethod yX10_copy, Cond.selects RX10 yX10_copy yX10_copy, Cond.code yX10_copy cX10_copy 4 none] from ggL_law_X10_back_p0) ggL_law_X10_back_wsX100) w h)
set_option maxRecDepth 20000 in
theorem gL_law_X10_back : GoodIn wsL_law (wsV RL 107 RX10 yX10_back wsX10_back) := goodIn_app (goodIn_of _ (by decide +kernel)) ggL_law_X10_back
set_option maxRecDepth 20000 in
theorem ggL_law_X9_count_h : GoodIn wsL_law [Cond.code yX9_count cX9_count 2 (some .int)] := goodIn_r _ [897] (by decide +kernel) (by decide +kernel)
set_option maxRecDepth 20000 in
theorem ggL_law_X9_count_p0 : GoodIn wsL_law [Cond.fieldLink RX9 28 "HalfLadders" "told" "LHalfLadders$Orchard;", Cond.fieldLink RX9 223 "HalfLadders$Orchard" "people" "I", Cond.fieldLink RX9 256 "HalfLadders$Orchard" "trees" "I", Cond.fieldLink RX9 12 "HalfLadders" "text" "LHalfLadders$Text;", Cond.fieldLink RX9 107 "HalfLadders$Text" "length" "I", Cond.methodLink RX9 259 yX3_quarrelPairs, Cond.instanceMethod yX3_quarrelPairs, Cond.selects RX3 yX3_quarrelPairs yX3_quarrelPairs, Cond.initialized RX3, Cond.code yX3_quarrelPairs cX3_quarrelPairs 3 (some .int), Cond.fieldLink RX3 9 "HalfLadders$Orchard" "people" "I", Cond.fieldLink RX3 31 "HalfLadders$Orchard" "quarrels" "[I", Cond.methodLink RX3 51 yJ6_bitCount_0f7a4, Cond.static yJ6_bitCount_0f7a4, Cond.initialized RJ6, Cond.code yJ6_bitCount_0f7a4 cJ6_bitCount_0f7a4 1 (some .int), Cond.constant RJ6 265 (1431655765), Cond.constant RJ6 266 (858993459), Cond.constant RJ6 267 (252645135)] := goodIn_r _ [24, 752, 898, 16, 290, 899, 900, 901, 23, 902, 77, 83, 903, 213, 204, 214, 215, 216, 217] (by decide +kernel) (by decide +kernel)
set_option maxRecDepth 20000 in
theorem ggL_law_X9_count_wsX90 : GoodIn wsL_law wsX90 := goodIn_sub inlX9 (by decide +kernel)
set_option maxRecDepth 20000 in
theorem ggL_law_X9_count_wsX30 : GoodIn wsL_law wsX30 := goodIn_sub inlX3 (by decide +kernel)
set_option maxRecDepth 20000 in
theorem ggL_law_X9_count_wsX80 : GoodIn wsL_law wsX80 := goodIn_sub inlX8 (by decide +kernel)
set_option maxRecDepth 20000 in
theorem ggL_law_X9_count : GoodIn wsL_law wsX9_count := fun w h => (List.mem_cons.mp h).elim (fun e => ggL_law_X9_count_h w (List.mem_cons.mpr (Or.inl e))) (fun h => (goodIn_app (goodIn_app (goodIn_app (show GoodIn wsL_law [Cond.fieldLink RX9 28 "HalfLadders" "told" "LHalfLadders$Orchard;", Cond.fieldLink RX9 223 "HalfLadders$Orchard" "people" "I", Cond.fieldLink RX9 256 "HalfLadders$Orchard" "trees" "I", Cond.fieldLink RX9 12 "HalfLadders" "text" "LHalfLadders$Text;", Cond.fieldLink RX9 107 "HalfLadders$Text" "length" "I", Cond.methodLink RX9 259 yX3_quarrelPairs, Cond.instanceMethod yX3_quarrelPairs, Cond.selects RX3 yX3_quarrelPairs yX3_quarrelPairs, Cond.initialized RX3, Cond.code yX3_quarrelPairs cX3_quarrelPairs 3 (some .int), Cond.fieldLink RX3 9 "HalfLadders$Orchard" "people" "I", Cond.fieldLink RX3 31 "HalfLadders$Orchard" "quarrels" "[I", Cond.methodLink RX3 51 yJ6_bitCount_0f7a4, Cond.static yJ6_bitCount_0f7a4, Cond.initialized RJ6, Cond.code yJ6_bitCount_0f7a4 cJ6_bitCount_0f7a4 1 (some .int), Cond.constant RJ6 265 (1431655765), Cond.constant RJ6 266 (858993459), Cond.constant RJ6 267 (252645135)] from ggL_law_X9_count_p0) ggL_law_X9_count_wsX90) ggL_law_X9_count_wsX30) ggL_law_X9_count_wsX80) w h)
set_option maxRecDepth 20000 in
theorem gL_law_X9_count : GoodIn wsL_law (wsV RL 108 RX9 yX9_count wsX9_count) := goodIn_app (goodIn_of _ (by decide +kernel)) ggL_law_X9_count
set_option maxRecDepth 20000 in
theorem ggL_law_X10_count_h : GoodIn wsL_law [Cond.code yX10_count cX10_count 4 (some .int)] := goodIn_r _ [907] (by decide +kernel) (by decide +kernel)
set_option maxRecDepth 20000 in
theorem ggL_law_X10_count_p0 : GoodIn wsL_law [Cond.fieldLink RX10 29 "HalfLaddersModel" "quarrel" "[Z", Cond.fieldLink RX10 13 "HalfLaddersModel" "people" "[I", Cond.fieldLink RX10 33 "HalfLaddersModel" "trees" "[I", Cond.fieldLink RX10 76 "HalfLaddersModel" "typed" "I"] := goodIn_r _ [272, 267, 273, 303] (by decide +kernel) (by decide +kernel)
set_option maxRecDepth 20000 in
theorem ggL_law_X10_count_wsX100 : GoodIn wsL_law wsX100 := goodIn_sub inlX10 (by decide +kernel)
set_option maxRecDepth 20000 in
theorem ggL_law_X10_count : GoodIn wsL_law wsX10_count := fun w h => (List.mem_cons.mp h).elim (fun e => ggL_law_X10_count_h w (List.mem_cons.mpr (Or.inl e))) (fun h => (goodIn_app (show GoodIn wsL_law [Cond.fieldLink RX10 29 "HalfLaddersModel" "quarrel" "[Z", Cond.fieldLink RX10 13 "HalfLaddersModel" "people" "[I", Cond.fieldLink RX10 33 "HalfLaddersModel" "trees" "[I", Cond.fieldLink RX10 76 "HalfLaddersModel" "typed" "I"] from ggL_law_X10_count_p0) ggL_law_X10_count_wsX100) w h)
set_option maxRecDepth 20000 in
theorem gL_law_X10_count : GoodIn wsL_law (wsV RL 111 RX10 yX10_count wsX10_count) := goodIn_app (goodIn_of _ (by decide +kernel)) ggL_law_X10_count
set_option maxRecDepth 20000 in
theorem ggL_law_X9_trace_h : GoodIn wsL_law [Cond.code yX9_trace cX9_trace 1 (some .long)] := goodIn_r _ [911] (by decide +kernel) (by decide +kernel)
