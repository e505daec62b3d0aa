set_option maxRecDepth 20000 in
theorem gL_law_X9_half : GoodIn wsL_law (wsV RL 29 RX9 yX9_half wsX9_half) := goodIn_app (goodIn_of _ (by decide +kernel)) ggL_law_X9_half
set_option maxRecDepth 20000 in
theorem ggL_law_X10_half_h : GoodIn wsL_law [Cond.code yX10_half cX10_half 3 (some .int)] := goodIn_r _ [508] (by decide +kernel) (by decide +kernel)
set_option maxRecDepth 20000 in
theorem ggL_law_X10_half_p0 : GoodIn wsL_law [Cond.fieldLink RX10 17 "HalfLaddersModel" "side" "[I", Cond.fieldLink RX10 20 "HalfLaddersModel" "gap" "[I", Cond.fieldLink RX10 23 "HalfLaddersModel" "tall" "[I", Cond.fieldLink RX10 26 "HalfLaddersModel" "pace" "[I", Cond.fieldLink RX10 45 "HalfLaddersModel" "now" "[I", Cond.methodLink RX10 122 yX10_isOne, Cond.instanceMethod yX10_isOne, Cond.selects RX10 yX10_isOne yX10_isOne, Cond.initialized RX10, Cond.code yX10_isOne cX10_isOne 2 (some .boolean), Cond.fieldLink RX10 13 "HalfLaddersModel" "people" "[I", Cond.methodLink RX10 72 yX10_in, Cond.static yX10_in, Cond.code yX10_in cX10_in 3 (some .boolean)] := goodIn_r _ [268, 269, 270, 271, 277, 509, 510, 511, 5, 512, 267, 305, 306, 307] (by decide +kernel) (by decide +kernel)
set_option maxRecDepth 20000 in
theorem ggL_law_X10_half_wsX100 : GoodIn wsL_law wsX100 := goodIn_sub inlX10 (by decide +kernel)
set_option maxRecDepth 20000 in
theorem ggL_law_X10_half : GoodIn wsL_law wsX10_half := fun w h => (List.mem_cons.mp h).elim (fun e => ggL_law_X10_half_h w (List.mem_cons.mpr (Or.inl e))) (fun h => (goodIn_app (show GoodIn wsL_law [Cond.fieldLink RX10 17 "HalfLaddersModel" "side" "[I", Cond.fieldLink RX10 20 "HalfLaddersModel" "gap" "[I", Cond.fieldLink RX10 23 "HalfLaddersModel" "tall" "[I", Cond.fieldLink RX10 26 "HalfLaddersModel" "pace" "[I", Cond.fieldLink RX10 45 "HalfLaddersModel" "now" "[I", Cond.methodLink RX10 122 yX10_isOne, Cond.instanceMethod yX10_isOne, Cond.selects RX10 yX10_isOne yX10_isOne, Cond.initialized RX10, Cond.code yX10_isOne cX10_isOne 2 (some .boolean), Cond.fieldLink RX10 13 "HalfLaddersModel" "people" "[I", Cond.methodLink RX10 72 yX10_in, Cond.static yX10_in, Cond.code yX10_in cX10_in 3 (some .boolean)] from ggL_law_X10_half_p0) ggL_law_X10_half_wsX100) w h)
set_option maxRecDepth 20000 in
theorem gL_law_X10_half : GoodIn wsL_law (wsV RL 33 RX10 yX10_half wsX10_half) := goodIn_app (goodIn_of _ (by decide +kernel)) ggL_law_X10_half
set_option maxRecDepth 20000 in
theorem ggL_law_X9_tree_h : GoodIn wsL_law [Cond.code yX9_tree cX9_tree 3 (some .int)] := goodIn_r _ [516] (by decide +kernel) (by decide +kernel)
set_option maxRecDepth 20000 in
theorem ggL_law_X9_tree_p0 : GoodIn wsL_law [Cond.fieldLink RX9 28 "HalfLadders" "told" "LHalfLadders$Orchard;", Cond.fieldLink RX9 137 "HalfLadders$Orchard" "highs" "[I", Cond.fieldLink RX9 140 "HalfLadders$Orchard" "ripes" "[I", Cond.fieldLink RX9 143 "HalfLadders$Orchard" "baskets" "[I", Cond.fieldLink RX9 73 "HalfLadders" "present" "LHalfLadders$Now;", Cond.fieldLink RX9 146 "HalfLadders$Now" "left" "[I", Cond.fieldLink RX9 149 "HalfLadders$Now" "climbed" "I", Cond.methodLink RX9 134 yX3_hasTree, Cond.instanceMethod yX3_hasTree, Cond.selects RX3 yX3_hasTree yX3_hasTree, Cond.initialized RX3, Cond.code yX3_hasTree cX3_hasTree 2 (some .boolean), Cond.fieldLink RX3 15 "HalfLadders$Orchard" "trees" "I"] := goodIn_r _ [24, 517, 518, 519, 49, 520, 521, 522, 523, 524, 23, 525, 78] (by decide +kernel) (by decide +kernel)
set_option maxRecDepth 20000 in
theorem ggL_law_X9_tree_wsX90 : GoodIn wsL_law wsX90 := goodIn_sub inlX9 (by decide +kernel)
set_option maxRecDepth 20000 in
theorem ggL_law_X9_tree_wsX30 : GoodIn wsL_law wsX30 := goodIn_sub inlX3 (by decide +kernel)
set_option maxRecDepth 20000 in
theorem ggL_law_X9_tree_wsX20 : GoodIn wsL_law wsX20 := goodIn_sub inlX2 (by decide +kernel)
set_option maxRecDepth 20000 in
theorem ggL_law_X9_tree : GoodIn wsL_law wsX9_tree := fun w h => (List.mem_cons.mp h).elim (fun e => ggL_law_X9_tree_h w (List.mem_cons.mpr (Or.inl e))) (fun h => (goodIn_app (goodIn_app (goodIn_app (show GoodIn wsL_law [Cond.fieldLink RX9 28 "HalfLadders" "told" "LHalfLadders$Orchard;", Cond.fieldLink RX9 137 "HalfLadders$Orchard" "highs" "[I", Cond.fieldLink RX9 140 "HalfLadders$Orchard" "ripes" "[I", Cond.fieldLink RX9 143 "HalfLadders$Orchard" "baskets" "[I", Cond.fieldLink RX9 73 "HalfLadders" "present" "LHalfLadders$Now;", Cond.fieldLink RX9 146 "HalfLadders$Now" "left" "[I", Cond.fieldLink RX9 149 "HalfLadders$Now" "climbed" "I", Cond.methodLink RX9 134 yX3_hasTree, Cond.instanceMethod yX3_hasTree, Cond.selects RX3 yX3_hasTree yX3_hasTree, Cond.initialized RX3, Cond.code yX3_hasTree cX3_hasTree 2 (some .boolean), Cond.fieldLink RX3 15 "HalfLadders$Orchard" "trees" "I"] from ggL_law_X9_tree_p0) ggL_law_X9_tree_wsX90) ggL_law_X9_tree_wsX30) ggL_law_X9_tree_wsX20) w h)
set_option maxRecDepth 20000 in
theorem gL_law_X9_tree : GoodIn wsL_law (wsV RL 34 RX9 yX9_tree wsX9_tree) := goodIn_app (goodIn_of _ (by decide +kernel)) ggL_law_X9_tree
set_option maxRecDepth 20000 in
theorem ggL_law_X10_tree_h : GoodIn wsL_law [Cond.code yX10_tree cX10_tree 3 (some .int)] := goodIn_r _ [529] (by decide +kernel) (by decide +kernel)
set_option maxRecDepth 20000 in
theorem ggL_law_X10_tree_p0 : GoodIn wsL_law [Cond.fieldLink RX10 36 "HalfLaddersModel" "high" "[I", Cond.fieldLink RX10 39 "HalfLaddersModel" "ripe" "[I", Cond.fieldLink RX10 42 "HalfLaddersModel" "hangs" "[I", Cond.fieldLink RX10 45 "HalfLaddersModel" "now" "[I", Cond.methodLink RX10 126 yX10_isTree, Cond.instanceMethod yX10_isTree, Cond.selects RX10 yX10_isTree yX10_isTree, Cond.initialized RX10, Cond.code yX10_isTree cX10_isTree 2 (some .boolean), Cond.fieldLink RX10 33 "HalfLaddersModel" "trees" "[I", Cond.methodLink RX10 72 yX10_in, Cond.static yX10_in, Cond.code yX10_in cX10_in 3 (some .boolean)] := goodIn_r _ [274, 275, 276, 277, 530, 531, 532, 5, 533, 273, 305, 306, 307] (by decide +kernel) (by decide +kernel)
