set_option maxRecDepth 20000 in
theorem gL_law_X9_keep : GoodIn wsL_law (wsV RL 100 RX9 yX9_keep wsX9_keep) := goodIn_app (goodIn_of _ (by decide +kernel)) ggL_law_X9_keep
set_option maxRecDepth 20000 in
theorem ggL_law_X10_keep_h : GoodIn wsL_law [Cond.code yX10_keep cX10_keep 2 (some .int)] := goodIn_r _ [885] (by decide +kernel) (by decide +kernel)
set_option maxRecDepth 20000 in
theorem ggL_law_X10_keep_p0 : GoodIn wsL_law [Cond.fieldLink RX10 48 "HalfLaddersModel" "isKept" "[Z", Cond.fieldLink RX10 45 "HalfLaddersModel" "now" "[I", Cond.methodLink RX10 72 yX10_in, Cond.static yX10_in, Cond.initialized RX10, Cond.code yX10_in cX10_in 3 (some .boolean), Cond.methodLink RX10 162 yX10_copy, Cond.instanceMethod yX10_copy, Cond.selects RX10 yX10_copy yX10_copy, Cond.code yX10_copy cX10_copy 4 none] := goodIn_r _ [278, 277, 305, 306, 5, 307, 729, 730, 731, 732] (by decide +kernel) (by decide +kernel)
set_option maxRecDepth 20000 in
theorem ggL_law_X10_keep_wsX100 : GoodIn wsL_law wsX100 := goodIn_sub inlX10 (by decide +kernel)
set_option maxRecDepth 20000 in
theorem ggL_law_X10_keep : GoodIn wsL_law wsX10_keep := fun w h => (List.mem_cons.mp h).elim (fun e => ggL_law_X10_keep_h w (List.mem_cons.mpr (Or.inl e))) (fun h => (goodIn_app (show GoodIn wsL_law [Cond.fieldLink RX10 48 "HalfLaddersModel" "isKept" "[Z", Cond.fieldLink RX10 45 "HalfLaddersModel" "now" "[I", Cond.methodLink RX10 72 yX10_in, Cond.static yX10_in, Cond.initialized RX10, Cond.code yX10_in cX10_in 3 (some .boolean), Cond.methodLink RX10 162 yX10_copy, Cond.instanceMethod yX10_copy, Cond.selects RX10 yX10_copy yX10_copy, Cond.code yX10_copy cX10_copy 4 none] from ggL_law_X10_keep_p0) ggL_law_X10_keep_wsX100) w h)
set_option maxRecDepth 20000 in
theorem gL_law_X10_keep : GoodIn wsL_law (wsV RL 103 RX10 yX10_keep wsX10_keep) := goodIn_app (goodIn_of _ (by decide +kernel)) ggL_law_X10_keep
set_option maxRecDepth 20000 in
theorem ggL_law_X9_back_h : GoodIn wsL_law [Cond.code yX9_back cX9_back 2 (some .int)] := goodIn_r _ [889] (by decide +kernel) (by decide +kernel)
set_option maxRecDepth 20000 in
theorem ggL_law_X9_back_p0 : GoodIn wsL_law [Cond.fieldLink RX9 84 "HalfLadders" "kept" "[Z", Cond.fieldLink RX9 73 "HalfLadders" "present" "LHalfLadders$Now;", Cond.fieldLink RX9 80 "HalfLadders" "images" "[LHalfLadders$Now;", Cond.fieldLink RX9 174 "HalfLadders$Now" "day" "I", Cond.methodLink RX9 253 yX9_isImage, Cond.static yX9_isImage, Cond.initialized RX9, Cond.code yX9_isImage cX9_isImage 1 (some .boolean), Cond.methodLink RX9 206 yX2_become, Cond.instanceMethod yX2_become, Cond.selects RX2 yX2_become yX2_become, Cond.initialized RX2, Cond.code yX2_become cX2_become 3 none, Cond.fieldLink RX2 9 "HalfLadders$Now" "day" "I", Cond.fieldLink RX2 15 "HalfLadders$Now" "climbers" "I", Cond.fieldLink RX2 18 "HalfLadders$Now" "climbed" "I", Cond.fieldLink RX2 21 "HalfLadders$Now" "picked" "I", Cond.fieldLink RX2 24 "HalfLadders$Now" "fallen" "I", Cond.fieldLink RX2 27 "HalfLadders$Now" "theLot" "I", Cond.fieldLink RX2 30 "HalfLadders$Now" "left" "[I"] := goodIn_r _ [53, 49, 51, 602, 879, 880, 2, 881, 716, 717, 718, 48, 719, 126, 127, 128, 129, 130, 131, 132] (by decide +kernel) (by decide +kernel)
set_option maxRecDepth 20000 in
theorem ggL_law_X9_back_wsX90 : GoodIn wsL_law wsX90 := goodIn_sub inlX9 (by decide +kernel)
set_option maxRecDepth 20000 in
theorem ggL_law_X9_back_wsX20 : GoodIn wsL_law wsX20 := goodIn_sub inlX2 (by decide +kernel)
set_option maxRecDepth 20000 in
theorem ggL_law_X9_back : GoodIn wsL_law wsX9_back := fun w h => (List.mem_cons.mp h).elim (fun e => ggL_law_X9_back_h w (List.mem_cons.mpr (Or.inl e))) (fun h => (goodIn_app (goodIn_app (show GoodIn wsL_law [Cond.fieldLink RX9 84 "HalfLadders" "kept" "[Z", Cond.fieldLink RX9 73 "HalfLadders" "present" "LHalfLadders$Now;", Cond.fieldLink RX9 80 "HalfLadders" "images" "[LHalfLadders$Now;", Cond.fieldLink RX9 174 "HalfLadders$Now" "day" "I", Cond.methodLink RX9 253 yX9_isImage, Cond.static yX9_isImage, Cond.initialized RX9, Cond.code yX9_isImage cX9_isImage 1 (some .boolean), Cond.methodLink RX9 206 yX2_become, Cond.instanceMethod yX2_become, Cond.selects RX2 yX2_become yX2_become, Cond.initialized RX2, Cond.code yX2_become cX2_become 3 none, Cond.fieldLink RX2 9 "HalfLadders$Now" "day" "I", Cond.fieldLink RX2 15 "HalfLadders$Now" "climbers" "I", Cond.fieldLink RX2 18 "HalfLadders$Now" "climbed" "I", Cond.fieldLink RX2 21 "HalfLadders$Now" "picked" "I", Cond.fieldLink RX2 24 "HalfLadders$Now" "fallen" "I", Cond.fieldLink RX2 27 "HalfLadders$Now" "theLot" "I", Cond.fieldLink RX2 30 "HalfLadders$Now" "left" "[I"] from ggL_law_X9_back_p0) ggL_law_X9_back_wsX90) ggL_law_X9_back_wsX20) w h)
set_option maxRecDepth 20000 in
theorem gL_law_X9_back : GoodIn wsL_law (wsV RL 104 RX9 yX9_back wsX9_back) := goodIn_app (goodIn_of _ (by decide +kernel)) ggL_law_X9_back
set_option maxRecDepth 20000 in
theorem ggL_law_X10_back_h : GoodIn wsL_law [Cond.code yX10_back cX10_back 2 (some .int)] := goodIn_r _ [893] (by decide +kernel) (by decide +kernel)
set_option maxRecDepth 20000 in
theorem ggL_law_X10_back_p0 : GoodIn wsL_law [Cond.fieldLink RX10 48 "HalfLaddersModel" "isKept" "[Z", Cond.fieldLink RX10 45 "HalfLaddersModel" "now" "[I", Cond.methodLink RX10 72 yX10_in, Cond.static yX10_in, Cond.initialized RX10, Cond.code yX10_in cX10_in 3 (some .boolean), Cond.methodLink RX10 162 yX10_copy, Cond.instanceMethod yX10_copy, Cond.selects RX10 yX10_copy yX10_copy, Cond.code yX10_copy cX10_copy 4 none] := goodIn_r _ [278, 277, 305, 306, 5, 307, 729, 730, 731, 732] (by decide +kernel) (by decide +kernel)
set_option maxRecDepth 20000 in
theorem ggL_law_X10_back_wsX100 : GoodIn wsL_law wsX100 := goodIn_sub inlX10 (by decide +kernel)
