set_option maxRecDepth 20000 in
theorem ggL_law_X9_mark_wsX40 : GoodIn wsL_law wsX40 := goodIn_sub inlX4 (by decide +kernel)
set_option maxRecDepth 20000 in
theorem ggL_law_X9_mark : GoodIn wsL_law wsX9_mark := fun w h => (List.mem_cons.mp h).elim (fun e => ggL_law_X9_mark_h w (List.mem_cons.mpr (Or.inl e))) (fun h => (goodIn_app (goodIn_app (goodIn_app (goodIn_app (goodIn_app ggL_law_X9_mark_r1 (ggL_law_X9_mark_r2)) ggL_law_X9_mark_wsX90) ggL_law_X9_mark_wsX30) ggL_law_X9_mark_wsX20) ggL_law_X9_mark_wsX40) w h)
set_option maxRecDepth 20000 in
theorem gL_law_X9_mark : GoodIn wsL_law (wsV RL 96 RX9 yX9_mark wsX9_mark) := goodIn_app (goodIn_of _ (by decide +kernel)) ggL_law_X9_mark
set_option maxRecDepth 20000 in
theorem ggL_law_X10_mark_h : GoodIn wsL_law [Cond.code yX10_mark cX10_mark 5 (some .int)] := goodIn_r _ [867] (by decide +kernel) (by decide +kernel)
set_option maxRecDepth 20000 in
theorem ggL_law_X10_mark_r1 : GoodIn wsL_law wsX10_mark_r1 := goodIn_r _ [868, 267, 869, 270, 870, 269, 871, 872, 271, 873, 874, 277, 305, 306, 5, 307, 509, 510, 511, 512, 547, 548, 549, 550] (by decide +kernel) (by decide +kernel)
set_option maxRecDepth 20000 in
theorem ggL_law_X10_mark_r2 : GoodIn wsL_law wsX10_mark_r2 := goodIn_r _ [268, 272] (by decide +kernel) (by decide +kernel)
set_option maxRecDepth 20000 in
theorem ggL_law_X10_mark_wsX100 : GoodIn wsL_law wsX100 := goodIn_sub inlX10 (by decide +kernel)
set_option maxRecDepth 20000 in
theorem ggL_law_X10_mark : GoodIn wsL_law wsX10_mark := fun w h => (List.mem_cons.mp h).elim (fun e => ggL_law_X10_mark_h w (List.mem_cons.mpr (Or.inl e))) (fun h => (goodIn_app (goodIn_app ggL_law_X10_mark_r1 (ggL_law_X10_mark_r2)) ggL_law_X10_mark_wsX100) w h)
set_option maxRecDepth 20000 in
theorem gL_law_X10_mark : GoodIn wsL_law (wsV RL 99 RX10 yX10_mark wsX10_mark) := goodIn_app (goodIn_of _ (by decide +kernel)) ggL_law_X10_mark
set_option maxRecDepth 20000 in
theorem ggL_law_X9_keep_h : GoodIn wsL_law [Cond.code yX9_keep cX9_keep 2 (some .int)] := goodIn_r _ [878] (by decide +kernel) (by decide +kernel)
set_option maxRecDepth 20000 in
theorem ggL_law_X9_keep_p0 : GoodIn wsL_law [Cond.fieldLink RX9 80 "HalfLadders" "images" "[LHalfLadders$Now;", Cond.fieldLink RX9 73 "HalfLadders" "present" "LHalfLadders$Now;", Cond.fieldLink RX9 84 "HalfLadders" "kept" "[Z", Cond.fieldLink RX9 174 "HalfLadders$Now" "day" "I", Cond.methodLink RX9 253 yX9_isImage, Cond.static yX9_isImage, Cond.initialized RX9, Cond.code yX9_isImage cX9_isImage 1 (some .boolean), Cond.methodLink RX9 206 yX2_become, Cond.instanceMethod yX2_become, Cond.selects RX2 yX2_become yX2_become, Cond.initialized RX2, Cond.code yX2_become cX2_become 3 none, Cond.fieldLink RX2 9 "HalfLadders$Now" "day" "I", Cond.fieldLink RX2 15 "HalfLadders$Now" "climbers" "I", Cond.fieldLink RX2 18 "HalfLadders$Now" "climbed" "I", Cond.fieldLink RX2 21 "HalfLadders$Now" "picked" "I", Cond.fieldLink RX2 24 "HalfLadders$Now" "fallen" "I", Cond.fieldLink RX2 27 "HalfLadders$Now" "theLot" "I", Cond.fieldLink RX2 30 "HalfLadders$Now" "left" "[I"] := goodIn_r _ [51, 49, 53, 602, 879, 880, 2, 881, 716, 717, 718, 48, 719, 126, 127, 128, 129, 130, 131, 132] (by decide +kernel) (by decide +kernel)
set_option maxRecDepth 20000 in
theorem ggL_law_X9_keep_wsX90 : GoodIn wsL_law wsX90 := goodIn_sub inlX9 (by decide +kernel)
set_option maxRecDepth 20000 in
theorem ggL_law_X9_keep_wsX20 : GoodIn wsL_law wsX20 := goodIn_sub inlX2 (by decide +kernel)
set_option maxRecDepth 20000 in
theorem ggL_law_X9_keep : GoodIn wsL_law wsX9_keep := fun w h => (List.mem_cons.mp h).elim (fun e => ggL_law_X9_keep_h w (List.mem_cons.mpr (Or.inl e))) (fun h => (goodIn_app (goodIn_app (show GoodIn wsL_law [Cond.fieldLink RX9 80 "HalfLadders" "images" "[LHalfLadders$Now;", Cond.fieldLink RX9 73 "HalfLadders" "present" "LHalfLadders$Now;", Cond.fieldLink RX9 84 "HalfLadders" "kept" "[Z", Cond.fieldLink RX9 174 "HalfLadders$Now" "day" "I", Cond.methodLink RX9 253 yX9_isImage, Cond.static yX9_isImage, Cond.initialized RX9, Cond.code yX9_isImage cX9_isImage 1 (some .boolean), Cond.methodLink RX9 206 yX2_become, Cond.instanceMethod yX2_become, Cond.selects RX2 yX2_become yX2_become, Cond.initialized RX2, Cond.code yX2_become cX2_become 3 none, Cond.fieldLink RX2 9 "HalfLadders$Now" "day" "I", Cond.fieldLink RX2 15 "HalfLadders$Now" "climbers" "I", Cond.fieldLink RX2 18 "HalfLadders$Now" "climbed" "I", Cond.fieldLink RX2 21 "HalfLadders$Now" "picked" "I", Cond.fieldLink RX2 24 "HalfLadders$Now" "fallen" "I", Cond.fieldLink RX2 27 "HalfLadders$Now" "theLot" "I", Cond.fieldLink RX2 30 "HalfLadders$Now" "left" "[I"] from ggL_law_X9_keep_p0) ggL_law_X9_keep_wsX90) ggL_law_X9_keep_wsX20) w h)
