set_option maxRecDepth 20000 in
theorem ggL_law_X10_climb_wsX100 : GoodIn wsL_law wsX100 := goodIn_sub inlX10 (by decide +kernel)
set_option maxRecDepth 20000 in
theorem ggL_law_X10_climb : GoodIn wsL_law wsX10_climb := fun w h => (List.mem_cons.mp h).elim (fun e => ggL_law_X10_climb_h w (List.mem_cons.mpr (Or.inl e))) (fun h => (goodIn_app (goodIn_app ggL_law_X10_climb_r1 (ggL_law_X10_climb_r2)) ggL_law_X10_climb_wsX100) w h)
set_option maxRecDepth 20000 in
theorem gL_law_X10_climb : GoodIn wsL_law (wsV RL 46 RX10 yX10_climb wsX10_climb) := goodIn_app (goodIn_of _ (by decide +kernel)) ggL_law_X10_climb
set_option maxRecDepth 20000 in
theorem ggL_law_X9_ends_h : GoodIn wsL_law [Cond.code yX9_ends cX9_ends 1 (some .int)] := goodIn_r _ [601] (by decide +kernel) (by decide +kernel)
set_option maxRecDepth 20000 in
theorem ggL_law_X9_ends_p0 : GoodIn wsL_law [Cond.fieldLink RX9 73 "HalfLadders" "present" "LHalfLadders$Now;", Cond.fieldLink RX9 174 "HalfLadders$Now" "day" "I", Cond.fieldLink RX9 28 "HalfLadders" "told" "LHalfLadders$Orchard;", Cond.methodLink RX9 177 yX2_endDay, Cond.instanceMethod yX2_endDay, Cond.selects RX2 yX2_endDay yX2_endDay, Cond.initialized RX2, Cond.code yX2_endDay cX2_endDay 4 (some .int), Cond.fieldLink RX2 9 "HalfLadders$Now" "day" "I", Cond.fieldLink RX2 15 "HalfLadders$Now" "climbers" "I", Cond.fieldLink RX2 18 "HalfLadders$Now" "climbed" "I", Cond.fieldLink RX2 34 "HalfLadders$Orchard" "trees" "I", Cond.fieldLink RX2 67 "HalfLadders$Orchard" "ripes" "[I", Cond.fieldLink RX2 30 "HalfLadders$Now" "left" "[I", Cond.fieldLink RX2 24 "HalfLadders$Now" "fallen" "I"] := goodIn_r _ [49, 602, 24, 603, 604, 605, 48, 606, 126, 127, 128, 260, 607, 132, 130] (by decide +kernel) (by decide +kernel)
set_option maxRecDepth 20000 in
theorem ggL_law_X9_ends_wsX90 : GoodIn wsL_law wsX90 := goodIn_sub inlX9 (by decide +kernel)
set_option maxRecDepth 20000 in
theorem ggL_law_X9_ends_wsX20 : GoodIn wsL_law wsX20 := goodIn_sub inlX2 (by decide +kernel)
set_option maxRecDepth 20000 in
theorem ggL_law_X9_ends_wsX30 : GoodIn wsL_law wsX30 := goodIn_sub inlX3 (by decide +kernel)
set_option maxRecDepth 20000 in
theorem ggL_law_X9_ends : GoodIn wsL_law wsX9_ends := fun w h => (List.mem_cons.mp h).elim (fun e => ggL_law_X9_ends_h w (List.mem_cons.mpr (Or.inl e))) (fun h => (goodIn_app (goodIn_app (goodIn_app (show GoodIn wsL_law [Cond.fieldLink RX9 73 "HalfLadders" "present" "LHalfLadders$Now;", Cond.fieldLink RX9 174 "HalfLadders$Now" "day" "I", Cond.fieldLink RX9 28 "HalfLadders" "told" "LHalfLadders$Orchard;", Cond.methodLink RX9 177 yX2_endDay, Cond.instanceMethod yX2_endDay, Cond.selects RX2 yX2_endDay yX2_endDay, Cond.initialized RX2, Cond.code yX2_endDay cX2_endDay 4 (some .int), Cond.fieldLink RX2 9 "HalfLadders$Now" "day" "I", Cond.fieldLink RX2 15 "HalfLadders$Now" "climbers" "I", Cond.fieldLink RX2 18 "HalfLadders$Now" "climbed" "I", Cond.fieldLink RX2 34 "HalfLadders$Orchard" "trees" "I", Cond.fieldLink RX2 67 "HalfLadders$Orchard" "ripes" "[I", Cond.fieldLink RX2 30 "HalfLadders$Now" "left" "[I", Cond.fieldLink RX2 24 "HalfLadders$Now" "fallen" "I"] from ggL_law_X9_ends_p0) ggL_law_X9_ends_wsX90) ggL_law_X9_ends_wsX20) ggL_law_X9_ends_wsX30) w h)
set_option maxRecDepth 20000 in
theorem gL_law_X9_ends : GoodIn wsL_law (wsV RL 47 RX9 yX9_ends wsX9_ends) := goodIn_app (goodIn_of _ (by decide +kernel)) ggL_law_X9_ends
set_option maxRecDepth 20000 in
theorem ggL_law_X10_ends_h : GoodIn wsL_law [Cond.code yX10_ends cX10_ends 1 (some .int)] := goodIn_r _ [611] (by decide +kernel) (by decide +kernel)
set_option maxRecDepth 20000 in
theorem ggL_law_X10_ends_p0 : GoodIn wsL_law [Cond.fieldLink RX10 45 "HalfLaddersModel" "now" "[I", Cond.methodLink RX10 147 yX10_endDay, Cond.instanceMethod yX10_endDay, Cond.selects RX10 yX10_endDay yX10_endDay, Cond.initialized RX10, Cond.code yX10_endDay cX10_endDay 4 (some .int), Cond.fieldLink RX10 33 "HalfLaddersModel" "trees" "[I", Cond.fieldLink RX10 39 "HalfLaddersModel" "ripe" "[I"] := goodIn_r _ [277, 612, 613, 614, 5, 615, 273, 275] (by decide +kernel) (by decide +kernel)
set_option maxRecDepth 20000 in
theorem ggL_law_X10_ends_wsX100 : GoodIn wsL_law wsX100 := goodIn_sub inlX10 (by decide +kernel)
set_option maxRecDepth 20000 in
theorem ggL_law_X10_ends : GoodIn wsL_law wsX10_ends := fun w h => (List.mem_cons.mp h).elim (fun e => ggL_law_X10_ends_h w (List.mem_cons.mpr (Or.inl e))) (fun h => (goodIn_app (show GoodIn wsL_law [Cond.fieldLink RX10 45 "HalfLaddersModel" "now" "[I", Cond.methodLink RX10 147 yX10_endDay, Cond.instanceMethod yX10_endDay, Cond.selects RX10 yX10_endDay yX10_endDay, Cond.initialized RX10, Cond.code yX10_endDay cX10_endDay 4 (some .int), Cond.fieldLink RX10 33 "HalfLaddersModel" "trees" "[I", Cond.fieldLink RX10 39 "HalfLaddersModel" "ripe" "[I"] from ggL_law_X10_ends_p0) ggL_law_X10_ends_wsX100) w h)
