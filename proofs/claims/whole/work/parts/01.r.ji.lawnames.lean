set_option maxRecDepth 20000 in
theorem ggL_law_X9_best_wsX50 : GoodIn wsL_law wsX50 := goodIn_sub inlX5 (by decide +kernel)
set_option maxRecDepth 20000 in
theorem ggL_law_X9_best_wsX30 : GoodIn wsL_law wsX30 := goodIn_sub inlX3 (by decide +kernel)
set_option maxRecDepth 20000 in
theorem ggL_law_X9_best_wsX40 : GoodIn wsL_law wsX40 := goodIn_sub inlX4 (by decide +kernel)
set_option maxRecDepth 20000 in
theorem ggL_law_X9_best_wsX20 : GoodIn wsL_law wsX20 := goodIn_sub inlX2 (by decide +kernel)
set_option maxRecDepth 20000 in
theorem ggL_law_X9_best : GoodIn wsL_law wsX9_best := fun w h => (List.mem_cons.mp h).elim (fun e => ggL_law_X9_best_h w (List.mem_cons.mpr (Or.inl e))) (fun h => (goodIn_app (goodIn_app (goodIn_app (goodIn_app (goodIn_app (goodIn_app ggL_law_X9_best_r1 (goodIn_app ggL_law_X9_best_r2 (goodIn_app ggL_law_X9_best_r3 (ggL_law_X9_best_r4)))) ggL_law_X9_best_wsX90) ggL_law_X9_best_wsX50) ggL_law_X9_best_wsX30) ggL_law_X9_best_wsX40) ggL_law_X9_best_wsX20) w h)
set_option maxRecDepth 20000 in
theorem gL_law_X9_best : GoodIn wsL_law (wsV RL 64 RX9 yX9_best wsX9_best) := goodIn_app (goodIn_of _ (by decide +kernel)) ggL_law_X9_best
set_option maxRecDepth 20000 in
theorem ggL_law_X10_best_h : GoodIn wsL_law [Cond.code yX10_best cX10_best 2 (some .int)] := goodIn_r _ [700] (by decide +kernel) (by decide +kernel)
set_option maxRecDepth 20000 in
theorem ggL_law_X10_best_r1 : GoodIn wsL_law wsX10_best_r1 := goodIn_r _ [273, 279, 280, 305, 306, 5, 307, 701, 702, 703, 704, 705, 706, 707, 708, 268, 509, 510, 511, 512, 267, 582, 583, 584] (by decide +kernel) (by decide +kernel)
set_option maxRecDepth 20000 in
theorem ggL_law_X10_best_r2 : GoodIn wsL_law wsX10_best_r2 := goodIn_r _ [585, 277, 275, 274, 547, 548, 549, 550, 269, 272, 586, 587, 588, 589, 270, 709, 710, 711, 594, 595, 596, 597, 271] (by decide +kernel) (by decide +kernel)
set_option maxRecDepth 20000 in
theorem ggL_law_X10_best_wsX100 : GoodIn wsL_law wsX100 := goodIn_sub inlX10 (by decide +kernel)
set_option maxRecDepth 20000 in
theorem ggL_law_X10_best : GoodIn wsL_law wsX10_best := fun w h => (List.mem_cons.mp h).elim (fun e => ggL_law_X10_best_h w (List.mem_cons.mpr (Or.inl e))) (fun h => (goodIn_app (goodIn_app ggL_law_X10_best_r1 (ggL_law_X10_best_r2)) ggL_law_X10_best_wsX100) w h)
set_option maxRecDepth 20000 in
theorem gL_law_X10_best : GoodIn wsL_law (wsV RL 67 RX10 yX10_best wsX10_best) := goodIn_app (goodIn_of _ (by decide +kernel)) ggL_law_X10_best
set_option maxRecDepth 20000 in
theorem ggL_law_X9_season_h : GoodIn wsL_law [Cond.code yX9_season cX9_season 4 (some .int)] := goodIn_r _ [715] (by decide +kernel) (by decide +kernel)
set_option maxRecDepth 20000 in
theorem ggL_law_X9_season_r1 : GoodIn wsL_law wsX9_season_r1 := goodIn_r _ [50, 49, 602, 45, 24, 29, 716, 717, 718, 48, 719, 126, 127, 128, 129, 130, 131, 132, 657, 658, 659, 44, 660, 122] (by decide +kernel) (by decide +kernel)
