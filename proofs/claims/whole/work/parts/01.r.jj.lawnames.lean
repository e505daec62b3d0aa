set_option maxRecDepth 20000 in
theorem ggL_law_X9_season_r2 : GoodIn wsL_law wsX9_season_r2 := goodIn_r _ [661, 662, 121, 663, 189, 190, 191, 664, 561, 562, 563, 564, 565, 566, 567, 568, 150, 151, 152, 569, 570, 571, 23, 572] (by decide +kernel) (by decide +kernel)
set_option maxRecDepth 20000 in
theorem ggL_law_X9_season_r3 : GoodIn wsL_law wsX9_season_r3 := goodIn_r _ [85, 573, 523, 524, 525, 78, 665, 171, 172, 173, 77, 666, 667, 668, 669, 670, 213, 204, 214, 215, 216, 217, 671, 672] (by decide +kernel) (by decide +kernel)
set_option maxRecDepth 20000 in
theorem ggL_law_X9_season_r4 : GoodIn wsL_law wsX9_season_r4 := goodIn_r _ [673, 674, 675, 182, 183, 676, 677, 678, 679, 680, 681, 682, 683, 684, 685, 686, 687, 688, 119, 689, 690, 691, 692, 720] (by decide +kernel) (by decide +kernel)
set_option maxRecDepth 20000 in
theorem ggL_law_X9_season_r5 : GoodIn wsL_law wsX9_season_r5 := goodIn_r _ [721, 722, 723, 724, 575, 576, 577, 603, 604, 605, 606, 260, 607] (by decide +kernel) (by decide +kernel)
set_option maxRecDepth 20000 in
theorem ggL_law_X9_season_wsX90 : GoodIn wsL_law wsX90 := goodIn_sub inlX9 (by decide +kernel)
set_option maxRecDepth 20000 in
theorem ggL_law_X9_season_wsX20 : GoodIn wsL_law wsX20 := goodIn_sub inlX2 (by decide +kernel)
set_option maxRecDepth 20000 in
theorem ggL_law_X9_season_wsX50 : GoodIn wsL_law wsX50 := goodIn_sub inlX5 (by decide +kernel)
set_option maxRecDepth 20000 in
theorem ggL_law_X9_season_wsX30 : GoodIn wsL_law wsX30 := goodIn_sub inlX3 (by decide +kernel)
set_option maxRecDepth 20000 in
theorem ggL_law_X9_season_wsX40 : GoodIn wsL_law wsX40 := goodIn_sub inlX4 (by decide +kernel)
set_option maxRecDepth 20000 in
theorem ggL_law_X9_season : GoodIn wsL_law wsX9_season := fun w h => (List.mem_cons.mp h).elim (fun e => ggL_law_X9_season_h w (List.mem_cons.mpr (Or.inl e))) (fun h => (goodIn_app (goodIn_app (goodIn_app (goodIn_app (goodIn_app (goodIn_app ggL_law_X9_season_r1 (goodIn_app ggL_law_X9_season_r2 (goodIn_app ggL_law_X9_season_r3 (goodIn_app ggL_law_X9_season_r4 (ggL_law_X9_season_r5))))) ggL_law_X9_season_wsX90) ggL_law_X9_season_wsX20) ggL_law_X9_season_wsX50) ggL_law_X9_season_wsX30) ggL_law_X9_season_wsX40) w h)
set_option maxRecDepth 20000 in
theorem gL_law_X9_season : GoodIn wsL_law (wsV RL 68 RX9 yX9_season wsX9_season) := goodIn_app (goodIn_of _ (by decide +kernel)) ggL_law_X9_season
set_option maxRecDepth 20000 in
theorem ggL_law_X10_season_h : GoodIn wsL_law [Cond.code yX10_season cX10_season 5 (some .int)] := goodIn_r _ [728] (by decide +kernel) (by decide +kernel)
set_option maxRecDepth 20000 in
theorem ggL_law_X10_season_r1 : GoodIn wsL_law wsX10_season_r1 := goodIn_r _ [279, 273, 280, 277, 305, 306, 5, 307, 729, 730, 731, 732, 701, 702, 703, 704, 705, 706, 707, 708, 268, 509, 510, 511] (by decide +kernel) (by decide +kernel)
