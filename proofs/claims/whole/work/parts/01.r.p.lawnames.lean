theorem ggL_law_X9_season_h : GoodIn wsL_law [Cond.code yX9_season cX9_season 4 (some .int)] := goodIn_r _ [715] (by decide +kernel) (by decide +kernel)
set_option maxRecDepth 20000 in
theorem ggL_law_X9_season_r1 : GoodIn wsL_law wsX9_season_r1 := goodIn_r _ [50, 49, 602, 45, 24, 29, 716, 717, 718, 48, 719, 126, 127, 128, 129, 130, 131, 132, 657, 658, 659, 44, 660, 122] (by decide +kernel) (by decide +kernel)
set_option maxRecDepth 20000 in
theorem ggL_law_X9_season_r2 : GoodIn wsL_law wsX9_season_r2 := goodIn_r _ [661, 662, 121, 663, 189, 190, 191, 664, 561, 562, 563, 564, 565, 566, 567, 568, 150, 151, 152, 569, 570, 571, 23, 572] (by decide +kernel) (by decide +kernel)
set_option maxRecDepth 20000 in
theorem ggL_law_X9_season_r3 : GoodIn wsL_law wsX9_season_r3 := goodIn_r _ [85, 573, 523, 524, 525, 78, 665, 171, 172, 173, 77, 666, 667, 668, 669, 670, 213, 204, 214, 215, 216, 217, 671, 672] (by decide +kernel) (by decide +kernel)
set_option maxRecDepth 20000 in
theorem ggL_law_X9_season_r4 : GoodIn wsL_law wsX9_season_r4 := goodIn_r _ [673, 674, 675, 182, 183, 676, 677, 678, 679, 680, 681, 682, 683, 684, 685, 686, 687, 688, 119, 689, 690, 691, 692, 720] (by decide +kernel) (by decide +kernel)
set_option maxRecDepth 20000 in
theorem ggL_law_X9_season_r5 : GoodIn wsL_law wsX9_season_r5 := goodIn_r _ [721, 722, 723, 724, 575, 576, 577, 603, 604, 605, 606, 260, 607] (by decide +kernel) (by decide +kernel)
theorem ggL_law_X9_season_wsX90 : GoodIn wsL_law wsX90 := goodIn_sub inlX9 (by decide +kernel)
