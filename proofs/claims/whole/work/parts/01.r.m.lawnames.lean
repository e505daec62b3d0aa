theorem ggL_law_X9_best_h : GoodIn wsL_law [Cond.code yX9_best cX9_best 4 (some .int)] := goodIn_r _ [655] (by decide +kernel) (by decide +kernel)
set_option maxRecDepth 20000 in
theorem ggL_law_X9_best_r1 : GoodIn wsL_law wsX9_best_r1 := goodIn_r _ [24, 45, 29, 49, 656, 522, 523, 524, 23, 525, 78, 657, 658, 659, 44, 660, 122, 661, 662, 121, 663, 189, 190, 191] (by decide +kernel) (by decide +kernel)
set_option maxRecDepth 20000 in
theorem ggL_law_X9_best_r2 : GoodIn wsL_law wsX9_best_r2 := goodIn_r _ [664, 561, 562, 48, 563, 126, 128, 127, 564, 565, 566, 567, 132, 568, 150, 151, 152, 569, 570, 571, 572, 85, 573, 665] (by decide +kernel) (by decide +kernel)
set_option maxRecDepth 20000 in
theorem ggL_law_X9_best_r3 : GoodIn wsL_law wsX9_best_r3 := goodIn_r _ [171, 172, 173, 77, 666, 667, 668, 669, 670, 213, 204, 214, 215, 216, 217, 671, 672, 673, 674, 675, 182, 183, 676, 677] (by decide +kernel) (by decide +kernel)
set_option maxRecDepth 20000 in
theorem ggL_law_X9_best_r4 : GoodIn wsL_law wsX9_best_r4 := goodIn_r _ [678, 679, 680, 681, 682, 683, 684, 685, 686, 687, 688, 119, 689, 690, 691, 692, 693, 694, 695, 28, 696, 90, 92, 93] (by decide +kernel) (by decide +kernel)
theorem ggL_law_X9_best_wsX90 : GoodIn wsL_law wsX90 := goodIn_sub inlX9 (by decide +kernel)
theorem ggL_law_X9_best_wsX50 : GoodIn wsL_law wsX50 := goodIn_sub inlX5 (by decide +kernel)
