set_option maxRecDepth 20000 in
theorem ggL_law_X9_lot_wsX20 : GoodIn wsL_law wsX20 := goodIn_sub inlX2 (by decide +kernel)
set_option maxRecDepth 20000 in
theorem ggL_law_X9_lot : GoodIn wsL_law wsX9_lot := fun w h => (List.mem_cons.mp h).elim (fun e => ggL_law_X9_lot_h w (List.mem_cons.mpr (Or.inl e))) (fun h => (goodIn_app (goodIn_app (show GoodIn wsL_law [Cond.fieldLink RX9 73 "HalfLadders" "present" "LHalfLadders$Now;", Cond.fieldLink RX9 92 "HalfLadders$Now" "theLot" "I"] from ggL_law_X9_lot_p0) ggL_law_X9_lot_wsX90) ggL_law_X9_lot_wsX20) w h)
set_option maxRecDepth 20000 in
theorem gL_law_X9_lot : GoodIn wsL_law (wsV RL 60 RX9 yX9_lot wsX9_lot) := goodIn_app (goodIn_of _ (by decide +kernel)) ggL_law_X9_lot
set_option maxRecDepth 20000 in
theorem ggL_law_X10_lot_h : GoodIn wsL_law [Cond.code yX10_lot cX10_lot 3 (some .int)] := goodIn_r _ [651] (by decide +kernel) (by decide +kernel)
set_option maxRecDepth 20000 in
theorem ggL_law_X10_lot_p0 : GoodIn wsL_law [Cond.fieldLink RX10 45 "HalfLaddersModel" "now" "[I"] := goodIn_r _ [277] (by decide +kernel) (by decide +kernel)
set_option maxRecDepth 20000 in
theorem ggL_law_X10_lot_wsX100 : GoodIn wsL_law wsX100 := goodIn_sub inlX10 (by decide +kernel)
set_option maxRecDepth 20000 in
theorem ggL_law_X10_lot : GoodIn wsL_law wsX10_lot := fun w h => (List.mem_cons.mp h).elim (fun e => ggL_law_X10_lot_h w (List.mem_cons.mpr (Or.inl e))) (fun h => (goodIn_app (show GoodIn wsL_law [Cond.fieldLink RX10 45 "HalfLaddersModel" "now" "[I"] from ggL_law_X10_lot_p0) ggL_law_X10_lot_wsX100) w h)
set_option maxRecDepth 20000 in
theorem gL_law_X10_lot : GoodIn wsL_law (wsV RL 63 RX10 yX10_lot wsX10_lot) := goodIn_app (goodIn_of _ (by decide +kernel)) ggL_law_X10_lot
set_option maxRecDepth 20000 in
theorem ggL_law_X9_best_h : GoodIn wsL_law [Cond.code yX9_best cX9_best 4 (some .int)] := goodIn_r _ [655] (by decide +kernel) (by decide +kernel)
set_option maxRecDepth 20000 in
theorem ggL_law_X9_best_r1 : GoodIn wsL_law wsX9_best_r1 := goodIn_r _ [24, 45, 29, 49, 656, 522, 523, 524, 23, 525, 78, 657, 658, 659, 44, 660, 122, 661, 662, 121, 663, 189, 190, 191] (by decide +kernel) (by decide +kernel)
set_option maxRecDepth 20000 in
theorem ggL_law_X9_best_r2 : GoodIn wsL_law wsX9_best_r2 := goodIn_r _ [664, 561, 562, 48, 563, 126, 128, 127, 564, 565, 566, 567, 132, 568, 150, 151, 152, 569, 570, 571, 572, 85, 573, 665] (by decide +kernel) (by decide +kernel)
set_option maxRecDepth 20000 in
theorem ggL_law_X9_best_r3 : GoodIn wsL_law wsX9_best_r3 := goodIn_r _ [171, 172, 173, 77, 666, 667, 668, 669, 670, 213, 204, 214, 215, 216, 217, 671, 672, 673, 674, 675, 182, 183, 676, 677] (by decide +kernel) (by decide +kernel)
set_option maxRecDepth 20000 in
theorem ggL_law_X9_best_r4 : GoodIn wsL_law wsX9_best_r4 := goodIn_r _ [678, 679, 680, 681, 682, 683, 684, 685, 686, 687, 688, 119, 689, 690, 691, 692, 693, 694, 695, 28, 696, 90, 92, 93] (by decide +kernel) (by decide +kernel)
set_option maxRecDepth 20000 in
theorem ggL_law_X9_best_wsX90 : GoodIn wsL_law wsX90 := goodIn_sub inlX9 (by decide +kernel)
