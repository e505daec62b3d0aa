set_option maxRecDepth 20000 in
theorem gL_law_X10_fit : GoodIn wsL_law (wsV RL 41 RX10 yX10_fit wsX10_fit) := goodIn_app (goodIn_of _ (by decide +kernel)) ggL_law_X10_fit
set_option maxRecDepth 20000 in
theorem ggL_law_X9_climb_h : GoodIn wsL_law [Cond.code yX9_climb cX9_climb 6 (some .int)] := goodIn_r _ [554] (by decide +kernel) (by decide +kernel)
set_option maxRecDepth 20000 in
theorem ggL_law_X9_climb_r1 : GoodIn wsL_law wsX9_climb_r1 := goodIn_r _ [24, 29, 49, 555, 538, 539, 540, 2, 541, 504, 163, 164, 23, 165, 77, 522, 523, 524, 525, 78, 556, 557, 558, 28] (by decide +kernel) (by decide +kernel)
set_option maxRecDepth 20000 in
theorem ggL_law_X9_climb_r2 : GoodIn wsL_law wsX9_climb_r2 := goodIn_r _ [559, 90, 94, 560, 561, 562, 48, 563, 126, 128, 127, 564, 565, 566, 567, 132, 568, 150, 151, 152, 569, 570, 571, 572] (by decide +kernel) (by decide +kernel)
set_option maxRecDepth 20000 in
theorem ggL_law_X9_climb_r3 : GoodIn wsL_law wsX9_climb_r3 := goodIn_r _ [85, 573, 574, 575, 576, 577, 129] (by decide +kernel) (by decide +kernel)
set_option maxRecDepth 20000 in
theorem ggL_law_X9_climb_wsX90 : GoodIn wsL_law wsX90 := goodIn_sub inlX9 (by decide +kernel)
set_option maxRecDepth 20000 in
theorem ggL_law_X9_climb_wsX40 : GoodIn wsL_law wsX40 := goodIn_sub inlX4 (by decide +kernel)
set_option maxRecDepth 20000 in
theorem ggL_law_X9_climb_wsX30 : GoodIn wsL_law wsX30 := goodIn_sub inlX3 (by decide +kernel)
set_option maxRecDepth 20000 in
theorem ggL_law_X9_climb_wsX20 : GoodIn wsL_law wsX20 := goodIn_sub inlX2 (by decide +kernel)
set_option maxRecDepth 20000 in
theorem ggL_law_X9_climb : GoodIn wsL_law wsX9_climb := fun w h => (List.mem_cons.mp h).elim (fun e => ggL_law_X9_climb_h w (List.mem_cons.mpr (Or.inl e))) (fun h => (goodIn_app (goodIn_app (goodIn_app (goodIn_app (goodIn_app ggL_law_X9_climb_r1 (goodIn_app ggL_law_X9_climb_r2 (ggL_law_X9_climb_r3))) ggL_law_X9_climb_wsX90) ggL_law_X9_climb_wsX40) ggL_law_X9_climb_wsX30) ggL_law_X9_climb_wsX20) w h)
set_option maxRecDepth 20000 in
theorem gL_law_X9_climb : GoodIn wsL_law (wsV RL 42 RX9 yX9_climb wsX9_climb) := goodIn_app (goodIn_of _ (by decide +kernel)) ggL_law_X9_climb
set_option maxRecDepth 20000 in
theorem ggL_law_X10_climb_h : GoodIn wsL_law [Cond.code yX10_climb cX10_climb 4 (some .int)] := goodIn_r _ [581] (by decide +kernel) (by decide +kernel)
set_option maxRecDepth 20000 in
theorem ggL_law_X10_climb_r1 : GoodIn wsL_law wsX10_climb_r1 := goodIn_r _ [509, 510, 511, 5, 512, 267, 305, 306, 307, 530, 531, 532, 533, 273, 582, 583, 584, 585, 277, 275, 274, 547, 548, 549] (by decide +kernel) (by decide +kernel)
set_option maxRecDepth 20000 in
theorem ggL_law_X10_climb_r2 : GoodIn wsL_law wsX10_climb_r2 := goodIn_r _ [550, 268, 269, 272, 586, 587, 588, 589, 270, 590, 591, 592, 593, 594, 595, 596, 597, 271] (by decide +kernel) (by decide +kernel)
