set_option maxRecDepth 20000 in
theorem gL_law_X9_orchard : GoodIn wsL_law (wsV RL 25 RX9 yX9_orchard wsX9_orchard) := goodIn_app (goodIn_of _ (by decide +kernel)) ggL_law_X9_orchard
set_option maxRecDepth 20000 in
theorem ggL_law_X10_orchard_h : GoodIn wsL_law [Cond.code yX10_orchard cX10_orchard 3 (some .int)] := goodIn_r _ [461] (by decide +kernel) (by decide +kernel)
set_option maxRecDepth 20000 in
theorem ggL_law_X10_orchard_r1 : GoodIn wsL_law wsX10_orchard_r1 := goodIn_r _ [462, 463, 267, 273, 272, 464, 268, 269, 270, 271, 274, 275, 276, 277, 278, 303, 465, 466, 467, 5, 468, 469, 470, 471] (by decide +kernel) (by decide +kernel)
set_option maxRecDepth 20000 in
theorem ggL_law_X10_orchard_r2 : GoodIn wsL_law wsX10_orchard_r2 := goodIn_r _ [472, 473, 474, 266, 305, 306, 307, 475, 476, 477, 478, 479, 480, 481, 482, 483, 484, 485, 486, 487, 488, 489, 490, 491] (by decide +kernel) (by decide +kernel)
set_option maxRecDepth 20000 in
theorem ggL_law_X10_orchard_r3 : GoodIn wsL_law wsX10_orchard_r3 := goodIn_r _ [492, 493, 494] (by decide +kernel) (by decide +kernel)
set_option maxRecDepth 20000 in
theorem ggL_law_X10_orchard_wsX100 : GoodIn wsL_law wsX100 := goodIn_sub inlX10 (by decide +kernel)
set_option maxRecDepth 20000 in
theorem ggL_law_X10_orchard : GoodIn wsL_law wsX10_orchard := fun w h => (List.mem_cons.mp h).elim (fun e => ggL_law_X10_orchard_h w (List.mem_cons.mpr (Or.inl e))) (fun h => (goodIn_app (goodIn_app ggL_law_X10_orchard_r1 (goodIn_app ggL_law_X10_orchard_r2 (ggL_law_X10_orchard_r3))) ggL_law_X10_orchard_wsX100) w h)
set_option maxRecDepth 20000 in
theorem gL_law_X10_orchard : GoodIn wsL_law (wsV RL 28 RX10 yX10_orchard wsX10_orchard) := goodIn_app (goodIn_of _ (by decide +kernel)) ggL_law_X10_orchard
set_option maxRecDepth 20000 in
theorem ggL_law_X9_half_h : GoodIn wsL_law [Cond.code yX9_half cX9_half 3 (some .int)] := goodIn_r _ [498] (by decide +kernel) (by decide +kernel)
set_option maxRecDepth 20000 in
theorem ggL_law_X9_half_p0 : GoodIn wsL_law [Cond.fieldLink RX9 28 "HalfLadders" "told" "LHalfLadders$Orchard;", Cond.fieldLink RX9 118 "HalfLadders$Orchard" "sides" "[I", Cond.fieldLink RX9 122 "HalfLadders$Orchard" "gaps" "[I", Cond.fieldLink RX9 125 "HalfLadders$Orchard" "lengths" "[I", Cond.fieldLink RX9 128 "HalfLadders$Orchard" "paces" "[I", Cond.fieldLink RX9 73 "HalfLadders" "present" "LHalfLadders$Now;", Cond.fieldLink RX9 131 "HalfLadders$Now" "climbers" "I", Cond.methodLink RX9 114 yX3_hasHalf, Cond.instanceMethod yX3_hasHalf, Cond.selects RX3 yX3_hasHalf yX3_hasHalf, Cond.initialized RX3, Cond.code yX3_hasHalf cX3_hasHalf 2 (some .boolean), Cond.fieldLink RX3 9 "HalfLadders$Orchard" "people" "I"] := goodIn_r _ [24, 499, 500, 501, 502, 49, 503, 504, 163, 164, 23, 165, 77] (by decide +kernel) (by decide +kernel)
set_option maxRecDepth 20000 in
theorem ggL_law_X9_half_wsX90 : GoodIn wsL_law wsX90 := goodIn_sub inlX9 (by decide +kernel)
set_option maxRecDepth 20000 in
theorem ggL_law_X9_half_wsX30 : GoodIn wsL_law wsX30 := goodIn_sub inlX3 (by decide +kernel)
set_option maxRecDepth 20000 in
theorem ggL_law_X9_half_wsX20 : GoodIn wsL_law wsX20 := goodIn_sub inlX2 (by decide +kernel)
set_option maxRecDepth 20000 in
theorem ggL_law_X9_half : GoodIn wsL_law wsX9_half := fun w h => (List.mem_cons.mp h).elim (fun e => ggL_law_X9_half_h w (List.mem_cons.mpr (Or.inl e))) (fun h => (goodIn_app (goodIn_app (goodIn_app (show GoodIn wsL_law [Cond.fieldLink RX9 28 "HalfLadders" "told" "LHalfLadders$Orchard;", Cond.fieldLink RX9 118 "HalfLadders$Orchard" "sides" "[I", Cond.fieldLink RX9 122 "HalfLadders$Orchard" "gaps" "[I", Cond.fieldLink RX9 125 "HalfLadders$Orchard" "lengths" "[I", Cond.fieldLink RX9 128 "HalfLadders$Orchard" "paces" "[I", Cond.fieldLink RX9 73 "HalfLadders" "present" "LHalfLadders$Now;", Cond.fieldLink RX9 131 "HalfLadders$Now" "climbers" "I", Cond.methodLink RX9 114 yX3_hasHalf, Cond.instanceMethod yX3_hasHalf, Cond.selects RX3 yX3_hasHalf yX3_hasHalf, Cond.initialized RX3, Cond.code yX3_hasHalf cX3_hasHalf 2 (some .boolean), Cond.fieldLink RX3 9 "HalfLadders$Orchard" "people" "I"] from ggL_law_X9_half_p0) ggL_law_X9_half_wsX90) ggL_law_X9_half_wsX30) ggL_law_X9_half_wsX20) w h)
